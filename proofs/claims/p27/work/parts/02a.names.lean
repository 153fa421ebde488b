/-! printed names -/
def RX0 : String := "MenuScript$ChoiceReader"
def TX0 : u_T := fun k => match k with
  | 0 => ("MenuScript$ChoiceReader", "tokens", "LMenuScript$Tokens;", true)
  | 1 => ("MenuScript$ChoiceReader", "program", "LMenuScript$Program;", true)
  | 2 => ("MenuScript$ChoiceReader", "at", "I", false)
  | _ => ("MenuScript$ChoiceReader", "dishesAhead", "I", false)
def tyX0 : Nat → FieldType := fun k => match k with
  | 0 => .object "MenuScript$Tokens"
  | 1 => .object "MenuScript$Program"
  | 2 => .int
  | _ => .int
abbrev wsX00 : List Cond := u_ws RX0 TX0 4
theorem nmX0 : ∀ a, a < 4 → ∀ b, b < 4 → a ≠ b → (TX0 a).2.1 ≠ (TX0 b).2.1 := by decide +kernel
theorem tyX0_ok : ∀ k, k < 4 → parseFieldDescriptor (TX0 k).2.2.1 = some (tyX0 k) := by decide +kernel
abbrev cX0_init : ByteArray := prog_2_method_1_code
def yX0_init : MethodName := ⟨RX0, "<init>", "(LMenuScript$Tokens;LMenuScript$Program;)V"⟩
abbrev cX0_endOrUnknownName : ByteArray := prog_2_method_2_code
def yX0_endOrUnknownName : MethodName := ⟨RX0, "endOrUnknownName", "(I)I"⟩
abbrev cX0_suiting : ByteArray := prog_2_method_3_code
def yX0_suiting : MethodName := ⟨RX0, "suiting", "(II)I"⟩
abbrev cX0_isInside : ByteArray := prog_2_method_4_code
def yX0_isInside : MethodName := ⟨RX0, "isInside", "(I)Z"⟩
abbrev cX0_expression : ByteArray := prog_2_method_5_code
def yX0_expression : MethodName := ⟨RX0, "expression", "(I)I"⟩
abbrev cX0_isJoined : ByteArray := prog_2_method_6_code
def yX0_isJoined : MethodName := ⟨RX0, "isJoined", "()Z"⟩
abbrev cX0_one : ByteArray := prog_2_method_7_code
def yX0_one : MethodName := ⟨RX0, "one", "(I)I"⟩
abbrev cX0_dishesNamed : ByteArray := prog_2_method_8_code
def yX0_dishesNamed : MethodName := ⟨RX0, "dishesNamed", "(J)I"⟩
def RX1 : String := "MenuScript$FormReader"
def TX1 : u_T := fun k => match k with
  | 0 => ("MenuScript$FormReader", "tokens", "LMenuScript$Tokens;", true)
  | 1 => ("MenuScript$FormReader", "at", "I", false)
  | _ => ("MenuScript$FormReader", "choiceTokens", "I", false)
def tyX1 : Nat → FieldType := fun k => match k with
  | 0 => .object "MenuScript$Tokens"
  | 1 => .int
  | _ => .int
abbrev wsX10 : List Cond := u_ws RX1 TX1 3
theorem nmX1 : ∀ a, a < 3 → ∀ b, b < 3 → a ≠ b → (TX1 a).2.1 ≠ (TX1 b).2.1 := by decide +kernel
theorem tyX1_ok : ∀ k, k < 3 → parseFieldDescriptor (TX1 k).2.2.1 = some (tyX1 k) := by decide +kernel
abbrev cX1_init : ByteArray := prog_3_method_1_code
def yX1_init : MethodName := ⟨RX1, "<init>", "(LMenuScript$Tokens;)V"⟩
abbrev cX1_errorInProgram : ByteArray := prog_3_method_2_code
def yX1_errorInProgram : MethodName := ⟨RX1, "errorInProgram", "()I"⟩
abbrev cX1_readFood : ByteArray := prog_3_method_4_code
def yX1_readFood : MethodName := ⟨RX1, "readFood", "()Z"⟩
abbrev cX1_readDish : ByteArray := prog_3_method_5_code
def yX1_readDish : MethodName := ⟨RX1, "readDish", "()Z"⟩
abbrev cX1_readPart : ByteArray := prog_3_method_6_code
def yX1_readPart : MethodName := ⟨RX1, "readPart", "()Z"⟩
abbrev cX1_readTags : ByteArray := prog_3_method_7_code
def yX1_readTags : MethodName := ⟨RX1, "readTags", "()Z"⟩
abbrev cX1_readMeal : ByteArray := prog_3_method_8_code
def yX1_readMeal : MethodName := ⟨RX1, "readMeal", "()Z"⟩
abbrev cX1_readRule : ByteArray := prog_3_method_9_code
def yX1_readRule : MethodName := ⟨RX1, "readRule", "()Z"⟩
abbrev cX1_readSpan : ByteArray := prog_3_method_10_code
def yX1_readSpan : MethodName := ⟨RX1, "readSpan", "()Z"⟩
abbrev cX1_readExpression : ByteArray := prog_3_method_11_code
def yX1_readExpression : MethodName := ⟨RX1, "readExpression", "(I)Z"⟩
abbrev cX1_readOne : ByteArray := prog_3_method_12_code
def yX1_readOne : MethodName := ⟨RX1, "readOne", "(I)Z"⟩
abbrev cX1_isKind : ByteArray := prog_3_method_13_code
def yX1_isKind : MethodName := ⟨RX1, "isKind", "(I)Z"⟩
abbrev cX1_take : ByteArray := prog_3_method_14_code
def yX1_take : MethodName := ⟨RX1, "take", "(I)Z"⟩
abbrev cX1_takeOfChoice : ByteArray := prog_3_method_15_code
def yX1_takeOfChoice : MethodName := ⟨RX1, "takeOfChoice", "(I)Z"⟩
def RX2 : String := "MenuScript$MeaningReader"
def TX2 : u_T := fun k => match k with
  | 0 => ("MenuScript$MeaningReader", "tokens", "LMenuScript$Tokens;", true)
  | 1 => ("MenuScript$MeaningReader", "program", "LMenuScript$Program;", true)
  | 2 => ("MenuScript$MeaningReader", "choiceReader", "LMenuScript$ChoiceReader;", true)
  | 3 => ("MenuScript$MeaningReader", "choiceStart", "[I", true)
  | 4 => ("MenuScript$MeaningReader", "choiceDishesAhead", "[I", true)
  | 5 => ("MenuScript$MeaningReader", "ruleTag", "[I", true)
  | 6 => ("MenuScript$MeaningReader", "at", "I", false)
  | 7 => ("MenuScript$MeaningReader", "error", "I", false)
  | 8 => ("MenuScript$MeaningReader", "errorToken", "I", false)
  | 9 => ("MenuScript$MeaningReader", "number", "I", false)
  | 10 => ("MenuScript$MeaningReader", "tagSet", "I", false)
  | 11 => ("MenuScript$MeaningReader", "dishEnergy", "J", false)
  | _ => ("MenuScript$MeaningReader", "dishPrice", "J", false)
def tyX2 : Nat → FieldType := fun k => match k with
  | 0 => .object "MenuScript$Tokens"
  | 1 => .object "MenuScript$Program"
  | 2 => .object "MenuScript$ChoiceReader"
  | 3 => .array .int
  | 4 => .array .int
  | 5 => .array .int
  | 6 => .int
  | 7 => .int
  | 8 => .int
  | 9 => .int
  | 10 => .int
  | 11 => .long
  | _ => .long
abbrev wsX20 : List Cond := u_ws RX2 TX2 13
theorem nmX2 : ∀ a, a < 13 → ∀ b, b < 13 → a ≠ b → (TX2 a).2.1 ≠ (TX2 b).2.1 := by decide +kernel
theorem tyX2_ok : ∀ k, k < 13 → parseFieldDescriptor (TX2 k).2.2.1 = some (tyX2 k) := by decide +kernel
abbrev cX2_init : ByteArray := prog_4_method_1_code
def yX2_init : MethodName := ⟨RX2, "<init>", "(LMenuScript$Tokens;LMenuScript$Program;LMenuScript$ChoiceReader;)V"⟩
abbrev cX2_readProgram : ByteArray := prog_4_method_2_code
def yX2_readProgram : MethodName := ⟨RX2, "readProgram", "()I"⟩
abbrev cX2_readFood : ByteArray := prog_4_method_3_code
def yX2_readFood : MethodName := ⟨RX2, "readFood", "()Z"⟩
abbrev cX2_readDish : ByteArray := prog_4_method_4_code
def yX2_readDish : MethodName := ⟨RX2, "readDish", "()Z"⟩
abbrev cX2_takeParts : ByteArray := prog_4_method_5_code
def yX2_takeParts : MethodName := ⟨RX2, "takeParts", "(I)Z"⟩
abbrev cX2_takePart : ByteArray := prog_4_method_6_code
def yX2_takePart : MethodName := ⟨RX2, "takePart", "(II)Z"⟩
abbrev cX2_addFood : ByteArray := prog_4_method_7_code
def yX2_addFood : MethodName := ⟨RX2, "addFood", "(II)V"⟩
abbrev cX2_addDish : ByteArray := prog_4_method_8_code
def yX2_addDish : MethodName := ⟨RX2, "addDish", "(II)V"⟩
abbrev cX2_isTooMuch : ByteArray := prog_4_method_9_code
def yX2_isTooMuch : MethodName := ⟨RX2, "isTooMuch", "(I)Z"⟩
abbrev cX2_tellDish : ByteArray := prog_4_method_10_code
def yX2_tellDish : MethodName := ⟨RX2, "tellDish", "(I)V"⟩
abbrev cX2_takeTags : ByteArray := prog_4_method_11_code
def yX2_takeTags : MethodName := ⟨RX2, "takeTags", "()Z"⟩
abbrev cX2_readMeal : ByteArray := prog_4_method_12_code
def yX2_readMeal : MethodName := ⟨RX2, "readMeal", "()Z"⟩
abbrev cX2_takeChoice : ByteArray := prog_4_method_13_code
def yX2_takeChoice : MethodName := ⟨RX2, "takeChoice", "()Z"⟩
abbrev cX2_readRule : ByteArray := prog_4_method_14_code
def yX2_readRule : MethodName := ⟨RX2, "readRule", "()Z"⟩
abbrev cX2_takeApart : ByteArray := prog_4_method_15_code
def yX2_takeApart : MethodName := ⟨RX2, "takeApart", "(I)Z"⟩
abbrev cX2_takeSpan : ByteArray := prog_4_method_16_code
def yX2_takeSpan : MethodName := ⟨RX2, "takeSpan", "(III)Z"⟩
abbrev cX2_takeEnergy : ByteArray := prog_4_method_17_code
def yX2_takeEnergy : MethodName := ⟨RX2, "takeEnergy", "(I)Z"⟩
abbrev cX2_takeMeant : ByteArray := prog_4_method_18_code
def yX2_takeMeant : MethodName := ⟨RX2, "takeMeant", "(I)Z"⟩
abbrev cX2_findMeantDishes : ByteArray := prog_4_method_19_code
def yX2_findMeantDishes : MethodName := ⟨RX2, "findMeantDishes", "()V"⟩
abbrev cX2_takeNewName : ByteArray := prog_4_method_20_code
def yX2_takeNewName : MethodName := ⟨RX2, "takeNewName", "()Z"⟩
abbrev cX2_takeNumber : ByteArray := prog_4_method_21_code
def yX2_takeNumber : MethodName := ⟨RX2, "takeNumber", "(II)Z"⟩
abbrev cX2_isKind : ByteArray := prog_4_method_22_code
def yX2_isKind : MethodName := ⟨RX2, "isKind", "(I)Z"⟩
abbrev cX2_fail : ByteArray := prog_4_method_23_code
def yX2_fail : MethodName := ⟨RX2, "fail", "(II)Z"⟩
def RX3 : String := "MenuScript$Menu"
def TX3 : u_T := fun k => match k with
  | 0 => ("MenuScript$Menu", "program", "LMenuScript$Program;", true)
  | 1 => ("MenuScript$Menu", "dishAt", "[[I", true)
  | 2 => ("MenuScript$Menu", "meantOn", "[[I", true)
  | 3 => ("MenuScript$Menu", "energyOn", "[I", true)
  | 4 => ("MenuScript$Menu", "timesOf", "[I", true)
  | 5 => ("MenuScript$Menu", "faultsBy", "[I", true)
  | 6 => ("MenuScript$Menu", "days", "I", false)
  | _ => ("MenuScript$Menu", "gaps", "I", false)
def tyX3 : Nat → FieldType := fun k => match k with
  | 0 => .object "MenuScript$Program"
  | 1 => .array (.array .int)
  | 2 => .array (.array .int)
  | 3 => .array .int
  | 4 => .array .int
  | 5 => .array .int
  | 6 => .int
  | _ => .int
abbrev wsX30 : List Cond := u_ws RX3 TX3 8
theorem nmX3 : ∀ a, a < 8 → ∀ b, b < 8 → a ≠ b → (TX3 a).2.1 ≠ (TX3 b).2.1 := by decide +kernel
theorem tyX3_ok : ∀ k, k < 8 → parseFieldDescriptor (TX3 k).2.2.1 = some (tyX3 k) := by decide +kernel
abbrev cX3_init : ByteArray := prog_5_method_1_code
def yX3_init : MethodName := ⟨RX3, "<init>", "(LMenuScript$Program;)V"⟩
abbrev cX3_begin : ByteArray := prog_5_method_2_code
def yX3_begin : MethodName := ⟨RX3, "begin", "(I)V"⟩
abbrev cX3_hasDay : ByteArray := prog_5_method_3_code
def yX3_hasDay : MethodName := ⟨RX3, "hasDay", "(I)Z"⟩
abbrev cX3_hasPlace : ByteArray := prog_5_method_4_code
def yX3_hasPlace : MethodName := ⟨RX3, "hasPlace", "(II)Z"⟩
abbrev cX3_dishOn : ByteArray := prog_5_method_5_code
def yX3_dishOn : MethodName := ⟨RX3, "dishOn", "(II)I"⟩
abbrev cX3_put : ByteArray := prog_5_method_6_code
def yX3_put : MethodName := ⟨RX3, "put", "(III)V"⟩
abbrev cX3_allFaults : ByteArray := prog_5_method_7_code
def yX3_allFaults : MethodName := ⟨RX3, "allFaults", "()I"⟩
abbrev cX3_faultsOfTooMuch : ByteArray := prog_5_method_8_code
def yX3_faultsOfTooMuch : MethodName := ⟨RX3, "faultsOfTooMuch", "()I"⟩
abbrev cX3_addTo : ByteArray := prog_5_method_10_code
def yX3_addTo : MethodName := ⟨RX3, "addTo", "(J)J"⟩
abbrev cX3_tally : ByteArray := prog_5_method_11_code
def yX3_tally : MethodName := ⟨RX3, "tally", "(III)V"⟩
abbrev cX3_meaning : ByteArray := prog_5_method_12_code
def yX3_meaning : MethodName := ⟨RX3, "meaning", "(II)I"⟩
abbrev cX3_recount : ByteArray := prog_5_method_13_code
def yX3_recount : MethodName := ⟨RX3, "recount", "(I)V"⟩
abbrev cX3_closePairs : ByteArray := prog_5_method_14_code
def yX3_closePairs : MethodName := ⟨RX3, "closePairs", "(II)I"⟩
abbrev cX3_spansOutside : ByteArray := prog_5_method_15_code
def yX3_spansOutside : MethodName := ⟨RX3, "spansOutside", "(IIII)I"⟩
abbrev cX3_daysOutside : ByteArray := prog_5_method_16_code
def yX3_daysOutside : MethodName := ⟨RX3, "daysOutside", "(II)I"⟩
def RX4 : String := "MenuScript$NameRow"
def TX4 : u_T := fun k => match k with
  | 0 => ("MenuScript$NameRow", "names", "[J", true)
  | 1 => ("MenuScript$NameRow", "most", "I", true)
  | _ => ("MenuScript$NameRow", "size", "I", false)
def tyX4 : Nat → FieldType := fun k => match k with
  | 0 => .array .long
  | 1 => .int
  | _ => .int
abbrev wsX40 : List Cond := u_ws RX4 TX4 3
theorem nmX4 : ∀ a, a < 3 → ∀ b, b < 3 → a ≠ b → (TX4 a).2.1 ≠ (TX4 b).2.1 := by decide +kernel
theorem tyX4_ok : ∀ k, k < 3 → parseFieldDescriptor (TX4 k).2.2.1 = some (tyX4 k) := by decide +kernel
abbrev cX4_init : ByteArray := prog_6_method_1_code
def yX4_init : MethodName := ⟨RX4, "<init>", "(I)V"⟩
abbrev cX4_has : ByteArray := prog_6_method_2_code
def yX4_has : MethodName := ⟨RX4, "has", "(I)Z"⟩
abbrev cX4_isFull : ByteArray := prog_6_method_3_code
def yX4_isFull : MethodName := ⟨RX4, "isFull", "()Z"⟩
abbrev cX4_indexOf : ByteArray := prog_6_method_4_code
def yX4_indexOf : MethodName := ⟨RX4, "indexOf", "(J)I"⟩
abbrev cX4_add : ByteArray := prog_6_method_5_code
def yX4_add : MethodName := ⟨RX4, "add", "(J)V"⟩
def RX5 : String := "MenuScript$Planner"
def TX5 : u_T := fun k => match k with
  | 0 => ("MenuScript$Planner", "program", "LMenuScript$Program;", true)
  | _ => ("MenuScript$Planner", "menu", "LMenuScript$Menu;", true)
def tyX5 : Nat → FieldType := fun k => match k with
  | 0 => .object "MenuScript$Program"
  | _ => .object "MenuScript$Menu"
abbrev wsX50 : List Cond := u_ws RX5 TX5 2
theorem nmX5 : ∀ a, a < 2 → ∀ b, b < 2 → a ≠ b → (TX5 a).2.1 ≠ (TX5 b).2.1 := by decide +kernel
theorem tyX5_ok : ∀ k, k < 2 → parseFieldDescriptor (TX5 k).2.2.1 = some (tyX5 k) := by decide +kernel
abbrev cX5_init : ByteArray := prog_7_method_1_code
def yX5_init : MethodName := ⟨RX5, "<init>", "(LMenuScript$Program;LMenuScript$Menu;)V"⟩
abbrev cX5_fillMenu : ByteArray := prog_7_method_2_code
def yX5_fillMenu : MethodName := ⟨RX5, "fillMenu", "(I)V"⟩
abbrev cX5_bestFor : ByteArray := prog_7_method_3_code
def yX5_bestFor : MethodName := ⟨RX5, "bestFor", "(II)I"⟩
abbrev cX5_changeBest : ByteArray := prog_7_method_4_code
def yX5_changeBest : MethodName := ⟨RX5, "changeBest", "()V"⟩
abbrev cX5_bestInstead : ByteArray := prog_7_method_5_code
def yX5_bestInstead : MethodName := ⟨RX5, "bestInstead", "(III)I"⟩
def RX6 : String := "MenuScript$Program"
def TX6 : u_T := fun k => match k with
  | 0 => ("MenuScript$Program", "foods", "LMenuScript$NameRow;", true)
  | 1 => ("MenuScript$Program", "dishes", "LMenuScript$NameRow;", true)
  | 2 => ("MenuScript$Program", "meals", "LMenuScript$NameRow;", true)
  | 3 => ("MenuScript$Program", "tags", "LMenuScript$NameRow;", true)
  | 4 => ("MenuScript$Program", "rules", "LMenuScript$RuleRow;", true)
  | 5 => ("MenuScript$Program", "foodEnergy", "[I", true)
  | 6 => ("MenuScript$Program", "foodPrice", "[I", true)
  | 7 => ("MenuScript$Program", "foodTags", "[I", true)
  | 8 => ("MenuScript$Program", "servings", "[I", true)
  | 9 => ("MenuScript$Program", "servingEnergy", "[I", true)
  | 10 => ("MenuScript$Program", "servingPrice", "[I", true)
  | 11 => ("MenuScript$Program", "dishTags", "[I", true)
  | 12 => ("MenuScript$Program", "parts", "[I", true)
  | 13 => ("MenuScript$Program", "gramsIn", "[[I", true)
  | 14 => ("MenuScript$Program", "mealOf", "[I", true)
  | 15 => ("MenuScript$Program", "suiting", "[I", true)
  | _ => ("MenuScript$Program", "choices", "I", false)
def tyX6 : Nat → FieldType := fun k => match k with
  | 0 => .object "MenuScript$NameRow"
  | 1 => .object "MenuScript$NameRow"
  | 2 => .object "MenuScript$NameRow"
  | 3 => .object "MenuScript$NameRow"
  | 4 => .object "MenuScript$RuleRow"
  | 5 => .array .int
  | 6 => .array .int
  | 7 => .array .int
  | 8 => .array .int
  | 9 => .array .int
  | 10 => .array .int
  | 11 => .array .int
  | 12 => .array .int
  | 13 => .array (.array .int)
  | 14 => .array .int
  | 15 => .array .int
  | _ => .int
abbrev wsX60 : List Cond := u_ws RX6 TX6 17
theorem nmX6 : ∀ a, a < 17 → ∀ b, b < 17 → a ≠ b → (TX6 a).2.1 ≠ (TX6 b).2.1 := by decide +kernel
theorem tyX6_ok : ∀ k, k < 17 → parseFieldDescriptor (TX6 k).2.2.1 = some (tyX6 k) := by decide +kernel
abbrev cX6_init : ByteArray := prog_8_method_1_code
def yX6_init : MethodName := ⟨RX6, "<init>", "()V"⟩
abbrev cX6_clear : ByteArray := prog_8_method_2_code
def yX6_clear : MethodName := ⟨RX6, "clear", "()V"⟩
abbrev cX6_hasChoice : ByteArray := prog_8_method_3_code
def yX6_hasChoice : MethodName := ⟨RX6, "hasChoice", "(I)Z"⟩
abbrev cX6_isNamed : ByteArray := prog_8_method_4_code
def yX6_isNamed : MethodName := ⟨RX6, "isNamed", "(J)Z"⟩
abbrev cX6_isSuiting : ByteArray := prog_8_method_5_code
def yX6_isSuiting : MethodName := ⟨RX6, "isSuiting", "(II)Z"⟩
abbrev cX6_dishesWithTag : ByteArray := prog_8_method_6_code
def yX6_dishesWithTag : MethodName := ⟨RX6, "dishesWithTag", "(I)I"⟩
abbrev cX6_foodFact : ByteArray := prog_8_method_7_code
def yX6_foodFact : MethodName := ⟨RX6, "foodFact", "(II)I"⟩
abbrev cX6_dishFact : ByteArray := prog_8_method_8_code
def yX6_dishFact : MethodName := ⟨RX6, "dishFact", "(II)I"⟩
abbrev cX6_gramsFor : ByteArray := prog_8_method_10_code
def yX6_gramsFor : MethodName := ⟨RX6, "gramsFor", "(III)J"⟩
abbrev cX6_addTo : ByteArray := prog_8_method_11_code
def yX6_addTo : MethodName := ⟨RX6, "addTo", "(J)J"⟩
def RX7 : String := "MenuScript$RuleRow"
def TX7 : u_T := fun k => match k with
  | 0 => ("MenuScript$RuleRow", "sort", "[I", true)
  | 1 => ("MenuScript$RuleRow", "first", "[I", true)
  | 2 => ("MenuScript$RuleRow", "second", "[I", true)
  | 3 => ("MenuScript$RuleRow", "meant", "[I", true)
  | _ => ("MenuScript$RuleRow", "size", "I", false)
def tyX7 : Nat → FieldType := fun k => match k with
  | 0 => .array .int
  | 1 => .array .int
  | 2 => .array .int
  | 3 => .array .int
  | _ => .int
abbrev wsX70 : List Cond := u_ws RX7 TX7 5
theorem nmX7 : ∀ a, a < 5 → ∀ b, b < 5 → a ≠ b → (TX7 a).2.1 ≠ (TX7 b).2.1 := by decide +kernel
theorem tyX7_ok : ∀ k, k < 5 → parseFieldDescriptor (TX7 k).2.2.1 = some (tyX7 k) := by decide +kernel
abbrev cX7_init : ByteArray := prog_9_method_1_code
def yX7_init : MethodName := ⟨RX7, "<init>", "()V"⟩
abbrev cX7_has : ByteArray := prog_9_method_2_code
def yX7_has : MethodName := ⟨RX7, "has", "(I)Z"⟩
abbrev cX7_fact : ByteArray := prog_9_method_3_code
def yX7_fact : MethodName := ⟨RX7, "fact", "(II)I"⟩
def RX8 : String := "MenuScript$Tape"
def TX8 : u_T := fun k => match k with
  | 0 => ("MenuScript$Tape", "bytes", "[B", true)
  | _ => ("MenuScript$Tape", "length", "I", false)
def tyX8 : Nat → FieldType := fun k => match k with
  | 0 => .array .byte
  | _ => .int
abbrev wsX80 : List Cond := u_ws RX8 TX8 2
theorem nmX8 : ∀ a, a < 2 → ∀ b, b < 2 → a ≠ b → (TX8 a).2.1 ≠ (TX8 b).2.1 := by decide +kernel
theorem tyX8_ok : ∀ k, k < 2 → parseFieldDescriptor (TX8 k).2.2.1 = some (tyX8 k) := by decide +kernel
abbrev cX8_init : ByteArray := prog_10_method_1_code
def yX8_init : MethodName := ⟨RX8, "<init>", "()V"⟩
abbrev cX8_append : ByteArray := prog_10_method_2_code
def yX8_append : MethodName := ⟨RX8, "append", "(I)V"⟩
abbrev cX8_shorten : ByteArray := prog_10_method_3_code
def yX8_shorten : MethodName := ⟨RX8, "shorten", "(I)V"⟩
abbrev cX8_byteAt : ByteArray := prog_10_method_4_code
def yX8_byteAt : MethodName := ⟨RX8, "byteAt", "(I)I"⟩
def RX9 : String := "MenuScript$Tokens"
def TX9 : u_T := fun k => match k with
  | 0 => ("MenuScript$Tokens", "keywords", "[J", true)
  | 1 => ("MenuScript$Tokens", "kinds", "[I", true)
  | 2 => ("MenuScript$Tokens", "starts", "[I", true)
  | 3 => ("MenuScript$Tokens", "values", "[J", true)
  | _ => ("MenuScript$Tokens", "size", "I", false)
def tyX9 : Nat → FieldType := fun k => match k with
  | 0 => .array .long
  | 1 => .array .int
  | 2 => .array .int
  | 3 => .array .long
  | _ => .int
abbrev wsX90 : List Cond := u_ws RX9 TX9 5
theorem nmX9 : ∀ a, a < 5 → ∀ b, b < 5 → a ≠ b → (TX9 a).2.1 ≠ (TX9 b).2.1 := by decide +kernel
theorem tyX9_ok : ∀ k, k < 5 → parseFieldDescriptor (TX9 k).2.2.1 = some (tyX9 k) := by decide +kernel
abbrev cX9_init : ByteArray := prog_11_method_1_code
def yX9_init : MethodName := ⟨RX9, "<init>", "()V"⟩
abbrev cX9_read : ByteArray := prog_11_method_2_code
def yX9_read : MethodName := ⟨RX9, "read", "(LMenuScript$Tape;)V"⟩
abbrev cX9_kindOf : ByteArray := prog_11_method_3_code
def yX9_kindOf : MethodName := ⟨RX9, "kindOf", "(I)I"⟩
abbrev cX9_startOf : ByteArray := prog_11_method_4_code
def yX9_startOf : MethodName := ⟨RX9, "startOf", "(I)I"⟩
abbrev cX9_valueOf : ByteArray := prog_11_method_5_code
def yX9_valueOf : MethodName := ⟨RX9, "valueOf", "(I)J"⟩
abbrev cX9_readAt : ByteArray := prog_11_method_6_code
def yX9_readAt : MethodName := ⟨RX9, "readAt", "(LMenuScript$Tape;I)I"⟩
abbrev cX9_readWord : ByteArray := prog_11_method_7_code
def yX9_readWord : MethodName := ⟨RX9, "readWord", "(LMenuScript$Tape;I)I"⟩
abbrev cX9_readNumber : ByteArray := prog_11_method_8_code
def yX9_readNumber : MethodName := ⟨RX9, "readNumber", "(LMenuScript$Tape;I)I"⟩
abbrev cX9_kindOfWord : ByteArray := prog_11_method_9_code
def yX9_kindOfWord : MethodName := ⟨RX9, "kindOfWord", "(J)I"⟩
abbrev cX9_append : ByteArray := prog_11_method_10_code
def yX9_append : MethodName := ⟨RX9, "append", "(IIJ)V"⟩
abbrev cX9_isLetter : ByteArray := prog_11_method_11_code
def yX9_isLetter : MethodName := ⟨RX9, "isLetter", "(I)Z"⟩
abbrev cX9_isDigit : ByteArray := prog_11_method_12_code
def yX9_isDigit : MethodName := ⟨RX9, "isDigit", "(I)Z"⟩
abbrev cX9_withLetter : ByteArray := prog_11_method_13_code
def yX9_withLetter : MethodName := ⟨RX9, "withLetter", "(JI)J"⟩
def RX10 : String := "MenuScript"
def TX10 : u_T := fun k => match k with
  | 0 => ("MenuScript", "tape", "LMenuScript$Tape;", true)
  | 1 => ("MenuScript", "tokens", "LMenuScript$Tokens;", true)
  | 2 => ("MenuScript", "formReader", "LMenuScript$FormReader;", true)
  | 3 => ("MenuScript", "program", "LMenuScript$Program;", true)
  | 4 => ("MenuScript", "choiceReader", "LMenuScript$ChoiceReader;", true)
  | 5 => ("MenuScript", "meaningReader", "LMenuScript$MeaningReader;", true)
  | 6 => ("MenuScript", "menu", "LMenuScript$Menu;", true)
  | 7 => ("MenuScript", "planner", "LMenuScript$Planner;", true)
  | 8 => ("MenuScript", "errorPosition", "I", false)
  | _ => ("MenuScript", "suitedDishes", "I", false)
def tyX10 : Nat → FieldType := fun k => match k with
  | 0 => .object "MenuScript$Tape"
  | 1 => .object "MenuScript$Tokens"
  | 2 => .object "MenuScript$FormReader"
  | 3 => .object "MenuScript$Program"
  | 4 => .object "MenuScript$ChoiceReader"
  | 5 => .object "MenuScript$MeaningReader"
  | 6 => .object "MenuScript$Menu"
  | 7 => .object "MenuScript$Planner"
  | 8 => .int
  | _ => .int
abbrev wsX100 : List Cond := u_ws RX10 TX10 10
theorem nmX10 : ∀ a, a < 10 → ∀ b, b < 10 → a ≠ b → (TX10 a).2.1 ≠ (TX10 b).2.1 := by decide +kernel
theorem tyX10_ok : ∀ k, k < 10 → parseFieldDescriptor (TX10 k).2.2.1 = some (tyX10 k) := by decide +kernel
abbrev cX10_init : ByteArray := prog_1_method_1_code
def yX10_init : MethodName := ⟨RX10, "<init>", "()V"⟩
abbrev cX10_feed : ByteArray := prog_1_method_2_code
def yX10_feed : MethodName := ⟨RX10, "feed", "(IIIII)I"⟩
abbrev cX10_trim : ByteArray := prog_1_method_3_code
def yX10_trim : MethodName := ⟨RX10, "trim", "(I)I"⟩
abbrev cX10_compile : ByteArray := prog_1_method_4_code
def yX10_compile : MethodName := ⟨RX10, "compile", "()I"⟩
abbrev cX10_errorAt : ByteArray := prog_1_method_5_code
def yX10_errorAt : MethodName := ⟨RX10, "errorAt", "()I"⟩
abbrev cX10_count : ByteArray := prog_1_method_6_code
def yX10_count : MethodName := ⟨RX10, "count", "(I)I"⟩
abbrev cX10_suited : ByteArray := prog_1_method_8_code
def yX10_suited : MethodName := ⟨RX10, "suited", "()I"⟩
abbrev cX10_choice : ByteArray := prog_1_method_12_code
def yX10_choice : MethodName := ⟨RX10, "choice", "(IZ)I"⟩
abbrev cX10_plan : ByteArray := prog_1_method_14_code
def yX10_plan : MethodName := ⟨RX10, "plan", "(I)I"⟩
abbrev cX10_at : ByteArray := prog_1_method_15_code
def yX10_at : MethodName := ⟨RX10, "at", "(II)I"⟩
abbrev cX10_faults : ByteArray := prog_1_method_17_code
def yX10_faults : MethodName := ⟨RX10, "faults", "()I"⟩
abbrev cX10_faultsOf : ByteArray := prog_1_method_18_code
def yX10_faultsOf : MethodName := ⟨RX10, "faultsOf", "(I)I"⟩
abbrev cX10_improve : ByteArray := prog_1_method_19_code
def yX10_improve : MethodName := ⟨RX10, "improve", "()I"⟩
abbrev cX10_exchange : ByteArray := prog_1_method_20_code
def yX10_exchange : MethodName := ⟨RX10, "exchange", "(II)I"⟩
abbrev cX10_times : ByteArray := prog_1_method_22_code
def yX10_times : MethodName := ⟨RX10, "times", "(I)I"⟩
abbrev cX10_digest : ByteArray := prog_1_method_25_code
def yX10_digest : MethodName := ⟨RX10, "digest", "()J"⟩
abbrev cX10_countOf : ByteArray := prog_1_method_26_code
def yX10_countOf : MethodName := ⟨RX10, "countOf", "(I)I"⟩
def RX11 : String := "MenuScriptModel"
def TX11 : u_T := fun k => match k with
  | _ => ("", "", "", false)
def tyX11 : Nat → FieldType := fun k => match k with
  | _ => .int
abbrev wsX110 : List Cond := u_ws RX11 TX11 0
theorem nmX11 : ∀ a, a < 0 → ∀ b, b < 0 → a ≠ b → (TX11 a).2.1 ≠ (TX11 b).2.1 := by decide +kernel
theorem tyX11_ok : ∀ k, k < 0 → parseFieldDescriptor (TX11 k).2.2.1 = some (tyX11 k) := by decide +kernel
def RJ11 : String := "java/lang/Character"
def TJ11 : u_T := fun k => match k with
  | _ => ("", "", "", false)
def tyJ11 : Nat → FieldType := fun k => match k with
  | _ => .int
abbrev wsJ110 : List Cond := u_ws RJ11 TJ11 0
theorem nmJ11 : ∀ a, a < 0 → ∀ b, b < 0 → a ≠ b → (TJ11 a).2.1 ≠ (TJ11 b).2.1 := by decide +kernel
theorem tyJ11_ok : ∀ k, k < 0 → parseFieldDescriptor (TJ11 k).2.2.1 = some (tyJ11 k) := by decide +kernel
abbrev cJ11_isValidCodePoint_9a6ad : ByteArray := prog_14_method_11_code
def yJ11_isValidCodePoint_9a6ad : MethodName := ⟨RJ11, "isValidCodePoint", "(I)Z"⟩
abbrev cJ11_highSurrogate_5068e : ByteArray := prog_14_method_28_code
def yJ11_highSurrogate_5068e : MethodName := ⟨RJ11, "highSurrogate", "(I)C"⟩
abbrev cJ11_lowSurrogate_5068e : ByteArray := prog_14_method_29_code
def yJ11_lowSurrogate_5068e : MethodName := ⟨RJ11, "lowSurrogate", "(I)C"⟩
def RJx8e188 : String := "java/lang/Cloneable"
def TJx8e188 : u_T := fun k => match k with
  | _ => ("", "", "", false)
def tyJx8e188 : Nat → FieldType := fun k => match k with
  | _ => .int
abbrev wsJx8e1880 : List Cond := u_ws RJx8e188 TJx8e188 0
theorem nmJx8e188 : ∀ a, a < 0 → ∀ b, b < 0 → a ≠ b → (TJx8e188 a).2.1 ≠ (TJx8e188 b).2.1 := by decide +kernel
theorem tyJx8e188_ok : ∀ k, k < 0 → parseFieldDescriptor (TJx8e188 k).2.2.1 = some (tyJx8e188 k) := by decide +kernel
def RJ9 : String := "java/lang/Math"
def TJ9 : u_T := fun k => match k with
  | _ => ("", "", "", false)
def tyJ9 : Nat → FieldType := fun k => match k with
  | _ => .int
abbrev wsJ90 : List Cond := u_ws RJ9 TJ9 0
theorem nmJ9 : ∀ a, a < 0 → ∀ b, b < 0 → a ≠ b → (TJ9 a).2.1 ≠ (TJ9 b).2.1 := by decide +kernel
theorem tyJ9_ok : ∀ k, k < 0 → parseFieldDescriptor (TJ9 k).2.2.1 = some (tyJ9 k) := by decide +kernel
abbrev cJ9_max_7cf53 : ByteArray := prog_20_method_65_code
def yJ9_max_7cf53 : MethodName := ⟨RJ9, "max", "(II)I"⟩
abbrev cJ9_min_7cf53 : ByteArray := prog_20_method_69_code
def yJ9_min_7cf53 : MethodName := ⟨RJ9, "min", "(II)I"⟩
def RJ0 : String := "java/lang/String"
def TJ0 : u_T := fun k => match k with
  | 0 => ("java/lang/String", "value", "[B", true)
  | 1 => ("java/lang/String", "coder", "B", true)
  | 2 => ("java/lang/String", "hash", "I", false)
  | _ => ("java/lang/String", "hashIsZero", "Z", false)
def tyJ0 : Nat → FieldType := fun k => match k with
  | 0 => .array .byte
  | 1 => .byte
  | 2 => .int
  | _ => .boolean
abbrev wsJ00 : List Cond := u_ws RJ0 TJ0 4
theorem nmJ0 : ∀ a, a < 4 → ∀ b, b < 4 → a ≠ b → (TJ0 a).2.1 ≠ (TJ0 b).2.1 := by decide +kernel
theorem tyJ0_ok : ∀ k, k < 4 → parseFieldDescriptor (TJ0 k).2.2.1 = some (tyJ0 k) := by decide +kernel
abbrev cJ0_length_8abf5 : ByteArray := prog_22_method_54_code
def yJ0_length_8abf5 : MethodName := ⟨RJ0, "length", "()I"⟩
abbrev cJ0_charAt_5068e : ByteArray := prog_22_method_56_code
def yJ0_charAt_5068e : MethodName := ⟨RJ0, "charAt", "(I)C"⟩
abbrev cJ0_indexOf_0f7a4 : ByteArray := prog_22_method_79_code
def yJ0_indexOf_0f7a4 : MethodName := ⟨RJ0, "indexOf", "(I)I"⟩
abbrev cJ0_indexOf_7cf53 : ByteArray := prog_22_method_80_code
def yJ0_indexOf_7cf53 : MethodName := ⟨RJ0, "indexOf", "(II)I"⟩
abbrev cJ0_substring_37a41 : ByteArray := prog_22_method_92_code
def yJ0_substring_37a41 : MethodName := ⟨RJ0, "substring", "(II)Ljava/lang/String;"⟩
abbrev cJ0_init_031fb : ByteArray := prog_22_method_151_code
def yJ0_init_031fb : MethodName := ⟨RJ0, "<init>", "([BB)V"⟩
abbrev cJ0_coder_7d493 : ByteArray := prog_22_method_152_code
def yJ0_coder_7d493 : MethodName := ⟨RJ0, "coder", "()B"⟩
abbrev cJ0_isLatin1_aae02 : ByteArray := prog_22_method_154_code
def yJ0_isLatin1_aae02 : MethodName := ⟨RJ0, "isLatin1", "()Z"⟩
abbrev cJ0_checkIndex_df160 : ByteArray := prog_22_method_155_code
def yJ0_checkIndex_df160 : MethodName := ⟨RJ0, "checkIndex", "(II)V"⟩
abbrev cJ0_checkBoundsOffCount_cabcc : ByteArray := prog_22_method_157_code
def yJ0_checkBoundsOffCount_cabcc : MethodName := ⟨RJ0, "checkBoundsOffCount", "(III)I"⟩
abbrev cJ0_checkBoundsBeginEnd_23922 : ByteArray := prog_22_method_158_code
def yJ0_checkBoundsBeginEnd_23922 : MethodName := ⟨RJ0, "checkBoundsBeginEnd", "(III)V"⟩
def RJ1 : String := "java/lang/StringLatin1"
def TJ1 : u_T := fun k => match k with
  | _ => ("", "", "", false)
def tyJ1 : Nat → FieldType := fun k => match k with
  | _ => .int
abbrev wsJ10 : List Cond := u_ws RJ1 TJ1 0
theorem nmJ1 : ∀ a, a < 0 → ∀ b, b < 0 → a ≠ b → (TJ1 a).2.1 ≠ (TJ1 b).2.1 := by decide +kernel
theorem tyJ1_ok : ∀ k, k < 0 → parseFieldDescriptor (TJ1 k).2.2.1 = some (tyJ1 k) := by decide +kernel
abbrev cJ1_charAt_3b067 : ByteArray := prog_23_method_2_code
def yJ1_charAt_3b067 : MethodName := ⟨RJ1, "charAt", "([BI)C"⟩
abbrev cJ1_canEncode_9a6ad : ByteArray := prog_23_method_4_code
def yJ1_canEncode_9a6ad : MethodName := ⟨RJ1, "canEncode", "(I)Z"⟩
abbrev cJ1_indexOf_4cfef : ByteArray := prog_23_method_22_code
def yJ1_indexOf_4cfef : MethodName := ⟨RJ1, "indexOf", "([BIII)I"⟩
abbrev cJ1_indexOfChar_4cfef : ByteArray := prog_23_method_23_code
def yJ1_indexOfChar_4cfef : MethodName := ⟨RJ1, "indexOfChar", "([BIII)I"⟩
abbrev cJ1_newString_b4f7a : ByteArray := prog_23_method_47_code
def yJ1_newString_b4f7a : MethodName := ⟨RJ1, "newString", "([BII)Ljava/lang/String;"⟩
def RJ2 : String := "java/lang/StringUTF16"
def TJ2 : u_T := fun k => match k with
  | _ => ("", "", "", false)
def tyJ2 : Nat → FieldType := fun k => match k with
  | _ => .int
abbrev wsJ20 : List Cond := u_ws RJ2 TJ2 0
theorem nmJ2 : ∀ a, a < 0 → ∀ b, b < 0 → a ≠ b → (TJ2 a).2.1 ≠ (TJ2 b).2.1 := by decide +kernel
theorem tyJ2_ok : ∀ k, k < 0 → parseFieldDescriptor (TJ2 k).2.2.1 = some (tyJ2 k) := by decide +kernel
abbrev cJ2_newBytesLength_0f7a4 : ByteArray := prog_24_method_3_code
def yJ2_newBytesLength_0f7a4 : MethodName := ⟨RJ2, "newBytesLength", "(I)I"⟩
abbrev cJ2_getChar_3b067 : ByteArray := prog_24_method_5_code
def yJ2_getChar_3b067 : MethodName := ⟨RJ2, "getChar", "([BI)C"⟩
abbrev cJ2_length_9d52b : ByteArray := prog_24_method_6_code
def yJ2_length_9d52b : MethodName := ⟨RJ2, "length", "([B)I"⟩
abbrev cJ2_coderFromArrayLen_85cad : ByteArray := prog_24_method_15_code
def yJ2_coderFromArrayLen_85cad : MethodName := ⟨RJ2, "coderFromArrayLen", "([BI)B"⟩
abbrev cJ2_compress_39247 : ByteArray := prog_24_method_17_code
def yJ2_compress_39247 : MethodName := ⟨RJ2, "compress", "([BII)[B"⟩
abbrev cJ2_compress_5af95 : ByteArray := prog_24_method_22_code
def yJ2_compress_5af95 : MethodName := ⟨RJ2, "compress", "([BI[BII)I"⟩
abbrev cJ2_indexOf_4cfef : ByteArray := prog_24_method_40_code
def yJ2_indexOf_4cfef : MethodName := ⟨RJ2, "indexOf", "([BIII)I"⟩
abbrev cJ2_indexOfChar_4cfef : ByteArray := prog_24_method_47_code
def yJ2_indexOfChar_4cfef : MethodName := ⟨RJ2, "indexOfChar", "([BIII)I"⟩
abbrev cJ2_indexOfCharUnsafe_4cfef : ByteArray := prog_24_method_48_code
def yJ2_indexOfCharUnsafe_4cfef : MethodName := ⟨RJ2, "indexOfCharUnsafe", "([BIII)I"⟩
abbrev cJ2_indexOfSupplementary_4cfef : ByteArray := prog_24_method_49_code
def yJ2_indexOfSupplementary_4cfef : MethodName := ⟨RJ2, "indexOfSupplementary", "([BIII)I"⟩
abbrev cJ2_newString_b4f7a : ByteArray := prog_24_method_69_code
def yJ2_newString_b4f7a : MethodName := ⟨RJ2, "newString", "([BII)Ljava/lang/String;"⟩
abbrev cJ2_charAt_3b067 : ByteArray := prog_24_method_83_code
def yJ2_charAt_3b067 : MethodName := ⟨RJ2, "charAt", "([BI)C"⟩
abbrev cJ2_checkIndex_2214a : ByteArray := prog_24_method_91_code
def yJ2_checkIndex_2214a : MethodName := ⟨RJ2, "checkIndex", "(I[B)V"⟩
abbrev cJ2_checkBoundsBeginEnd_d044e : ByteArray := prog_24_method_93_code
def yJ2_checkBoundsBeginEnd_d044e : MethodName := ⟨RJ2, "checkBoundsBeginEnd", "(II[B)V"⟩
abbrev cJ2_checkBoundsOffCount_d044e : ByteArray := prog_24_method_94_code
def yJ2_checkBoundsOffCount_d044e : MethodName := ⟨RJ2, "checkBoundsOffCount", "(II[B)V"⟩
def RJ10 : String := "java/lang/System"
def TJ10 : u_T := fun k => match k with
  | _ => ("", "", "", false)
def tyJ10 : Nat → FieldType := fun k => match k with
  | _ => .int
abbrev wsJ100 : List Cond := u_ws RJ10 TJ10 0
theorem nmJ10 : ∀ a, a < 0 → ∀ b, b < 0 → a ≠ b → (TJ10 a).2.1 ≠ (TJ10 b).2.1 := by decide +kernel
theorem tyJ10_ok : ∀ k, k < 0 → parseFieldDescriptor (TJ10 k).2.2.1 = some (tyJ10 k) := by decide +kernel
def RJ7 : String := "java/util/Arrays"
def TJ7 : u_T := fun k => match k with
  | _ => ("", "", "", false)
def tyJ7 : Nat → FieldType := fun k => match k with
  | _ => .int
abbrev wsJ70 : List Cond := u_ws RJ7 TJ7 0
theorem nmJ7 : ∀ a, a < 0 → ∀ b, b < 0 → a ≠ b → (TJ7 a).2.1 ≠ (TJ7 b).2.1 := by decide +kernel
theorem tyJ7_ok : ∀ k, k < 0 → parseFieldDescriptor (TJ7 k).2.2.1 = some (tyJ7 k) := by decide +kernel
abbrev cJ7_checkLength_df160 : ByteArray := prog_27_method_131_code
def yJ7_checkLength_df160 : MethodName := ⟨RJ7, "checkLength", "(II)V"⟩
abbrev cJ7_copyOfRange_39247 : ByteArray := prog_27_method_132_code
def yJ7_copyOfRange_39247 : MethodName := ⟨RJ7, "copyOfRange", "([BII)[B"⟩
abbrev cJ7_copyOfRangeByte_39247 : ByteArray := prog_27_method_133_code
def yJ7_copyOfRangeByte_39247 : MethodName := ⟨RJ7, "copyOfRangeByte", "([BII)[B"⟩
def RJ3 : String := "jdk/internal/util/Preconditions"
def TJ3 : u_T := fun k => match k with
  | _ => ("", "", "", false)
def tyJ3 : Nat → FieldType := fun k => match k with
  | _ => .int
abbrev wsJ30 : List Cond := u_ws RJ3 TJ3 0
theorem nmJ3 : ∀ a, a < 0 → ∀ b, b < 0 → a ≠ b → (TJ3 a).2.1 ≠ (TJ3 b).2.1 := by decide +kernel
theorem tyJ3_ok : ∀ k, k < 0 → parseFieldDescriptor (TJ3 k).2.2.1 = some (tyJ3 k) := by decide +kernel
abbrev cJ3_checkIndex_8e157 : ByteArray := prog_28_method_11_code
def yJ3_checkIndex_8e157 : MethodName := ⟨RJ3, "checkIndex", "(IILjava/util/function/BiFunction;)I"⟩
abbrev cJ3_checkFromToIndex_8c36e : ByteArray := prog_28_method_12_code
def yJ3_checkFromToIndex_8c36e : MethodName := ⟨RJ3, "checkFromToIndex", "(IIILjava/util/function/BiFunction;)I"⟩
abbrev cJ3_checkFromIndexSize_8c36e : ByteArray := prog_28_method_13_code
def yJ3_checkFromIndexSize_8c36e : MethodName := ⟨RJ3, "checkFromIndexSize", "(IIILjava/util/function/BiFunction;)I"⟩
def RL : String := "MenuScriptLaw"
abbrev cL_below : ByteArray := method_2_code
def yL_below : MethodName := ⟨RL, "below", "(II)I"⟩
abbrev cL_cell : ByteArray := method_3_code
def yL_cell : MethodName := ⟨RL, "cell", "([II)I"⟩
abbrev cL_put : ByteArray := method_4_code
def yL_put : MethodName := ⟨RL, "put", "([ILjava/lang/String;)V"⟩
abbrev cL_put_ : ByteArray := method_5_code
def yL_put_ : MethodName := ⟨RL, "put", "([II)V"⟩
abbrev cL_lay : ByteArray := method_6_code
def yL_lay : MethodName := ⟨RL, "lay", "(LMenuScript;[I)Z"⟩
abbrev cL_menu : ByteArray := method_7_code
def yL_menu : MethodName := ⟨RL, "menu", "(LMenuScript;[II[I[I)I"⟩
abbrev cL_law : ByteArray := code
def yL_law : MethodName := ⟨RL, "law", "([I)Z"⟩
set_option maxRecDepth 20000 in
theorem inJ11 : ∀ w ∈ wsJ110, w ∈ lw_tbl := by decide +kernel
theorem inJx8e188 : ∀ w ∈ wsJx8e1880, w ∈ lw_tbl := by decide +kernel
theorem inJ9 : ∀ w ∈ wsJ90, w ∈ lw_tbl := by decide +kernel
theorem inJ1 : ∀ w ∈ wsJ10, w ∈ lw_tbl := by decide +kernel
theorem inJ2 : ∀ w ∈ wsJ20, w ∈ lw_tbl := by decide +kernel
theorem inJ10 : ∀ w ∈ wsJ100, w ∈ lw_tbl := by decide +kernel
theorem inJ7 : ∀ w ∈ wsJ70, w ∈ lw_tbl := by decide +kernel
theorem inJ3 : ∀ w ∈ wsJ30, w ∈ lw_tbl := by decide +kernel
abbrev vwCl : List vw_C := [(RX0, TX0, 4), (RX1, TX1, 3), (RX2, TX2, 13), (RX3, TX3, 8), (RX4, TX4, 3), (RX5, TX5, 2), (RX6, TX6, 17), (RX7, TX7, 5), (RX8, TX8, 2), (RX9, TX9, 5), (RX10, TX10, 10), (RJ0, TJ0, 4)]
