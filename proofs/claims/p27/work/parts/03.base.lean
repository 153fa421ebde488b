/-! the simplified machine: one world of all cells that class and reference keep, at places of a fixed list; ints and longs as whole numbers -/
def lw_all : List Cond := lw_tbl.filter goodWord
theorem in_all {w : Cond} {i : Nat} (h : lw_tbl[i]? = some w) (g : goodWord w = true) : w ∈ lw_all := List.mem_filter.mpr ⟨List.mem_of_getElem? h, g⟩
theorem all_good : GoodIn lw_all lw_all := fun w h => ⟨h, good_of_word (List.mem_filter.mp h).2⟩
theorem all_sub {ws : List Cond} (h : ws.all (fun w => decide (w ∈ lw_tbl) && goodWord w) = true) : ∀ w ∈ ws, w ∈ lw_all := by
  intro w hw
  have h1 := List.all_eq_true.mp h w hw
  simp only [Bool.and_eq_true, decide_eq_true_eq] at h1
  exact List.mem_filter.mpr h1
abbrev Sg : Type := Nat → Nat → Int
def I32 (z : Int) : Int32 := Int32.ofInt z
def I64 (z : Int) : Int64 := Int64.ofInt z
theorem I32_add (x y : Int) : I32 (x + y) = I32 x + I32 y := Int32.ofInt_add x y
theorem I32_sub (x y : Int) : I32 (x - y) = I32 x - I32 y := Int32.ofInt_sub x y
theorem I32_mul (x y : Int) : I32 (x * y) = I32 x * I32 y := Int32.ofInt_mul x y
theorem I32_neg (x : Int) : I32 (-x) = -I32 x := Int32.ofInt_neg x
theorem I64_add (x y : Int) : I64 (x + y) = I64 x + I64 y := Int64.ofInt_add x y
theorem I64_sub (x y : Int) : I64 (x - y) = I64 x - I64 y := Int64.ofInt_sub x y
theorem I64_mul (x y : Int) : I64 (x * y) = I64 x * I64 y := Int64.ofInt_mul x y
def inr (z : Int) : Prop := -2147483648 ≤ z ∧ z < 2147483648
def inl (z : Int) : Prop := -9223372036854775808 ≤ z ∧ z < 9223372036854775808
theorem I32_toInt {z : Int} (h : inr z) : (I32 z).toInt = z := Int32.toInt_ofInt_of_le (by have := h.1; omega) (by have := h.2; omega)
theorem I64_toInt {z : Int} (h : inl z) : (I64 z).toInt = z := Int64.toInt_ofInt_of_le (by have := h.1; omega) (by have := h.2; omega)
theorem I32_of (x : Int32) : I32 x.toInt = x := Int32.ofInt_toInt x
theorem I64_of (x : Int64) : I64 x.toInt = x := Int64.ofInt_toInt x
theorem I32_inr (x : Int32) : inr x.toInt := ⟨by have := x.le_toInt; omega, by have := x.toInt_lt; omega⟩
theorem I32_lt {x y : Int} (hx : inr x) (hy : inr y) : I32 x < I32 y ↔ x < y := by rw [Int32.lt_iff_toInt_lt, I32_toInt hx, I32_toInt hy]
theorem I32_le {x y : Int} (hx : inr x) (hy : inr y) : I32 x ≤ I32 y ↔ x ≤ y := by rw [Int32.le_iff_toInt_le, I32_toInt hx, I32_toInt hy]
theorem I32_eq {x y : Int} (hx : inr x) (hy : inr y) : I32 x = I32 y ↔ x = y := by rw [← Int32.toInt_inj, I32_toInt hx, I32_toInt hy]
theorem I64_lt {x y : Int} (hx : inl x) (hy : inl y) : I64 x < I64 y ↔ x < y := by rw [Int64.lt_iff_toInt_lt, I64_toInt hx, I64_toInt hy]
theorem I64_le {x y : Int} (hx : inl x) (hy : inl y) : I64 x ≤ I64 y ↔ x ≤ y := by rw [Int64.le_iff_toInt_le, I64_toInt hx, I64_toInt hy]
theorem I64_eq {x y : Int} (hx : inl x) (hy : inl y) : I64 x = I64 y ↔ x = y := by rw [← Int64.toInt_inj, I64_toInt hx, I64_toInt hy]
theorem I32_0 : (0 : Int32) = I32 0 := rfl
theorem inr_0 : inr 0 := ⟨by decide, by decide⟩
theorem I32_clamp {z : Int} {n : Nat} (h0 : 0 ≤ z) (h : z < n) (hn : n ≤ 2147483647) : vp_in (I32 z) n ∧ (I32 z).toNatClampNeg = z.toNat := by
  have hz : inr z := ⟨by omega, by omega⟩
  have hc : (I32 z).toNatClampNeg = z.toNat := by
    show (I32 z).toInt.toNat = z.toNat
    rw [I32_toInt hz]
  refine ⟨?_, hc⟩
  show ¬ (I32 z < 0 ∨ n ≤ (I32 z).toNatClampNeg)
  rw [hc, I32_0, I32_lt hz inr_0]
  omega
/-- a cell's kind: .inl (class, what its fields are: 0 int, 1 long, c + 2 the cell c) or .inr (what its places are: 0 byte, 1 int, 2 long, 3 the cells from a place on; how many; that place) -/
abbrev Kd : Type := (Nat × List Nat) ⊕ (Nat × Nat × Nat)
/-- classes, arrays' classes (byte, int, long, int[]), where each cell lies, where texts and their bytes lie, the cells behind the class's, which letter's text is there -/
abbrev Gx : Type := va_G × (Nat → ClassId) × (Nat → Nat) × (Nat → Nat) × (Nat → Nat) × List Kd × Nat
abbrev lay (G : Gx) (k : Nat) : Nat := G.2.2.1 k
def fv (G : Gx) (σ : Sg) (k j : Nat) : Nat → Value
  | 0 => .int (I32 (σ k j))
  | 1 => .long (I64 (σ k j))
  | c + 2 => .ref (lay G c)
def cellOf (G : Gx) (σ : Sg) (k : Nat) : Kd → va_E
  | .inl (ci, cs) => .inr (ci, cs.mapIdx (fun j c => fv G σ k j c))
  | .inr (0, n, _) => .inl (G.2.1 0, n, .inl (fun j => I32 (σ k j)))
  | .inr (1, n, _) => .inl (G.2.1 1, n, .inl (fun j => I32 (σ k j)))
  | .inr (2, n, _) => .inl (G.2.1 2, n, .inr (.inl (fun j => I64 (σ k j))))
  | .inr (_, n, b) => .inl (G.2.1 3, n, .inr (.inr (.inr (.inr (fun j => some (lay G (b + j)))))))
/-- the cells -/
def lkL : List Kd := [
  .inl (10, [3, 5, 10, 11, 52, 53, 57, 85, 0, 0]),
  .inl (8, [4, 0]),
  .inr (0, 1500, 0),
  .inl (9, [6, 7, 8, 9, 0]),
  .inr (2, 17, 0),
  .inr (1, 1501, 0),
  .inr (1, 1501, 0),
  .inr (2, 1501, 0),
  .inl (1, [5, 0, 0]),
  .inl (6, [12, 14, 16, 18, 20, 25, 26, 27, 28, 29, 30, 31, 32, 33, 34, 35, 0]),
  .inl (4, [13, 0, 0]),
  .inr (2, 16, 0),
  .inl (4, [15, 0, 0]),
  .inr (2, 16, 0),
  .inl (4, [17, 0, 0]),
  .inr (2, 16, 0),
  .inl (4, [19, 0, 0]),
  .inr (2, 16, 0),
  .inl (7, [21, 22, 23, 24, 0]),
  .inr (1, 8, 0),
  .inr (1, 8, 0),
  .inr (1, 8, 0),
  .inr (1, 8, 0),
  .inr (1, 16, 0),
  .inr (1, 16, 0),
  .inr (1, 16, 0),
  .inr (1, 16, 0),
  .inr (1, 16, 0),
  .inr (1, 16, 0),
  .inr (1, 16, 0),
  .inr (1, 16, 0),
  .inr (3, 16, 34),
  .inr (1, 8, 0),
  .inr (1, 8, 0),
  .inr (1, 16, 0),
  .inr (1, 16, 0),
  .inr (1, 16, 0),
  .inr (1, 16, 0),
  .inr (1, 16, 0),
  .inr (1, 16, 0),
  .inr (1, 16, 0),
  .inr (1, 16, 0),
  .inr (1, 16, 0),
  .inr (1, 16, 0),
  .inr (1, 16, 0),
  .inr (1, 16, 0),
  .inr (1, 16, 0),
  .inr (1, 16, 0),
  .inr (1, 16, 0),
  .inr (1, 16, 0),
  .inl (0, [5, 11, 0, 0]),
  .inl (2, [5, 11, 52, 54, 55, 56, 0, 0, 0, 0, 0, 1, 1]),
  .inr (1, 8, 0),
  .inr (1, 8, 0),
  .inr (1, 8, 0),
  .inl (3, [11, 58, 59, 60, 61, 62, 0, 0]),
  .inr (3, 14, 61),
  .inr (3, 8, 75),
  .inr (1, 14, 0),
  .inr (1, 16, 0),
  .inr (1, 8, 0),
  .inr (1, 8, 0),
  .inr (1, 8, 0),
  .inr (1, 8, 0),
  .inr (1, 8, 0),
  .inr (1, 8, 0),
  .inr (1, 8, 0),
  .inr (1, 8, 0),
  .inr (1, 8, 0),
  .inr (1, 8, 0),
  .inr (1, 8, 0),
  .inr (1, 8, 0),
  .inr (1, 8, 0),
  .inr (1, 8, 0),
  .inr (1, 8, 0),
  .inr (1, 14, 0),
  .inr (1, 14, 0),
  .inr (1, 14, 0),
  .inr (1, 14, 0),
  .inr (1, 14, 0),
  .inr (1, 14, 0),
  .inr (1, 14, 0),
  .inr (1, 14, 0),
  .inl (5, [11, 57])]
def NC : Nat := 84
/-- the cells of the class, and those that came behind them -/
def lkG (G : Gx) : List Kd := lkL ++ G.2.2.2.2.2.1
theorem lk_0 {G : Gx} : (lkG G)[0]? = some (.inl (10, [3, 5, 10, 11, 52, 53, 57, 85, 0, 0])) := rfl
theorem lk_1 {G : Gx} : (lkG G)[1]? = some (.inl (8, [4, 0])) := rfl
theorem lk_2 {G : Gx} : (lkG G)[2]? = some (.inr (0, 1500, 0)) := rfl
theorem lk_3 {G : Gx} : (lkG G)[3]? = some (.inl (9, [6, 7, 8, 9, 0])) := rfl
theorem lk_4 {G : Gx} : (lkG G)[4]? = some (.inr (2, 17, 0)) := rfl
theorem lk_5 {G : Gx} : (lkG G)[5]? = some (.inr (1, 1501, 0)) := rfl
theorem lk_6 {G : Gx} : (lkG G)[6]? = some (.inr (1, 1501, 0)) := rfl
theorem lk_7 {G : Gx} : (lkG G)[7]? = some (.inr (2, 1501, 0)) := rfl
theorem lk_8 {G : Gx} : (lkG G)[8]? = some (.inl (1, [5, 0, 0])) := rfl
theorem lk_9 {G : Gx} : (lkG G)[9]? = some (.inl (6, [12, 14, 16, 18, 20, 25, 26, 27, 28, 29, 30, 31, 32, 33, 34, 35, 0])) := rfl
theorem lk_10 {G : Gx} : (lkG G)[10]? = some (.inl (4, [13, 0, 0])) := rfl
theorem lk_11 {G : Gx} : (lkG G)[11]? = some (.inr (2, 16, 0)) := rfl
theorem lk_12 {G : Gx} : (lkG G)[12]? = some (.inl (4, [15, 0, 0])) := rfl
theorem lk_13 {G : Gx} : (lkG G)[13]? = some (.inr (2, 16, 0)) := rfl
theorem lk_14 {G : Gx} : (lkG G)[14]? = some (.inl (4, [17, 0, 0])) := rfl
theorem lk_15 {G : Gx} : (lkG G)[15]? = some (.inr (2, 16, 0)) := rfl
theorem lk_16 {G : Gx} : (lkG G)[16]? = some (.inl (4, [19, 0, 0])) := rfl
theorem lk_17 {G : Gx} : (lkG G)[17]? = some (.inr (2, 16, 0)) := rfl
theorem lk_18 {G : Gx} : (lkG G)[18]? = some (.inl (7, [21, 22, 23, 24, 0])) := rfl
theorem lk_19 {G : Gx} : (lkG G)[19]? = some (.inr (1, 8, 0)) := rfl
theorem lk_20 {G : Gx} : (lkG G)[20]? = some (.inr (1, 8, 0)) := rfl
theorem lk_21 {G : Gx} : (lkG G)[21]? = some (.inr (1, 8, 0)) := rfl
theorem lk_22 {G : Gx} : (lkG G)[22]? = some (.inr (1, 8, 0)) := rfl
theorem lk_23 {G : Gx} : (lkG G)[23]? = some (.inr (1, 16, 0)) := rfl
theorem lk_24 {G : Gx} : (lkG G)[24]? = some (.inr (1, 16, 0)) := rfl
theorem lk_25 {G : Gx} : (lkG G)[25]? = some (.inr (1, 16, 0)) := rfl
theorem lk_26 {G : Gx} : (lkG G)[26]? = some (.inr (1, 16, 0)) := rfl
theorem lk_27 {G : Gx} : (lkG G)[27]? = some (.inr (1, 16, 0)) := rfl
theorem lk_28 {G : Gx} : (lkG G)[28]? = some (.inr (1, 16, 0)) := rfl
theorem lk_29 {G : Gx} : (lkG G)[29]? = some (.inr (1, 16, 0)) := rfl
theorem lk_30 {G : Gx} : (lkG G)[30]? = some (.inr (1, 16, 0)) := rfl
theorem lk_31 {G : Gx} : (lkG G)[31]? = some (.inr (3, 16, 34)) := rfl
theorem lk_32 {G : Gx} : (lkG G)[32]? = some (.inr (1, 8, 0)) := rfl
theorem lk_33 {G : Gx} : (lkG G)[33]? = some (.inr (1, 8, 0)) := rfl
theorem lk_34 {G : Gx} : (lkG G)[34]? = some (.inr (1, 16, 0)) := rfl
theorem lk_35 {G : Gx} : (lkG G)[35]? = some (.inr (1, 16, 0)) := rfl
theorem lk_36 {G : Gx} : (lkG G)[36]? = some (.inr (1, 16, 0)) := rfl
theorem lk_37 {G : Gx} : (lkG G)[37]? = some (.inr (1, 16, 0)) := rfl
theorem lk_38 {G : Gx} : (lkG G)[38]? = some (.inr (1, 16, 0)) := rfl
theorem lk_39 {G : Gx} : (lkG G)[39]? = some (.inr (1, 16, 0)) := rfl
theorem lk_40 {G : Gx} : (lkG G)[40]? = some (.inr (1, 16, 0)) := rfl
theorem lk_41 {G : Gx} : (lkG G)[41]? = some (.inr (1, 16, 0)) := rfl
theorem lk_42 {G : Gx} : (lkG G)[42]? = some (.inr (1, 16, 0)) := rfl
theorem lk_43 {G : Gx} : (lkG G)[43]? = some (.inr (1, 16, 0)) := rfl
theorem lk_44 {G : Gx} : (lkG G)[44]? = some (.inr (1, 16, 0)) := rfl
theorem lk_45 {G : Gx} : (lkG G)[45]? = some (.inr (1, 16, 0)) := rfl
theorem lk_46 {G : Gx} : (lkG G)[46]? = some (.inr (1, 16, 0)) := rfl
theorem lk_47 {G : Gx} : (lkG G)[47]? = some (.inr (1, 16, 0)) := rfl
theorem lk_48 {G : Gx} : (lkG G)[48]? = some (.inr (1, 16, 0)) := rfl
theorem lk_49 {G : Gx} : (lkG G)[49]? = some (.inr (1, 16, 0)) := rfl
theorem lk_50 {G : Gx} : (lkG G)[50]? = some (.inl (0, [5, 11, 0, 0])) := rfl
theorem lk_51 {G : Gx} : (lkG G)[51]? = some (.inl (2, [5, 11, 52, 54, 55, 56, 0, 0, 0, 0, 0, 1, 1])) := rfl
theorem lk_52 {G : Gx} : (lkG G)[52]? = some (.inr (1, 8, 0)) := rfl
theorem lk_53 {G : Gx} : (lkG G)[53]? = some (.inr (1, 8, 0)) := rfl
theorem lk_54 {G : Gx} : (lkG G)[54]? = some (.inr (1, 8, 0)) := rfl
theorem lk_55 {G : Gx} : (lkG G)[55]? = some (.inl (3, [11, 58, 59, 60, 61, 62, 0, 0])) := rfl
theorem lk_56 {G : Gx} : (lkG G)[56]? = some (.inr (3, 14, 61)) := rfl
theorem lk_57 {G : Gx} : (lkG G)[57]? = some (.inr (3, 8, 75)) := rfl
theorem lk_58 {G : Gx} : (lkG G)[58]? = some (.inr (1, 14, 0)) := rfl
theorem lk_59 {G : Gx} : (lkG G)[59]? = some (.inr (1, 16, 0)) := rfl
theorem lk_60 {G : Gx} : (lkG G)[60]? = some (.inr (1, 8, 0)) := rfl
theorem lk_61 {G : Gx} : (lkG G)[61]? = some (.inr (1, 8, 0)) := rfl
theorem lk_62 {G : Gx} : (lkG G)[62]? = some (.inr (1, 8, 0)) := rfl
theorem lk_63 {G : Gx} : (lkG G)[63]? = some (.inr (1, 8, 0)) := rfl
theorem lk_64 {G : Gx} : (lkG G)[64]? = some (.inr (1, 8, 0)) := rfl
theorem lk_65 {G : Gx} : (lkG G)[65]? = some (.inr (1, 8, 0)) := rfl
theorem lk_66 {G : Gx} : (lkG G)[66]? = some (.inr (1, 8, 0)) := rfl
theorem lk_67 {G : Gx} : (lkG G)[67]? = some (.inr (1, 8, 0)) := rfl
theorem lk_68 {G : Gx} : (lkG G)[68]? = some (.inr (1, 8, 0)) := rfl
theorem lk_69 {G : Gx} : (lkG G)[69]? = some (.inr (1, 8, 0)) := rfl
theorem lk_70 {G : Gx} : (lkG G)[70]? = some (.inr (1, 8, 0)) := rfl
theorem lk_71 {G : Gx} : (lkG G)[71]? = some (.inr (1, 8, 0)) := rfl
theorem lk_72 {G : Gx} : (lkG G)[72]? = some (.inr (1, 8, 0)) := rfl
theorem lk_73 {G : Gx} : (lkG G)[73]? = some (.inr (1, 8, 0)) := rfl
theorem lk_74 {G : Gx} : (lkG G)[74]? = some (.inr (1, 8, 0)) := rfl
theorem lk_75 {G : Gx} : (lkG G)[75]? = some (.inr (1, 14, 0)) := rfl
theorem lk_76 {G : Gx} : (lkG G)[76]? = some (.inr (1, 14, 0)) := rfl
theorem lk_77 {G : Gx} : (lkG G)[77]? = some (.inr (1, 14, 0)) := rfl
theorem lk_78 {G : Gx} : (lkG G)[78]? = some (.inr (1, 14, 0)) := rfl
theorem lk_79 {G : Gx} : (lkG G)[79]? = some (.inr (1, 14, 0)) := rfl
theorem lk_80 {G : Gx} : (lkG G)[80]? = some (.inr (1, 14, 0)) := rfl
theorem lk_81 {G : Gx} : (lkG G)[81]? = some (.inr (1, 14, 0)) := rfl
theorem lk_82 {G : Gx} : (lkG G)[82]? = some (.inr (1, 14, 0)) := rfl
theorem lk_83 {G : Gx} : (lkG G)[83]? = some (.inl (5, [11, 57])) := rfl
theorem lk_len : lkL.length = NC := by decide +kernel
/-- the world of all cells -/
def wld (G : Gx) (σ : Sg) : va_W := (lkG G).mapIdx (fun k kd => (lay G k, cellOf G σ k kd))
theorem wld_len (G : Gx) (σ : Sg) : (wld G σ).length = (lkG G).length := by simp [wld]
theorem wld_at {G : Gx} {σ : Sg} {k : Nat} {kd : Kd} (h : (lkG G)[k]? = some kd) : (wld G σ)[k]? = some (lay G k, cellOf G σ k kd) := by
  simp [wld, List.getElem?_mapIdx, h]
theorem wld_of {G : Gx} {σ : Sg} {k : Nat} {q : Nat × va_E} (h : (wld G σ)[k]? = some q) : ∃ kd, (lkG G)[k]? = some kd ∧ q = (lay G k, cellOf G σ k kd) := by
  simp only [wld, List.getElem?_mapIdx, Option.map_eq_some_iff] at h
  obtain ⟨kd, h1, h2⟩ := h
  exact ⟨kd, h1, h2.symm⟩
theorem wld_lt {G : Gx} {k : Nat} {kd : Kd} (h : (lkG G)[k]? = some kd) : k < (lkG G).length := (List.getElem?_eq_some_iff.mp h).1
theorem wldx_at {G : Gx} {σ : Sg} {xs : va_W} {k : Nat} {kd : Kd} (h : (lkG G)[k]? = some kd) : (wld G σ ++ xs)[k]? = some (lay G k, cellOf G σ k kd) := by
  rw [List.getElem?_append_left (by rw [wld_len]; exact wld_lt h)]
  exact wld_at h
def up (σ : Sg) (k j : Nat) (v : Int) : Sg := fun a b => if a = k ∧ b = j then v else σ a b
theorem up_s (σ : Sg) (k j : Nat) (v : Int) : up σ k j v k j = v := by simp [up]
theorem up_k (σ : Sg) {k j a b : Nat} (v : Int) (h : a ≠ k) : up σ k j v a b = σ a b := by simp [up, h]
theorem up_j (σ : Sg) {k j a b : Nat} (v : Int) (h : b ≠ j) : up σ k j v a b = σ a b := by simp [up, h]
theorem up_at (σ : Sg) (k j b : Nat) (v : Int) : up σ k j v k b = if b = j then v else σ k b := by simp [up]
theorem cellOf_off {G : Gx} {σ σ' : Sg} {k : Nat} (h : ∀ j, σ' k j = σ k j) (kd : Kd) : cellOf G σ' k kd = cellOf G σ k kd := by
  have e : ∀ j c, fv G σ' k j c = fv G σ k j c := by
    intro j c
    match c with
    | 0 => simp [fv, h]
    | 1 => simp [fv, h]
    | c + 2 => rfl
  match kd with
  | .inl (ci, cs) => simp only [cellOf]; congr 3; funext j c; exact e j c
  | .inr (0, n, _) => simp [cellOf, h]
  | .inr (1, n, _) => simp [cellOf, h]
  | .inr (2, n, _) => simp [cellOf, h]
  | .inr (m + 3, n, b) => rfl
theorem wld_set {G : Gx} {σ σ' : Sg} {xs : va_W} {k : Nat} {kd : Kd} {e : va_E} (h : (lkG G)[k]? = some kd) (he : e = cellOf G σ' k kd) (ho : ∀ a, a ≠ k → ∀ j, σ' a j = σ a j) : (wld G σ ++ xs).set k (lay G k, e) = wld G σ' ++ xs := by
  have hk := wld_lt h
  rw [List.set_append_left _ _ (by rw [wld_len]; exact hk)]
  refine congrArg (fun w => w ++ xs) ?_
  apply List.ext_getElem?
  intro i
  by_cases hi : i = k
  · subst hi
    rw [List.getElem?_set_self (by rw [wld_len]; exact hk), wld_at h, he]
  · rw [List.getElem?_set_ne (Ne.symm hi)]
    simp only [wld, List.getElem?_mapIdx]
    cases hL : (lkG G)[i]? with
    | none => rfl
    | some kd' => simp [cellOf_off (ho i hi)]
/-! texts: the reference's words, and two of the class -/
def txS : List String := ["food", "dish", "for", "is", "of", "meal", "rule", "apart", "most", "least", "in", "energy", "to", "and", "or", "not", "price", ";", ":", ",", "(", ")", "food dish for is of meal rule apart most least in energy to and or not price ", ";:,()", "food f", "abcdef", " ", "; dish d", " for 1: 100 f", " is t;", ";", "meal m: t or not t, not da;", "rule apart ", "rule most ", "rule least ", "rule energy ", " t", " d", " to ", " in ", "a", "b", "c", "d", "e", "f"]
def bytS : List (List Int32) := [[102,111,111,100],[100,105,115,104],[102,111,114],[105,115],[111,102],[109,101,97,108],[114,117,108,101],[97,112,97,114,116],[109,111,115,116],[108,101,97,115,116],[105,110],[101,110,101,114,103,121],[116,111],[97,110,100],[111,114],[110,111,116],[112,114,105,99,101],[59],[58],[44],[40],[41],[102,111,111,100,32,100,105,115,104,32,102,111,114,32,105,115,32,111,102,32,109,101,97,108,32,114,117,108,101,32,97,112,97,114,116,32,109,111,115,116,32,108,101,97,115,116,32,105,110,32,101,110,101,114,103,121,32,116,111,32,97,110,100,32,111,114,32,110,111,116,32,112,114,105,99,101,32],[59,58,44,40,41],[102,111,111,100,32,102],[97,98,99,100,101,102],[32],[59,32,100,105,115,104,32,100],[32,102,111,114,32,49,58,32,49,48,48,32,102],[32,105,115,32,116,59],[59],[109,101,97,108,32,109,58,32,116,32,111,114,32,110,111,116,32,116,44,32,110,111,116,32,100,97,59],[114,117,108,101,32,97,112,97,114,116,32],[114,117,108,101,32,109,111,115,116,32],[114,117,108,101,32,108,101,97,115,116,32],[114,117,108,101,32,101,110,101,114,103,121,32],[32,116],[32,100],[32,116,111,32],[32,105,110,32],[97],[98],[99],[100],[101],[102]]
def lenS : List Nat := bytS.map List.length
def rfS : List (String × Nat × Nat) := [("MenuScriptLaw", 46, 24), ("MenuScriptLaw", 51, 25), ("MenuScriptLaw", 57, 26), ("MenuScriptLaw", 59, 27), ("MenuScriptLaw", 61, 28), ("MenuScriptLaw", 63, 29), ("MenuScriptLaw", 65, 30), ("MenuScriptLaw", 67, 31), ("MenuScriptLaw", 69, 32), ("MenuScriptLaw", 71, 33), ("MenuScriptLaw", 73, 34), ("MenuScriptLaw", 75, 35), ("MenuScriptLaw", 77, 36), ("MenuScriptLaw", 79, 37), ("MenuScriptLaw", 81, 38), ("MenuScriptLaw", 83, 39), ("MenuScript$Tokens", 27, 22), ("MenuScript$Tokens", 74, 23)]
/-- the texts of the class's own throws: only that they are there -/
def msS : List (String × Nat × String) := [("MenuScript", 87, "the tape has no room for twenty bytes more"), ("MenuScript", 98, "the tape has not so many bytes"), ("MenuScript", 133, "there is no such count"), ("MenuScript", 186, "there is no such choice"), ("MenuScript", 206, "a menu is planned for 1 to 14 days"), ("MenuScript", 208, "there is no program"), ("MenuScript", 220, "there is no such day or choice"), ("MenuScript", 236, "there is no such rule"), ("MenuScript", 247, "there is no such day"), ("MenuScript", 249, "a day is not exchanged with itself"), ("MenuScript", 260, "there is no such dish")]
def dcS : List MethodName := [⟨"java/lang/RuntimeException", "<init>", "(Ljava/lang/String;)V"⟩, ⟨"java/lang/Exception", "<init>", "(Ljava/lang/String;)V"⟩, ⟨"java/lang/Throwable", "<init>", "(Ljava/lang/String;)V"⟩]
def exS : List String := ["java/lang/IllegalStateException", "java/lang/IllegalArgumentException", "java/lang/IndexOutOfBoundsException"]
def ncS : List (String × String) := []
def mnS : List (String × Nat × MethodName × String) := [("MenuScript", 11, ⟨"MenuScript$Tape", "<init>", "()V"⟩, "MenuScript"), ("MenuScript", 34, ⟨"MenuScript$Program", "<init>", "()V"⟩, "MenuScript"), ("MenuScript$Program", 31, ⟨"MenuScript$RuleRow", "<init>", "()V"⟩, "MenuScript")]
/-- what the start gives of classes and of links between nest mates -/
def ST2 (U : State) : Prop := (∀ x ∈ dcS, va_Nw (.declares x) U) ∧ (∀ E ∈ exS, va_Nw (.castable E E) U) ∧ (∀ q ∈ ncS, va_Nc q.1 q.2 U) ∧
  va_Nw (.fieldLinkNest "MenuScript" 121 "MenuScript$MeaningReader" "errorToken" "I" "MenuScript") U ∧ (∀ q ∈ mnS, va_Nw (.methodLinkNest q.1 q.2.1 q.2.2.1 q.2.2.2) U)
theorem ST2.warm {s U : State} (hW : s.WarmedH U.vm) (h : ST2 s) : ST2 U := ⟨fun x hx => (h.1 x hx).warmD hW, fun E hE => (h.2.1 E hE).warmC hW, fun q hq => (h.2.2.1 q hq).moved hW.alike, h.2.2.2.1.warmF hW, fun q hq => (h.2.2.2.2 q hq).warmM hW⟩
theorem ST2.same {u U : State} (hv : u.vm = U.vm) (h : ST2 u) : ST2 U := ⟨fun x hx => (h.1 x hx).same rfl hv, fun E hE => (h.2.1 E hE).same rfl hv, fun q hq => (h.2.2.1 q hq).moved (by rw [hv]; exact Vm.Alike.refl _), h.2.2.2.1.same rfl hv, fun q hq => (h.2.2.2.2 q hq).same rfl hv⟩
/-- the texts that are there: the constants, and of the letters a to f the one that was made last (the reference's words are not) -/
def oi (G : Gx) (i : Nat) : Prop := (22 ≤ i ∧ i < 46) ∧ (40 ≤ i → G.2.2.2.2.2.2 = i)
theorem oi_c {G : Gx} {i : Nat} (h : 22 ≤ i ∧ i < 40) : oi G i := ⟨by omega, fun z => by omega⟩
theorem oi.lt {G : Gx} {i : Nat} (h : oi G i) : i < 46 := h.1.2
/-- what the start gives of texts and of static fields, seen from a state -/
def ST (G : Gx) (A : Nat → Prop) (U : State) (H : Heap) : Prop :=
  (∀ i, oi G i → vk_S 1 [lenS.getD i 0] [bytS.getD i []] (fun _ => G.2.2.2.1 i) (fun _ => G.2.2.2.2.1 i) A U H) ∧ (∀ q ∈ rfS, vk_R q.1 q.2.1 (txS.getD q.2.2 "") (G.2.2.2.1 q.2.2) U) ∧
  (∃ q, vk_R "java/lang/StringLatin1" 151 "" q U) ∧
  va_Z "java/lang/String" "COMPACT_STRINGS" "Z" (.int 1) A U H ∧ va_Zq "jdk/internal/util/Preconditions" "SIOOBE_FORMATTER" "Ljava/util/function/BiFunction;" A U H ∧
  (∀ q ∈ msS, ∃ a, vk_R q.1 q.2.1 q.2.2 a U) ∧ vx_Zq Bundle.tN "UNASSIGNED_STACK" Bundle.steD A U H ∧ vx_Zq Bundle.tN "SUPPRESSED_SENTINEL" Bundle.listD A U H ∧ ST2 U
theorem ST.go {G : Gx} {A B : Nat → Prop} {s U : State} {H : Heap} {locs : List Loc} (h : ST G A s s.heap) (hS : va_S A s.heap H locs) (hW : s.WarmedH U.vm) (hAB : ∀ q, B q → A q) : ST G B U H := by
  obtain ⟨h1, h2, ⟨t, h3⟩, h5, h6, h7, h8, h9, h10⟩ := h
  have hk : ∀ a : Nat, a < s.heap.size → ¬ A a → H[a]? = s.heap[a]? := hS.2.1
  exact ⟨fun i hi => (((h1 i hi).moved hW.alike).kept hk).narrow hAB, fun q hq => (h2 q hq).warm hW, ⟨t, h3.warm hW⟩, ((h5.moved hW.alike).kept hk).narrow hAB, ((h6.moved hW.alike).kept hk).narrow hAB, fun q hq => (h7 q hq).imp fun a ha => ha.warm hW, ((h8.moved hW.alike).kept hk).narrow hAB, ((h9.moved hW.alike).kept hk).narrow hAB, h10.warm hW⟩
theorem ST.call {G : Gx} {A : Nat → Prop} {U : State} (h : ST G A U U.heap) (g : JFrame) (mk : MethodId) (a : Array Value) : ST G A (U.calling g mk a) (U.calling g mk a).heap := by
  obtain ⟨h1, h2, ⟨t, h3⟩, h5, h6, h7, h8, h9, h10⟩ := h
  have hv := Vm.Alike.refl U.vm
  exact ⟨fun i hi => (h1 i hi).moved (U := U.calling g mk a) hv, fun q hq => vk_R.same (U := U.calling g mk a) rfl (h2 q hq), ⟨t, vk_R.same (U := U.calling g mk a) rfl h3⟩, h5.moved (U := U.calling g mk a) hv, h6.moved (U := U.calling g mk a) hv, fun q hq => (h7 q hq).imp fun a2 ha => vk_R.same (U := U.calling g mk a) rfl ha, h8.moved (U := U.calling g mk a) hv, h9.moved (U := U.calling g mk a) hv, ST2.same (U := U.calling g mk a) rfl h10⟩
/-! a frame, and a walk over it -/
def tysG (G : Gx) : List (ClassId × FieldType) := [(G.2.1 0, .byte), (G.2.1 1, .int), (G.2.1 2, .long), (G.2.1 3, .array .int)]
abbrev Fm : Type := Program × Env × Room × State × MethodId × Array Value × List Frame × Method × Code × (Nat → Prop)
abbrev fp (f : Fm) : Program := f.1
abbrev fe (f : Fm) : Env := f.2.1
abbrev fR (f : Fm) : Room := f.2.2.1
abbrev fs (f : Fm) : State := f.2.2.2.1
abbrev fm (f : Fm) : MethodId := f.2.2.2.2.1
abbrev fa (f : Fm) : Array Value := f.2.2.2.2.2.1
abbrev fb (f : Fm) : List Frame := f.2.2.2.2.2.2.1
abbrev fme (f : Fm) : Method := f.2.2.2.2.2.2.2.1
abbrev fc (f : Fm) : Code := f.2.2.2.2.2.2.2.2.1
abbrev fA (f : Fm) : Nat → Prop := f.2.2.2.2.2.2.2.2.2
/-- class, code, locals, answer -/
abbrev Om : Type := String × ByteArray × Nat × Option FieldType
def FxOk (G : Gx) (f : Fm) (o : Om) (b : Nat × Nat × Nat) : Prop :=
  (fp f).tables.exec = Jvm.exec ∧ (fc f).code = o.2.1 ∧ (fc f).maxLocals = o.2.2.1 ∧ (fs f).vm.findClass o.1 = some (fm f).cls ∧ (∀ w ∈ lw_all, w.before (fa f) (fs f) = true) ∧ va_K G.1 vwCl (tysG G) (fs f) ∧ (∀ q, (fs f).heap.size ≤ q → fA f q) ∧ ST G (fA f) (fs f) (fs f).heap ∧ (fme f).sig.returnType = o.2.2.2 ∧ (fme f).locks = false ∧ (b.1 ≤ (fR f).frames ∧ 40 * b.1 ≤ (fR f).locals ∧ b.2.1 ≤ (fR f).cells ∧ b.2.2 ≤ (fR f).slots)
def WW (l : Launch) (f : Fm) (H : Heap) (locs : List Loc) (k n : Nat) (Q : State → Prop) (pc : Nat) (ls : Array Slot) (st : List Value) : Prop :=
  W (fp f) l (fe f) (fR f) (fs f) (fm f) (fa f) (fb f) (fme f) (fc f) H locs k n Q (F0 (fm f) pc ls st)
def AW (l : Launch) (G : Gx) (f : Fm) (o : Om) (b : Nat × Nat × Nat) (Q : State → Prop) (xs : va_W) (k n pc : Nat) (lv : List (Nat × Value)) (st : List Value) (σ : Sg) : Prop :=
  FxOk G f o b → ∀ (H : Heap) (locs : List Loc) (ls : Array Slot), lv_has ls o.2.2.1 lv → va_P G.1 vwCl (wld G σ ++ xs) H → va_D (fA f) (wld G σ ++ xs) → va_S (fA f) (fs f).heap H locs → WW l f H locs k n Q pc ls st
def QT (G : Gx) (f : Fm) (mc ms : Nat) (r : Option Value) (σ' : Sg) : State → Prop :=
  MQ (fb f) (fun _ st oc t => (oc = .returned r ∧ va_P G.1 vwCl (wld G σ') t.heap) ∧ va_F (fA f) st t) (fa f) (fs f) mc ms (fA f)
def rmD (d mc ms : Nat) : Room := { frames := d, cells := mc, slots := ms, locals := 40 * d }
/-- a contract: from the cells σ the method y answers r and leaves σ' -/
def Ct (l : Launch) (G : Gx) (y : MethodName) (cc : ByteArray) (nL : Nat) (rt : Option FieldType) (d mc ms : Nat) (av : List Value) (σ : Sg) (r : Option Value) (σ' : Sg) : Prop :=
  ∀ sz : Nat, Met l y (.code y cc nL rt :: lw_all) (rmD d mc ms) (va_Pc av (fun U => U.heap.size = sz ∧ va_P G.1 vwCl (wld G σ) U.heap ∧ va_K G.1 vwCl (tysG G) U ∧ va_D (fun _ => True) (wld G σ) ∧ ST G (va_A (wld G σ) sz) U U.heap))
    (fun _ st oc t => (oc = .returned r ∧ va_P G.1 vwCl (wld G σ') t.heap) ∧ va_F (va_A (wld G σ) sz) st t) mc ms (va_A (wld G σ) sz)
theorem Ct.of {l : Launch} {G : Gx} {y : MethodName} {cc : ByteArray} {nL : Nat} {rt : Option FieldType} {d mc ms : Nat} {av : List Value} {σ : Sg} {r : Option Value} {σ' : Sg} (hy : plainName y.cls = true) (hlen : (lg_sl av).length ≤ nL)
    (body : ∀ f : Fm, AW l G f (y.cls, cc, nL, rt) (d, mc, ms) (QT G f mc ms r σ') [] 0 0 0 (lv_args 0 av) [] σ) : Ct l G y cc nL rt d mc ms av σ r σ' := by
  intro sz
  refine Met.ofW (cc := cc) (maxL := nL) (ret := rt) hy rfl ?_
  intro p e s m args below meth c s₁ B hml hv
  obtain ⟨rfl, hsz, hP, hK, hD0, hT⟩ := hv
  have hts := atoms_spec (ws := .code y cc nL rt :: lw_all) B.pre
  have hl := lv_entry av (n := nL) hlen
  rw [lg_entry_eq]
  generalize (lg_sl av ++ List.replicate (nL - (lg_sl av).length) Slot.unset).toArray = ls at hl ⊢
  subst hsz
  have hD := hD0.self (sz := s.heap.size)
  have h := body (p, e, (headSpec (.code y cc nL rt :: lw_all) (rmD d mc ms)).room, s, m, av.toArray, below, meth, c, va_A (wld G σ) s.heap.size)
  exact h ⟨B.exec, B.bytes, hml, findClass_of_methodNamed B.named, fun w hw => hts w (List.mem_cons_of_mem _ hw), hK, fun q hq => Or.inr hq, hT, B.returns, B.notSynchronized, Nat.le_refl _, Nat.le_refl _, Nat.le_refl _, Nat.le_refl _⟩
    s.heap [] ls hl (by rw [List.append_nil]; exact hP) (by rw [List.append_nil]; exact hD) va_S.rf
