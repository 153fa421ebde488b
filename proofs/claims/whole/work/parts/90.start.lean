/-! what the start gives: printed by program (wip/whole/gen/start.py) -/
section S90
def NL : List Cond := flatC (Jvm.Cond.and given_1 narrow_1)
theorem nl_at {c : Cond} {s : State} {args : Array Value} (h : (Jvm.Cond.and given_1 narrow_1).before args s = true) {i : Nat} (e : NL[i]? = some c) : c.before args s = true := flat_of_before _ h _ (List.mem_of_getElem? e)
theorem tb_at {c : Cond} {s : State} {args : Array Value} (h : ∀ w ∈ lw_tbl, w.before args s = true) {i : Nat} (e : lw_tbl[i]? = some c) : c.before args s = true := h _ (List.mem_of_getElem? e)
def txT : Nat → Term := fun i => ([.string "MenuScriptModel" 158, .string "MenuScriptModel" 176, .string "MenuScriptModel" 178, .string "MenuScriptModel" 195, .string "MenuScriptModel" 198, .string "MenuScriptModel" 185, .string "MenuScriptModel" 190, .string "MenuScriptModel" 203, .string "MenuScriptModel" 209, .string "MenuScriptModel" 211, .string "MenuScriptModel" 213, .string "MenuScriptModel" 205, .string "MenuScriptModel" 207, .string "MenuScriptModel" 232, .string "MenuScriptModel" 224, .string "MenuScriptModel" 234, .string "MenuScriptModel" 169, .string "MenuScriptModel" 174, .string "MenuScriptModel" 180, .string "MenuScriptModel" 196, .string "MenuScriptModel" 236, .string "MenuScriptModel" 238, .string "MenuScript$Tokens" 27, .string "MenuScript$Tokens" 74] : List Term).getD i .null
def psS : List Nat := [806, 839, 847, 823, 859, 865, 903, 911, 936, 944, 953, 920, 930, 890, 897, 873, 814, 834, 854, 829, 880, 885, 73, 154]
def mpS : List Nat := [163, 209, 243, 269, 317, 365, 398, 425, 473, 511, 534, 568, 608, 645, 670, 694, 732, 757, 782]
def mtS : List Nat := [1065, 1112, 1136, 1151, 1160, 1169, 1182, 1191, 1200, 1201, 1223, 1232, 1234, 1243, 1252, 1253, 1268, 1276, 1277]
def rtS2 : List Nat := [1461, 1490, 1497, 1498, 1499, 1500, 1506, 1536, 1495, 1496, 1505, 1541, 1542, 1543, 1544, 1545, 1546, 1535, 1534, 1531, 1532, 1533, 164, 620]
theorem ps_ex : ∀ i, i < 24 → NL[psS.getD i 0]? = some (Cond.exactly (txT i) "java/lang/String") := by decide +kernel
theorem ps_co : ∀ i, i < 24 → NL[psS.getD i 0 + 1]? = some (Cond.eq (.field (txT i) "java/lang/String" "coder" "B") (.int 0)) := by decide +kernel
theorem ps_ar : ∀ i, i < 24 → NL[psS.getD i 0 + 2]? = some (Cond.arrayOf (.field (txT i) "java/lang/String" "value" "[B") .byte) := by decide +kernel
theorem ps_le : ∀ i, i < 24 → NL[psS.getD i 0 + 3]? = some (Cond.eq (.length (.field (txT i) "java/lang/String" "value" "[B")) (.int (Int32.ofNat (lenS.getD i 0)))) := by decide +kernel
theorem ps_el : ∀ i, i < 24 → ∀ j, j < lenS.getD i 0 → NL[psS.getD i 0 + 4 + j]? = some (Cond.eq (.elem (.field (txT i) "java/lang/String" "value" "[B") (.int (Int32.ofNat j))) (.int ((bytS.getD i []).getD j 0))) := by decide +kernel
theorem ms_ex : ∀ k, k < 19 → NL[mpS.getD k 0]? = some (Cond.exactly (.string (msS.getD k ("", 0, "")).1 (msS.getD k ("", 0, "")).2.1) "java/lang/String") := by decide +kernel
theorem ms_rf : ∀ k, k < 19 → lw_tbl[mtS.getD k 0]? = some (Cond.stringRef (msS.getD k ("", 0, "")).1 (msS.getD k ("", 0, "")).2.1 (msS.getD k ("", 0, "")).2.2) := by decide +kernel
theorem rf_rf : ∀ k, k < 24 → lw_tbl[rtS2.getD k 0]? = some (Cond.stringRef (rfS.getD k ("", 0, 0)).1 (rfS.getD k ("", 0, 0)).2.1 (txS.getD (rfS.getD k ("", 0, 0)).2.2 "")) := by decide +kernel
theorem rf_tm : ∀ k, k < 24 → (rfS.getD k ("", 0, 0)).2.2 < 24 ∧ txT (rfS.getD k ("", 0, 0)).2.2 = .string (rfS.getD k ("", 0, 0)).1 (rfS.getD k ("", 0, 0)).2.1 := by decide +kernel
def difS (i j : Nat) : Bool := decide (Int32.ofNat (lenS.getD i 0) ≠ Int32.ofNat (lenS.getD j 0)) || (List.range (lenS.getD i 0)).any (fun k => decide (k < lenS.getD j 0) && decide ((bytS.getD i []).getD k 0 ≠ (bytS.getD j []).getD k 0))
theorem dif_ok : ∀ i, i < 24 → ∀ j, j < 24 → i = j ∨ difS i j = true := by decide +kernel
theorem len_lt : ∀ i, i < 24 → lenS.getD i 0 < 2 ^ 31 := by decide +kernel
theorem vkS_start {s : State} {args : Array Value} {A : Nat → Prop} (h : (Jvm.Cond.and given_1 narrow_1).before args s = true) (hA : ∀ a : Nat, a < s.heap.size → ¬ A a) : ∃ adK adV : Nat → Nat, vk_S 24 lenS bytS adK adV A s s.heap ∧ ∀ i : Nat, i < 24 → (txT i).eval args s none [] s = some (.ref (adK i)) := by
  have h0 : ∀ i : Nat, ∃ q : Nat × Nat, i < 24 → (txT i).eval args s none [] s = some (.ref q.1) ∧ va_O "java/lang/String" q.1 A s s.heap ∧ va_OF "java/lang/String" "coder" "B" (.int 0) q.1 A s s.heap ∧ va_OF "java/lang/String" "value" "[B" (.ref q.2) q.1 A s s.heap ∧ va_T .byte q.2 (lenS.getD i 0) (fun j => .int ((bytS.getD i []).getD j 0)) A s s.heap := by
    intro i
    by_cases hi : i < 24
    · have z : ∀ {k : Nat}, k < 1 → k = 0 := fun hk => by omega
      obtain ⟨aK, aV, ⟨hv, -⟩, he⟩ := vk_Sof (args := args) (s := s) (N := 1) (tm := fun _ => txT i) (len := [lenS.getD i 0]) (byt := [bytS.getD i []]) (A := A) (fun k hk => by obtain rfl := z hk; exact len_lt i hi) (fun k hk => nl_at h (ps_ex i hi)) (fun k hk => nl_at h (ps_co i hi)) (fun k hk => nl_at h (ps_ar i hi)) (fun k hk => by obtain rfl := z hk; exact nl_at h (ps_le i hi)) (fun k hk j hj => by obtain rfl := z hk; exact nl_at h (ps_el i hi j hj)) (fun k j hk hj hne => by omega) hA
      exact ⟨(aK 0, aV 0), fun _ => ⟨he 0 (by decide), hv 0 (by decide)⟩⟩
    · exact ⟨(0, 0), fun w => absurd w hi⟩
  obtain ⟨ad, had⟩ := Classical.axiomOfChoice h0
  refine ⟨fun i => (ad i).1, fun i => (ad i).2, ⟨fun i hi => (had i hi).2, fun i j hi hj e => ?_⟩, fun i hi => (had i hi).1⟩
  rcases dif_ok i hi j hj with hij | hd
  · exact hij
  · exfalso
    obtain ⟨-, -, -, ⟨cf, k, fi, f, cell, f1, -, f3, -, f5, -⟩, ⟨t1, g1, -, -, -, g5, g6, -⟩⟩ := had i hi
    obtain ⟨-, -, -, ⟨cf', k', fi', f', cell', f1', -, f3', -, f5', -⟩, ⟨t1', g1', -, -, -, g5', g6', -⟩⟩ := had j hj
    have e : (ad i).1 = (ad j).1 := e
    rw [e] at f3
    cases f1.symm.trans f1'
    cases f3.symm.trans f3'
    have ev : (ad i).2 = (ad j).2 := Value.ref.inj (Option.some.inj (f5.symm.trans f5'))
    rw [ev] at g1
    cases g1.symm.trans g1'
    unfold difS at hd
    rcases (Bool.or_eq_true _ _).mp hd with hd | hd
    · exact of_decide_eq_true hd (g5.symm.trans g5')
    · obtain ⟨q, hq, hq2⟩ := List.any_eq_true.mp hd
      have hq1 := List.mem_range.mp hq
      have hq3 := (Bool.and_eq_true _ _).mp hq2
      have e1 := g6 q hq1
      have e2 := g6' q (of_decide_eq_true hq3.1)
      exact of_decide_eq_true hq3.2 (Value.int.inj (Option.some.inj (e1.symm.trans e2)))
theorem kw_ar : NL[12]? = some (Cond.arrayOf (.static "MenuScriptModel" "KEYWORDS" "[Ljava/lang/String;") (.object "java/lang/String")) := by decide +kernel
theorem kw_le : NL[13]? = some (Cond.eq (.length (.static "MenuScriptModel" "KEYWORDS" "[Ljava/lang/String;")) (.int (Int32.ofNat 17))) := by decide +kernel
theorem kw_el : ∀ j, j < 17 → NL[14 + j]? = some (Cond.eq (.elem (.static "MenuScriptModel" "KEYWORDS" "[Ljava/lang/String;") (.int (Int32.ofNat j))) (txT j)) := by decide +kernel
theorem st_cs : NL[4]? = some (Cond.eq (.static "java/lang/String" "COMPACT_STRINGS" "Z") (.int 1)) := by decide +kernel
theorem st_fm : NL[5]? = some (Cond.isRef (.static "jdk/internal/util/Preconditions" "SIOOBE_FORMATTER" "Ljava/util/function/BiFunction;")) := by decide +kernel
theorem st_us : NL[9]? = some (Cond.isRef (.static Bundle.tN "UNASSIGNED_STACK" Bundle.steD)) := by decide +kernel
theorem st_su : NL[10]? = some (Cond.isRef (.static Bundle.tN "SUPPRESSED_SENTINEL" Bundle.listD)) := by decide +kernel
theorem nc_a : NL[57]? = some (Cond.not (.castable ISE IAE)) := by decide +kernel
theorem nc_b : NL[71]? = some (Cond.not (.castable ISE IOO)) := by decide +kernel
theorem nc_c : NL[72]? = some (Cond.not (.castable IAE IOO)) := by decide +kernel
theorem ly_kw : lw_tbl[1485]? = some (Cond.laysStatic "MenuScriptModel" "KEYWORDS" "[Ljava/lang/String;") := by decide +kernel
theorem ly_cs : lw_tbl[174]? = some (Cond.laysStatic "java/lang/String" "COMPACT_STRINGS" "Z") := by decide +kernel
theorem ly_fm : lw_tbl[190]? = some (Cond.laysStatic "jdk/internal/util/Preconditions" "SIOOBE_FORMATTER" "Ljava/util/function/BiFunction;") := by decide +kernel
theorem ly_us : lw_tbl[1051]? = some (Cond.laysStatic Bundle.tN "UNASSIGNED_STACK" Bundle.steD) := by decide +kernel
theorem ly_su : lw_tbl[1053]? = some (Cond.laysStatic Bundle.tN "SUPPRESSED_SENTINEL" Bundle.listD) := by decide +kernel
theorem in_kw : lw_tbl[125]? = some (Cond.initialized "MenuScriptModel") := by decide +kernel
theorem in_cs : lw_tbl[113]? = some (Cond.initialized "java/lang/String") := by decide +kernel
theorem in_fm : lw_tbl[115]? = some (Cond.initialized "jdk/internal/util/Preconditions") := by decide +kernel
theorem in_th : lw_tbl[126]? = some (Cond.initialized Bundle.tN) := by decide +kernel
def dcP : List Nat := [1028, 1030, 1032]
theorem dc_ok : ∀ k, k < 3 → lw_tbl[dcP.getD k 0]? = some (Cond.declares (dcS.getD k ⟨"", "", ""⟩)) := by decide +kernel
def exP : List Nat := [1026, 1105, 1129]
theorem ex_ok : ∀ k, k < 3 → lw_tbl[exP.getD k 0]? = some (Cond.castable (exS.getD k "") (exS.getD k "")) := by decide +kernel
theorem fln_ok : lw_tbl[434]? = some (Cond.fieldLinkNest "MenuScript" 121 "MenuScript$MeaningReader" "errorToken" "I" "MenuScript") := by decide +kernel
def mnP : List Nat := [144, 253, 280]
theorem mn_ok : ∀ k, k < 3 → lw_tbl[mnP.getD k 0]? = some (Cond.methodLinkNest (mnS.getD k ("", 0, ⟨"", "", ""⟩, "")).1 (mnS.getD k ("", 0, ⟨"", "", ""⟩, "")).2.1 (mnS.getD k ("", 0, ⟨"", "", ""⟩, "")).2.2.1 (mnS.getD k ("", 0, ⟨"", "", ""⟩, "")).2.2.2) := by decide +kernel
theorem ao_ok : lw_tbl[313]? = some (Cond.arrayOver (.array .int)) := by decide +kernel
theorem ac_b : lw_tbl[157]? = some (Cond.arrayClass .byte) := by decide +kernel
theorem ac_l : lw_tbl[233]? = some (Cond.arrayClass .long) := by decide +kernel
theorem ac_i : lw_tbl[234]? = some (Cond.arrayClass .int) := by decide +kernel
theorem mem_getD {α : Type} {L : List α} {x d : α} (h : x ∈ L) : ∃ k, k < L.length ∧ L.getD k d = x := by
  obtain ⟨k, hk⟩ := List.getElem?_of_mem h
  exact ⟨k, (List.getElem?_eq_some_iff.mp hk).1, by rw [List.getD_eq_getElem?_getD, hk]; rfl⟩
theorem ST_start {s : State} {args : Array Value} {A : Nat → Prop} (h : (Jvm.Cond.and given_1 narrow_1).before args s = true) (ht : ∀ w ∈ lw_tbl, w.before args s = true) (hA : ∀ a : Nat, a < s.heap.size → ¬ A a) : ∃ adK adV : Nat → Nat, ∀ (D : va_G) (ar : Nat → ClassId) (ly : Nat → Nat), ST (D, ar, ly, adK, adV) A s s.heap := by
  obtain ⟨adK, adV, hv, he⟩ := vkS_start h hA
  refine ⟨adK, adV, fun D ar ly => ⟨hv, fun q hq => ?_, ?_, ?_, ?_, fun q hq => ?_, ?_, ?_, ⟨fun x hx => ?_, fun E hE => ?_, fun q hq => ?_, ?_, fun q hq => ?_⟩⟩⟩
  · obtain ⟨k, hk, rfl⟩ := mem_getD (d := ("", 0, 0)) hq
    have hk : k < 24 := hk
    obtain ⟨r1, r2⟩ := rf_tm k hk
    exact vk_R.of (A := args) (tb_at ht (rf_rf k hk)) (by rw [← r2]; exact he _ r1)
  · obtain ⟨t, e1, e2⟩ := va_Tof (args := args) (s := s) (tm := .static "MenuScriptModel" "KEYWORDS" "[Ljava/lang/String;") (ty := .object "java/lang/String") (N := 17) (f := fun j => .ref (adK j)) (A := A) (by decide) (nl_at h kw_ar) (va_eqt (nl_at h kw_le)) (fun j hj => va_eqv (nl_at h (kw_el j hj)) (he j (by omega))) hA
    exact ⟨t, va_Zof (tb_at ht ly_kw) (tb_at ht in_kw) e1 hA, e2⟩
  · exact va_Zof (tb_at ht ly_cs) (tb_at ht in_cs) (va_eqi (nl_at h st_cs)) hA
  · exact va_Zqof (tb_at ht ly_fm) (tb_at ht in_fm) (nl_at h st_fm) hA
  · obtain ⟨k, hk, rfl⟩ := mem_getD (d := ("", 0, "")) hq
    have hk : k < 19 := hk
    obtain ⟨a, c, cell, kk, q1, -⟩ := Cond.exactly_spec (args := args) (first := s) (o := none) (s := s) (idx := []) (nl_at h (ms_ex k hk))
    exact ⟨a, vk_R.of (A := args) (tb_at ht (ms_rf k hk)) q1⟩
  · exact vx_Zqof (tb_at ht ly_us) (tb_at ht in_th) (nl_at h st_us) hA
  · exact vx_Zqof (tb_at ht ly_su) (tb_at ht in_th) (nl_at h st_su) hA
  · obtain ⟨k, hk, rfl⟩ := mem_getD (d := (⟨"", "", ""⟩ : MethodName)) hx
    exact va_Nw.of rfl (tb_at ht (dc_ok k hk))
  · obtain ⟨k, hk, rfl⟩ := mem_getD (d := "") hE
    exact va_Nw.of rfl (tb_at ht (ex_ok k hk))
  · unfold ncS at hq
    simp only [List.mem_cons, List.not_mem_nil, or_false] at hq
    rcases hq with rfl | rfl | rfl
    · exact va_Nc.of (nl_at h nc_a)
    · exact va_Nc.of (nl_at h nc_b)
    · exact va_Nc.of (nl_at h nc_c)
  · exact va_Nw.of rfl (tb_at ht fln_ok)
  · obtain ⟨k, hk, rfl⟩ := mem_getD (d := (("", 0, ⟨"", "", ""⟩, "") : String × Nat × MethodName × String)) hq
    exact va_Nw.of rfl (tb_at ht (mn_ok k hk))
theorem AO_start {s : State} {args : Array Value} (ht : ∀ w ∈ lw_tbl, w.before args s = true) : AO s := AO.of (tb_at ht ao_ok)
theorem cl_tbl {ws : List Cond} (h : ∀ w ∈ ws, w ∈ lw_all) : ∀ w ∈ ws, w ∈ lw_tbl := fun w hw => (List.mem_filter.mp (h w hw)).1
theorem K_start {s : State} {args : Array Value} (ht : ∀ w ∈ lw_tbl, w.before args s = true) : ∃ (D : va_G) (ar : Nat → ClassId), ∀ (ly aK aV : Nat → Nat), va_K D vwCl (tysG (D, ar, ly, aK, aV)) s := by
  have h0 : ∀ c : Nat, ∃ x : ClassId × (Nat → Nat), ∀ q, vwCl[c]? = some q → u_Kn s q.1 q.2.1 q.2.2 x.1 x.2 := by
    intro c
    match c with
    | 0 =>
      obtain ⟨cC, iS, h⟩ := u_known (C := RX0) (T := TX0) (N := 4) (n := 4) ht (cl_tbl cw_X0) (tb_at ht (show lw_tbl[401]? = some (Cond.instantiable RX0 4) by decide +kernel))
      exact ⟨(cC, iS), fun q hq => by cases hq; exact h⟩
    | 1 =>
      obtain ⟨cC, iS, h⟩ := u_known (C := RX1) (T := TX1) (N := 3) (n := 3) ht (cl_tbl cw_X1) (tb_at ht (show lw_tbl[236]? = some (Cond.instantiable RX1 3) by decide +kernel))
      exact ⟨(cC, iS), fun q hq => by cases hq; exact h⟩
    | 2 =>
      obtain ⟨cC, iS, h⟩ := u_known (C := RX2) (T := TX2) (N := 13) (n := 13) ht (cl_tbl cw_X2) (tb_at ht (show lw_tbl[420]? = some (Cond.instantiable RX2 13) by decide +kernel))
      exact ⟨(cC, iS), fun q hq => by cases hq; exact h⟩
    | 3 =>
      obtain ⟨cC, iS, h⟩ := u_known (C := RX3) (T := TX3) (N := 8) (n := 8) ht (cl_tbl cw_X3) (tb_at ht (show lw_tbl[467]? = some (Cond.instantiable RX3 8) by decide +kernel))
      exact ⟨(cC, iS), fun q hq => by cases hq; exact h⟩
    | 4 =>
      obtain ⟨cC, iS, h⟩ := u_known (C := RX4) (T := TX4) (N := 3) (n := 3) ht (cl_tbl cw_X4) (tb_at ht (show lw_tbl[258]? = some (Cond.instantiable RX4 3) by decide +kernel))
      exact ⟨(cC, iS), fun q hq => by cases hq; exact h⟩
    | 5 =>
      obtain ⟨cC, iS, h⟩ := u_known (C := RX5) (T := TX5) (N := 2) (n := 2) ht (cl_tbl cw_X5) (tb_at ht (show lw_tbl[506]? = some (Cond.instantiable RX5 2) by decide +kernel))
      exact ⟨(cC, iS), fun q hq => by cases hq; exact h⟩
    | 6 =>
      obtain ⟨cC, iS, h⟩ := u_known (C := RX6) (T := TX6) (N := 17) (n := 17) ht (cl_tbl cw_X6) (tb_at ht (show lw_tbl[252]? = some (Cond.instantiable RX6 17) by decide +kernel))
      exact ⟨(cC, iS), fun q hq => by cases hq; exact h⟩
    | 7 =>
      obtain ⟨cC, iS, h⟩ := u_known (C := RX7) (T := TX7) (N := 5) (n := 5) ht (cl_tbl cw_X7) (tb_at ht (show lw_tbl[279]? = some (Cond.instantiable RX7 5) by decide +kernel))
      exact ⟨(cC, iS), fun q hq => by cases hq; exact h⟩
    | 8 =>
      obtain ⟨cC, iS, h⟩ := u_known (C := RX8) (T := TX8) (N := 2) (n := 2) ht (cl_tbl cw_X8) (tb_at ht (show lw_tbl[143]? = some (Cond.instantiable RX8 2) by decide +kernel))
      exact ⟨(cC, iS), fun q hq => by cases hq; exact h⟩
    | 9 =>
      obtain ⟨cC, iS, h⟩ := u_known (C := RX9) (T := TX9) (N := 5) (n := 5) ht (cl_tbl cw_X9) (tb_at ht (show lw_tbl[159]? = some (Cond.instantiable RX9 5) by decide +kernel))
      exact ⟨(cC, iS), fun q hq => by cases hq; exact h⟩
    | 10 =>
      obtain ⟨cC, iS, h⟩ := u_known (C := RX10) (T := TX10) (N := 10) (n := 10) ht (cl_tbl cw_X10) (tb_at ht (show lw_tbl[135]? = some (Cond.instantiable RX10 10) by decide +kernel))
      exact ⟨(cC, iS), fun q hq => by cases hq; exact h⟩
    | 11 =>
      obtain ⟨cC, iS, h⟩ := u_known (C := RX11) (T := TX11) (N := 41) (n := 41) ht (cl_tbl cw_X11) (tb_at ht (show lw_tbl[1280]? = some (Cond.instantiable RX11 41) by decide +kernel))
      exact ⟨(cC, iS), fun q hq => by cases hq; exact h⟩
    | c + 12 => exact ⟨(0, fun _ => 0), fun q hq => by
        have h1 := (List.getElem?_eq_some_iff.mp hq).1
        have h2 : vwCl.length = 12 := rfl
        omega⟩
  obtain ⟨d, hd⟩ := Classical.axiomOfChoice h0
  obtain ⟨cb, kb, pb, b1, b2, b3⟩ := Cond.arrayClass_spec (tb_at ht ac_b)
  obtain ⟨ci, ki, pi, i1, i2, i3⟩ := Cond.arrayClass_spec (tb_at ht ac_i)
  obtain ⟨cl, kl, pl, l1, l2, l3⟩ := Cond.arrayClass_spec (tb_at ht ac_l)
  obtain ⟨pr, cr, kr, r1, -, r2, r3, r4⟩ := arrayOver_specB (tb_at ht ao_ok)
  refine ⟨(fun c => (d c).1, fun c => (d c).2), fun j => ([cb, ci, cl, cr] : List ClassId).getD j 0, fun ly aK aV => ⟨fun c q hq => hd c q hq, fun k q hq => ?_⟩⟩
  match k, hq with
  | 0, hq => cases hq; exact ⟨fun n z => ⟨fun w hw => (by cases hw), kb, b2, pb, b3⟩, b1⟩
  | 1, hq => cases hq; exact ⟨fun n z => ⟨fun w hw => (by cases hw), ki, i2, pi, i3⟩, i1⟩
  | 2, hq => cases hq; exact ⟨fun n z => ⟨fun w hw => (by cases hw), kl, l2, pl, l3⟩, l1⟩
  | 3, hq => cases hq; exact ⟨fun n z => ⟨fun w hw => (by cases hw), kr, r2, pr, r3⟩, r4⟩
  | k + 4, hq =>
    have h1 := (List.getElem?_eq_some_iff.mp hq).1
    have h2 : ∀ G : Gx, (tysG G).length = 4 := fun G => rfl
    rw [h2] at h1
    omega
end S90
