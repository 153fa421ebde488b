/-! what the start gives: printed by program (wip/p27/gen/start27.py) -/
section S90
def NL : List Cond := flatC (Jvm.Cond.and given_1 narrow_1)
theorem nl_at {c : Cond} {s : State} {args : Array Value} (h : (Jvm.Cond.and given_1 narrow_1).before args s = true) {i : Nat} (e : NL[i]? = some c) : c.before args s = true := flat_of_before _ h _ (List.mem_of_getElem? e)
theorem tb_at {c : Cond} {s : State} {args : Array Value} (h : ∀ w ∈ lw_tbl, w.before args s = true) {i : Nat} (e : lw_tbl[i]? = some c) : c.before args s = true := h _ (List.mem_of_getElem? e)
def txT : Nat → Term := fun i => ([.string "MenuScript$Tokens" 27, .string "MenuScript$Tokens" 74, .string "MenuScriptLaw" 46, .string "MenuScriptLaw" 51, .string "MenuScriptLaw" 57, .string "MenuScriptLaw" 59, .string "MenuScriptLaw" 61, .string "MenuScriptLaw" 63, .string "MenuScriptLaw" 65, .string "MenuScriptLaw" 67, .string "MenuScriptLaw" 69, .string "MenuScriptLaw" 71, .string "MenuScriptLaw" 73, .string "MenuScriptLaw" 75, .string "MenuScriptLaw" 77, .string "MenuScriptLaw" 79, .string "MenuScriptLaw" 81, .string "MenuScriptLaw" 83] : List Term).getD i .null
def psS : List Nat := [11, 629, 352, 362, 381, 386, 398, 415, 425, 430, 461, 476, 490, 505, 521, 527, 533, 541]
def mpS : List Nat := [549, 595, 92, 118, 145, 183, 206, 240, 265, 289, 327]
def mtS : List Nat := [897, 906, 539, 581, 595, 611, 697, 711, 731, 732, 739]
def rtS2 : List Nat := [782, 788, 871, 875, 876, 877, 878, 879, 882, 883, 884, 885, 886, 887, 888, 889, 108, 956]
theorem ps_ex : ∀ i, i < 18 → NL[psS.getD i 0]? = some (Cond.exactly (txT i) "java/lang/String") := by decide +kernel
theorem ps_co : ∀ i, i < 18 → NL[psS.getD i 0 + 1]? = some (Cond.eq (.field (txT i) "java/lang/String" "coder" "B") (.int 0)) := by decide +kernel
theorem ps_ar : ∀ i, i < 18 → NL[psS.getD i 0 + 2]? = some (Cond.arrayOf (.field (txT i) "java/lang/String" "value" "[B") .byte) := by decide +kernel
theorem ps_le : ∀ i, i < 18 → NL[psS.getD i 0 + 3]? = some (Cond.eq (.length (.field (txT i) "java/lang/String" "value" "[B")) (.int (Int32.ofNat (lenS.getD (22 + i) 0)))) := by decide +kernel
theorem ps_el : ∀ i, i < 18 → ∀ j, j < lenS.getD (22 + i) 0 → NL[psS.getD i 0 + 4 + j]? = some (Cond.eq (.elem (.field (txT i) "java/lang/String" "value" "[B") (.int (Int32.ofNat j))) (.int ((bytS.getD (22 + i) []).getD j 0))) := by decide +kernel
theorem ms_ex : ∀ k, k < 11 → NL[mpS.getD k 0]? = some (Cond.exactly (.string (msS.getD k ("", 0, "")).1 (msS.getD k ("", 0, "")).2.1) "java/lang/String") := by decide +kernel
theorem ms_rf : ∀ k, k < 11 → lw_tbl[mtS.getD k 0]? = some (Cond.stringRef (msS.getD k ("", 0, "")).1 (msS.getD k ("", 0, "")).2.1 (msS.getD k ("", 0, "")).2.2) := by decide +kernel
theorem rf_rf : ∀ k, k < 18 → lw_tbl[rtS2.getD k 0]? = some (Cond.stringRef (rfS.getD k ("", 0, 0)).1 (rfS.getD k ("", 0, 0)).2.1 (txS.getD (rfS.getD k ("", 0, 0)).2.2 "")) := by decide +kernel
theorem rf_tm : ∀ k, k < 18 → (22 ≤ (rfS.getD k ("", 0, 0)).2.2 ∧ (rfS.getD k ("", 0, 0)).2.2 < 40) ∧ txT ((rfS.getD k ("", 0, 0)).2.2 - 22) = .string (rfS.getD k ("", 0, 0)).1 (rfS.getD k ("", 0, 0)).2.1 := by decide +kernel
theorem len_lt : ∀ i, i < 18 → lenS.getD (22 + i) 0 < 2 ^ 31 := by decide +kernel
theorem l0_ex : NL[372]? = some (Cond.exactly (.string "java/lang/StringLatin1" 151) "java/lang/String") := by decide +kernel
theorem l0_rf : lw_tbl[803]? = some (Cond.stringRef "java/lang/StringLatin1" 151 "") := by decide +kernel
theorem st_cs : NL[4]? = some (Cond.eq (.static "java/lang/String" "COMPACT_STRINGS" "Z") (.int 1)) := by decide +kernel
theorem st_fm : NL[5]? = some (Cond.isRef (.static "jdk/internal/util/Preconditions" "SIOOBE_FORMATTER" "Ljava/util/function/BiFunction;")) := by decide +kernel
theorem st_us : NL[9]? = some (Cond.isRef (.static Bundle.tN "UNASSIGNED_STACK" Bundle.steD)) := by decide +kernel
theorem st_su : NL[10]? = some (Cond.isRef (.static Bundle.tN "SUPPRESSED_SENTINEL" Bundle.listD)) := by decide +kernel
theorem ly_cs : lw_tbl[118]? = some (Cond.laysStatic "java/lang/String" "COMPACT_STRINGS" "Z") := by decide +kernel
theorem ly_fm : lw_tbl[134]? = some (Cond.laysStatic "jdk/internal/util/Preconditions" "SIOOBE_FORMATTER" "Ljava/util/function/BiFunction;") := by decide +kernel
theorem ly_us : lw_tbl[525]? = some (Cond.laysStatic Bundle.tN "UNASSIGNED_STACK" Bundle.steD) := by decide +kernel
theorem ly_su : lw_tbl[527]? = some (Cond.laysStatic Bundle.tN "SUPPRESSED_SENTINEL" Bundle.listD) := by decide +kernel
theorem in_cs : lw_tbl[56]? = some (Cond.initialized "java/lang/String") := by decide +kernel
theorem in_fm : lw_tbl[58]? = some (Cond.initialized "jdk/internal/util/Preconditions") := by decide +kernel
theorem in_th : lw_tbl[71]? = some (Cond.initialized Bundle.tN) := by decide +kernel
def dcP : List Nat := [502, 504, 506]
theorem dc_ok : ∀ k, k < 3 → lw_tbl[dcP.getD k 0]? = some (Cond.declares (dcS.getD k ⟨"", "", ""⟩)) := by decide +kernel
def exP : List Nat := [604, 588, 500]
theorem ex_ok : ∀ k, k < 3 → lw_tbl[exP.getD k 0]? = some (Cond.castable (exS.getD k "") (exS.getD k "")) := by decide +kernel
theorem fln_ok : lw_tbl[377]? = some (Cond.fieldLinkNest "MenuScript" 121 "MenuScript$MeaningReader" "errorToken" "I" "MenuScript") := by decide +kernel
def mnP : List Nat := [88, 197, 224]
theorem mn_ok : ∀ k, k < 3 → lw_tbl[mnP.getD k 0]? = some (Cond.methodLinkNest (mnS.getD k ("", 0, ⟨"", "", ""⟩, "")).1 (mnS.getD k ("", 0, ⟨"", "", ""⟩, "")).2.1 (mnS.getD k ("", 0, ⟨"", "", ""⟩, "")).2.2.1 (mnS.getD k ("", 0, ⟨"", "", ""⟩, "")).2.2.2) := by decide +kernel
theorem ao_ok : lw_tbl[257]? = some (Cond.arrayOver (.array .int)) := by decide +kernel
theorem ao_st : lw_tbl[881]? = some (Cond.arrayOver (.object "java/lang/String")) := by decide +kernel
theorem ac_b : lw_tbl[101]? = some (Cond.arrayClass .byte) := by decide +kernel
theorem ac_l : lw_tbl[177]? = some (Cond.arrayClass .long) := by decide +kernel
theorem ac_i : lw_tbl[178]? = some (Cond.arrayClass .int) := by decide +kernel
theorem len_sm {t : Term} {s : State} {args : Array Value} {a : Nat} {z : Value} (ht : t.eval args s none [] s = some (.ref a)) (h : (Term.length t).eval args s none [] s = some z) : ∃ cell, s.arrayAt? a = some cell ∧ cell.slots.size < 2 ^ 31 ∧ z = .int cell.slots.size.toInt32 := by
  simp only [Term.eval, ht] at h
  cases hc : s.arrayAt? a with
  | none => simp [hc] at h
  | some cell =>
    simp [hc] at h
    exact ⟨cell, rfl, by have := h.1; omega, h.2.symm⟩
theorem vkS_start {s : State} {args : Array Value} {A : Nat → Prop} (h : (Jvm.Cond.and given_1 narrow_1).before args s = true) (hA : ∀ a : Nat, a < s.heap.size → ¬ A a) : ∃ adK adV : Nat → Nat, ∀ k : Nat, k < 18 → (txT k).eval args s none [] s = some (.ref (adK k)) ∧ vk_S 1 [lenS.getD (22 + k) 0] [bytS.getD (22 + k) []] (fun _ => adK k) (fun _ => adV k) A s s.heap ∧ (k = 3 → XQ (adK k) (adV k) s) := by
  have h0 : ∀ k : Nat, ∃ q : Nat × Nat, k < 18 → (txT k).eval args s none [] s = some (.ref q.1) ∧ vk_S 1 [lenS.getD (22 + k) 0] [bytS.getD (22 + k) []] (fun _ => q.1) (fun _ => q.2) A s s.heap ∧ (k = 3 → XQ q.1 q.2 s) := by
    intro k
    by_cases hk : k < 18
    · obtain ⟨a, c, cA, kA, q1, q2, q3, q4, q5, q6, q7⟩ := Cond.exactly_spec (args := args) (first := s) (o := none) (s := s) (idx := []) (nl_at h (ps_ex k hk))
      obtain ⟨t, ht, hT⟩ := va_Tof (f := fun j => .int ((bytS.getD (22 + k) []).getD j 0)) (A := A) (len_lt k hk) (nl_at h (ps_ar k hk)) (va_eqt (nl_at h (ps_le k hk))) (fun j hj => va_eqt (nl_at h (ps_el k hk j hj))) hA
      have hco := va_eqt (nl_at h (ps_co k hk))
      refine ⟨(a, t), fun _ => ⟨q1, ⟨fun i hi => ?_, fun i j hi hj _ => by omega⟩, fun e3 => ?_⟩⟩
      · obtain rfl : i = 0 := by omega
        exact ⟨⟨cA, q3, q5, by rw [q6]; exact q2, hA a (Array.getElem?_eq_some_iff.mp q3).1⟩, vk_OFof q1 hco hA, vk_OFof q1 ht hA, hT⟩
      · subst e3
        obtain ⟨cell, l1, l2, l3⟩ := len_sm ht (va_eqt (nl_at h (ps_le 3 hk)))
        obtain ⟨hcell, -⟩ := State.arrayAt?_spec l1
        refine ⟨cA, cell, kA, q3, q5, by rw [q6]; exact q4, q7, by rw [q6]; exact q2, (va_fe q1).symm.trans ht, (va_fe q1).symm.trans hco, hcell, ?_⟩
        have e := congrArg Int32.toInt (Value.int.inj l3)
        rw [show (lenS.getD (22 + 3) 0) = 6 from rfl] at e
        have e1 : (cell.slots.size.toInt32).toInt = cell.slots.size := Int32.toInt_ofNat_small l2
        rw [e1, show (Int32.ofNat 6).toInt = 6 from by decide] at e
        omega
    · exact ⟨(0, 0), fun w => absurd w hk⟩
  obtain ⟨ad, had⟩ := Classical.axiomOfChoice h0
  exact ⟨fun k => (ad k).1, fun k => (ad k).2, had⟩
theorem mem_getD {α : Type} {L : List α} {x d : α} (h : x ∈ L) : ∃ k, k < L.length ∧ L.getD k d = x := by
  obtain ⟨k, hk⟩ := List.getElem?_of_mem h
  exact ⟨k, (List.getElem?_eq_some_iff.mp hk).1, by rw [List.getD_eq_getElem?_getD, hk]; rfl⟩
theorem ST_start {s : State} {args : Array Value} {A : Nat → Prop} (h : (Jvm.Cond.and given_1 narrow_1).before args s = true) (ht : ∀ w ∈ lw_tbl, w.before args s = true) (hA : ∀ a : Nat, a < s.heap.size → ¬ A a) : ∃ adK adV : Nat → Nat, (∀ (D : va_G) (ar : Nat → ClassId) (ly : Nat → Nat), ST (D, ar, ly, adK, adV, [], 0) A s s.heap) ∧ XQ (adK 25) (adV 25) s ∧ adK 25 < s.heap.size ∧ adV 25 < s.heap.size := by
  obtain ⟨aK, aV, hv⟩ := vkS_start h hA
  have hx := (hv 3 (by decide)).2.2 rfl
  refine ⟨fun i => aK (i - 22), fun i => aV (i - 22), fun D ar ly => ⟨fun i hi => ?_, fun q hq => ?_, ?_, ?_, ?_, fun q hq => ?_, ?_, ?_, ⟨fun x hx => ?_, fun E hE => ?_, fun q hq => ?_, ?_, fun q hq => ?_⟩⟩, hx, ?_, ?_⟩
  · have h40 : i < 40 := by
      by_cases c : i < 40
      · exact c
      · have : (0 : Nat) = i := hi.2 (by omega)
        omega
    have h22 := hi.1.1
    have := (hv (i - 22) (by omega)).2.1
    rw [show 22 + (i - 22) = i from by omega] at this
    exact this
  · obtain ⟨k, hk, rfl⟩ := mem_getD (d := ("", 0, 0)) hq
    have hk : k < 18 := hk
    obtain ⟨r1, r2⟩ := rf_tm k hk
    exact vk_R.of (A := args) (tb_at ht (rf_rf k hk)) (by rw [← r2]; exact (hv _ (by omega)).1)
  · obtain ⟨a, c, cell, kk, q1, -⟩ := Cond.exactly_spec (args := args) (first := s) (o := none) (s := s) (idx := []) (nl_at h l0_ex)
    exact ⟨a, vk_R.of (A := args) (tb_at ht l0_rf) q1⟩
  · exact va_Zof (tb_at ht ly_cs) (tb_at ht in_cs) (va_eqi (nl_at h st_cs)) hA
  · exact va_Zqof (tb_at ht ly_fm) (tb_at ht in_fm) (nl_at h st_fm) hA
  · obtain ⟨k, hk, rfl⟩ := mem_getD (d := ("", 0, "")) hq
    have hk : k < 11 := hk
    obtain ⟨a, c, cell, kk, q1, -⟩ := Cond.exactly_spec (args := args) (first := s) (o := none) (s := s) (idx := []) (nl_at h (ms_ex k hk))
    exact ⟨a, vk_R.of (A := args) (tb_at ht (ms_rf k hk)) q1⟩
  · exact vx_Zqof (tb_at ht ly_us) (tb_at ht in_th) (nl_at h st_us) hA
  · exact vx_Zqof (tb_at ht ly_su) (tb_at ht in_th) (nl_at h st_su) hA
  · obtain ⟨k, hk, rfl⟩ := mem_getD (d := (⟨"", "", ""⟩ : MethodName)) hx
    exact va_Nw.of rfl (tb_at ht (dc_ok k hk))
  · obtain ⟨k, hk, rfl⟩ := mem_getD (d := "") hE
    exact va_Nw.of rfl (tb_at ht (ex_ok k hk))
  · cases hq
  · exact va_Nw.of rfl (tb_at ht fln_ok)
  · obtain ⟨k, hk, rfl⟩ := mem_getD (d := (("", 0, ⟨"", "", ""⟩, "") : String × Nat × MethodName × String)) hq
    exact va_Nw.of rfl (tb_at ht (mn_ok k hk))
  · obtain ⟨cs, arr, k, e1, -⟩ := hx
    exact (Array.getElem?_eq_some_iff.mp e1).1
  · obtain ⟨cs, arr, k, -, -, -, -, -, -, -, e1, -⟩ := hx
    exact (Array.getElem?_eq_some_iff.mp e1).1
theorem AO_start {s : State} {args : Array Value} (ht : ∀ w ∈ lw_tbl, w.before args s = true) : AO s := AO.of (tb_at ht ao_ok)
theorem AS_start {s : State} {args : Array Value} (ht : ∀ w ∈ lw_tbl, w.before args s = true) : va_AO "java/lang/String" s := va_AO.of (tb_at ht ao_st)
theorem cl_tbl {ws : List Cond} (h : ∀ w ∈ ws, w ∈ lw_all) : ∀ w ∈ ws, w ∈ lw_tbl := fun w hw => (List.mem_filter.mp (h w hw)).1
theorem cw_J0 : ∀ w ∈ u_ws RJ0 TJ0 4, w ∈ lw_all := all_sub (by decide +kernel)
theorem K_start {s : State} {args : Array Value} (ht : ∀ w ∈ lw_tbl, w.before args s = true) : ∃ (D : va_G) (ar : Nat → ClassId), ∀ (ly aK aV : Nat → Nat), va_K D vwCl (tysG (D, ar, ly, aK, aV, [], 0)) s := by
  have h0 : ∀ c : Nat, ∃ x : ClassId × (Nat → Nat), ∀ q, vwCl[c]? = some q → u_Kn s q.1 q.2.1 q.2.2 x.1 x.2 := by
    intro c
    match c with
    | 0 =>
      obtain ⟨cC, iS, h⟩ := u_known (C := RX0) (T := TX0) (N := 4) (n := 4) ht (cl_tbl cw_X0) (tb_at ht (show lw_tbl[344]? = some (Cond.instantiable RX0 4) by decide +kernel))
      exact ⟨(cC, iS), fun q hq => by cases hq; exact h⟩
    | 1 =>
      obtain ⟨cC, iS, h⟩ := u_known (C := RX1) (T := TX1) (N := 3) (n := 3) ht (cl_tbl cw_X1) (tb_at ht (show lw_tbl[180]? = some (Cond.instantiable RX1 3) by decide +kernel))
      exact ⟨(cC, iS), fun q hq => by cases hq; exact h⟩
    | 2 =>
      obtain ⟨cC, iS, h⟩ := u_known (C := RX2) (T := TX2) (N := 13) (n := 13) ht (cl_tbl cw_X2) (tb_at ht (show lw_tbl[363]? = some (Cond.instantiable RX2 13) by decide +kernel))
      exact ⟨(cC, iS), fun q hq => by cases hq; exact h⟩
    | 3 =>
      obtain ⟨cC, iS, h⟩ := u_known (C := RX3) (T := TX3) (N := 8) (n := 8) ht (cl_tbl cw_X3) (tb_at ht (show lw_tbl[410]? = some (Cond.instantiable RX3 8) by decide +kernel))
      exact ⟨(cC, iS), fun q hq => by cases hq; exact h⟩
    | 4 =>
      obtain ⟨cC, iS, h⟩ := u_known (C := RX4) (T := TX4) (N := 3) (n := 3) ht (cl_tbl cw_X4) (tb_at ht (show lw_tbl[202]? = some (Cond.instantiable RX4 3) by decide +kernel))
      exact ⟨(cC, iS), fun q hq => by cases hq; exact h⟩
    | 5 =>
      obtain ⟨cC, iS, h⟩ := u_known (C := RX5) (T := TX5) (N := 2) (n := 2) ht (cl_tbl cw_X5) (tb_at ht (show lw_tbl[447]? = some (Cond.instantiable RX5 2) by decide +kernel))
      exact ⟨(cC, iS), fun q hq => by cases hq; exact h⟩
    | 6 =>
      obtain ⟨cC, iS, h⟩ := u_known (C := RX6) (T := TX6) (N := 17) (n := 17) ht (cl_tbl cw_X6) (tb_at ht (show lw_tbl[196]? = some (Cond.instantiable RX6 17) by decide +kernel))
      exact ⟨(cC, iS), fun q hq => by cases hq; exact h⟩
    | 7 =>
      obtain ⟨cC, iS, h⟩ := u_known (C := RX7) (T := TX7) (N := 5) (n := 5) ht (cl_tbl cw_X7) (tb_at ht (show lw_tbl[223]? = some (Cond.instantiable RX7 5) by decide +kernel))
      exact ⟨(cC, iS), fun q hq => by cases hq; exact h⟩
    | 8 =>
      obtain ⟨cC, iS, h⟩ := u_known (C := RX8) (T := TX8) (N := 2) (n := 2) ht (cl_tbl cw_X8) (tb_at ht (show lw_tbl[87]? = some (Cond.instantiable RX8 2) by decide +kernel))
      exact ⟨(cC, iS), fun q hq => by cases hq; exact h⟩
    | 9 =>
      obtain ⟨cC, iS, h⟩ := u_known (C := RX9) (T := TX9) (N := 5) (n := 5) ht (cl_tbl cw_X9) (tb_at ht (show lw_tbl[103]? = some (Cond.instantiable RX9 5) by decide +kernel))
      exact ⟨(cC, iS), fun q hq => by cases hq; exact h⟩
    | 10 =>
      obtain ⟨cC, iS, h⟩ := u_known (C := RX10) (T := TX10) (N := 10) (n := 10) ht (cl_tbl cw_X10) (tb_at ht (show lw_tbl[79]? = some (Cond.instantiable RX10 10) by decide +kernel))
      exact ⟨(cC, iS), fun q hq => by cases hq; exact h⟩
    | 11 =>
      obtain ⟨cC, iS, h⟩ := u_known (C := RJ0) (T := TJ0) (N := 4) (n := 4) ht (cl_tbl cw_J0) (tb_at ht (show lw_tbl[805]? = some (Cond.instantiable RJ0 4) by decide +kernel))
      exact ⟨(cC, iS), fun q hq => by cases hq; exact h⟩
    | c + 12 => exact ⟨(0, fun _ => 0), fun q hq => by
        have h1 := (List.getElem?_eq_some_iff.mp hq).1
        have h2 : vwCl.length = 12 := rfl
        omega⟩
  obtain ⟨d, hd⟩ := Classical.axiomOfChoice h0
  obtain ⟨cb, kb, pb, b1, b2, b3⟩ := Cond.arrayClass_spec (tb_at ht ac_b)
  obtain ⟨ci, ki, pi, i1, i2, i3⟩ := Cond.arrayClass_spec (tb_at ht ac_i)
  obtain ⟨cl, kl, pl, l1, l2, l3⟩ := Cond.arrayClass_spec (tb_at ht ac_l)
  obtain ⟨pr, cr, kr, r1, -, r2, r3, r4⟩ := arrayOver_specB (tb_at ht ao_ok)
  refine ⟨(fun c => (d c).1, fun c => (d c).2), fun j => ([cb, ci, cl, cr] : List ClassId).getD j 0, fun ly aK aV => ⟨fun c q hq => hd c q hq, fun k q hq => ?_⟩⟩
  match k, hq with
  | 0, hq => cases hq; exact ⟨fun n z => ⟨fun w hw => (by cases hw), kb, b2, pb, b3⟩, b1⟩
  | 1, hq => cases hq; exact ⟨fun n z => ⟨fun w hw => (by cases hw), ki, i2, pi, i3⟩, i1⟩
  | 2, hq => cases hq; exact ⟨fun n z => ⟨fun w hw => (by cases hw), kl, l2, pl, l3⟩, l1⟩
  | 3, hq => cases hq; exact ⟨fun n z => ⟨fun w hw => (by cases hw), kr, r2, pr, r3⟩, r4⟩
  | k + 4, hq =>
    have h1 := (List.getElem?_eq_some_iff.mp hq).1
    have h2 : ∀ G : Gx, (tysG G).length = 4 := fun G => rfl
    rw [h2] at h1
    omega
end S90
