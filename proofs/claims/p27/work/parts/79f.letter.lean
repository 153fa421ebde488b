/-! a letter goes to the row: substring, and put of what it made -/
section S79f
variable {l : Launch} {G : Gx} {f : Fm} {own : String} {cc : ByteArray} {nL : Nat} {rt : Option FieldType} {dd rc rs : Nat} {Q : State → Prop} {xs : va_W} {k n pc : Nat} {lv : List (Nat × Value)} {rest : List Value} {σ σ1 : Sg}
/-- one text more is there -/
def GL (G : Gx) (i r zz : Nat) : Gx := (G.1, G.2.1, G.2.2.1, (fun q => if q = i then r else G.2.2.2.1 q), (fun q => if q = i then zz else G.2.2.2.2.1 q), G.2.2.2.2.2.1, i)
theorem vk_Sw {N : Nat} {len : List Nat} {byt : List (List Int32)} {r zz : Nat} {A B : Nat → Prop} {U : State} {H : Heap} (hN : N = 1) (h : vk_S N len byt (fun _ => r) (fun _ => zz) A U H) (hr : ¬ B r) (hz : ¬ B zz) : vk_S N len byt (fun _ => r) (fun _ => zz) B U H := by
  subst hN
  obtain ⟨h1, h2⟩ := h
  refine ⟨fun i hi => ?_, h2⟩
  obtain ⟨⟨c1, a1, a2, a3, -⟩, ⟨q1, q2, q3, q4, q5, b1, b2, b3, b4, b5, -⟩, ⟨w1, w2, w3, w4, w5, d1, d2, d3, d4, d5, -⟩, ⟨t1, t2, t3, t4, t5, t6, t7, -⟩⟩ := h1 i hi
  exact ⟨⟨c1, a1, a2, a3, hr⟩, ⟨q1, q2, q3, q4, q5, b1, b2, b3, b4, b5, hr⟩, ⟨w1, w2, w3, w4, w5, d1, d2, d3, d4, d5, hr⟩, ⟨t1, t2, t3, t4, t5, t6, t7, hz⟩⟩
theorem tx_let : ∀ j : Nat, j < 6 → lenS.getD (40 + j) 0 = 1 ∧ bytS.getD (40 + j) [] = [(bytS.getD 25 []).getD j 0] := by decide +kernel
theorem rf_lt : ∀ q ∈ rfS, q.2.2 < 40 := by decide
theorem sub_blind {av : List Value} {sz aK aV : Nat} : FrameBlind (va_Pc av (fun U => (U.heap.size = sz ∧ va_P G.1 vwCl (wld G σ) U.heap ∧ va_K G.1 vwCl (tysG G) U ∧ va_D (fun _ => True) (wld G σ) ∧ ST G (va_A (wld G σ) sz) U U.heap) ∧ XQ aK aV U)) := by
  rintro a U g mk ⟨h1, ⟨h2, h3, h4, h5, h6⟩, h7⟩
  exact ⟨h1, ⟨h2, h3, va_K.moved (u := U) (U := U.calling g mk a) (Vm.Alike.refl U.vm) h4, h5, h6.call g mk a⟩, XQ.moved (s := U) (U := U.calling g mk a) (Vm.Alike.refl U.vm) rfl rfl h7⟩
theorem GL_ST {A : Nat → Prop} {U : State} {H : Heap} {j r zz : Nat} (hj : j < 6) (h : ST G A U H) (hv : vk_S 1 [1] [[(bytS.getD 25 []).getD j 0]] (fun _ => r) (fun _ => zz) A U H) : ST (GL G (40 + j) r zz) A U H := by
  obtain ⟨h1, h2, h3⟩ := h
  refine ⟨fun i hi => ?_, fun q hq => ?_, h3⟩
  · show vk_S 1 [lenS.getD i 0] [bytS.getD i []] (fun _ => if i = 40 + j then r else G.2.2.2.1 i) (fun _ => if i = 40 + j then zz else G.2.2.2.2.1 i) A U H
    by_cases c : i < 40
    · rw [if_neg (by omega), if_neg (by omega)]
      exact h1 i (oi_c ⟨hi.1.1, c⟩)
    · obtain rfl : 40 + j = i := hi.2 (by omega)
      rw [if_pos rfl, if_pos rfl, (tx_let j hj).1, (tx_let j hj).2]
      exact hv
  · show vk_R q.1 q.2.1 (txS.getD q.2.2 "") (if q.2.2 = 40 + j then r else G.2.2.2.1 q.2.2) U
    rw [if_neg (by have := rf_lt q hq; omega)]
    exact h2 q hq
theorem GL_oi {j r zz : Nat} (hj : j < 6) : oi (GL G (40 + j) r zz) (40 + j) := ⟨⟨by omega, by omega⟩, fun _ => rfl⟩
theorem A_subput {j i1 i2 bA L : Nat} {X : Nat → Int32} {len : Int} (hj : j < 6) (hX : Scr f bA L X (G.2.2.2.1 25) (G.2.2.2.2.1 25)) (hk : (lkG G)[86]? = some (.inr (1, 1400, 0))) (ml1 : MLV own i1 yJ0_substring_37a41 cJ0_substring_37a41 5 (some (.object "java/lang/String")) 2) (ml2 : MLS own i2 yL_put cL_put 3 none 2) (hl : 0 ≤ len ∧ len + 1 ≤ 1399) (hσ : σ 86 0 = len) (hroom : (rest.map fun v => v.category).sum ≤ 7) (hd : 7 ≤ dd) (hm : k + 2 ≤ rc ∧ n + 10 ≤ rs) (dec1 : decode cc pc = .ok (.invokevirtual i1, 3)) (dec2 : decode cc (pc + 3) = .ok (.invokestatic i2, 3))
    (g : AW l G f (own, cc, nL, rt) (dd, rc, rs) Q xs (k + 2) (n + 10) (pc + 3 + 3) lv rest (ptE (40 + j) len 1 0 σ)) : AW l G f (own, cc, nL, rt) (dd, rc, rs) Q xs k n pc lv (.int (I32 ((j : Int) + 1)) :: .int (I32 (j : Int)) :: .ref (G.2.2.2.1 25) :: .ref (lay G 86) :: rest) σ := by
  intro ok H locs ls hl' hP hD hS T hT X0
  obtain ⟨m1, m2, m3, m4, m5, m6, m7⟩ := ml1
  have o := ok.2.2.2.2.2.2.2.2.2.2
  have hr8 : ((Value.ref (lay G 86) :: rest).map fun v => v.category).sum ≤ 8 := by
    rw [List.map_cons, List.sum_cons]
    show 1 + _ ≤ 8
    omega
  have run1 := va_runV (l := l) (e := fe f) (below := fb f) (meth := fme f) (Ts := lw_all) (own := own) (C := "java/lang/String") (As := [.int (I32 (j : Int)), .int (I32 ((j : Int) + 1))]) (rest := .ref (lay G 86) :: rest) (nL := nL) (g := F0 (fm f) pc ls (.int (I32 ((j : Int) + 1)) :: .int (I32 (j : Int)) :: .ref (G.2.2.2.1 25) :: .ref (lay G 86) :: rest)) (locs := locs) (cells := k) (slots := n) ⟨ok.1, ok.2.1, ok.2.2.1, ok.2.2.2.1, ok.2.2.2.2.1⟩ (sub_met l G σ H.size hj (fun _ => False)) (cwV 2 ok.2.2.2.2.1 (good_wsV m1 m2 m3 m4 (good_cons m5)) rfl rfl rfl ⟨rfl, m6⟩ ⟨Nat.le_trans hd o.1, by have := o.2.1; show 8 + (5 + 11) + 40 * 6 ≤ _; omega⟩)
    ⟨sub_blind, vk_recv (i := 0) ((okS ok).1 25 (oi_c ⟨by decide, by decide⟩)) (by decide) hS, fun U hU hW => ⟨rfl, Ct_pre ok hP hD hS hU hW, XQ.at hX.2.2.2.1 hX.2.2.2.2.1 hX.2.2.2.2.2.1 hS hU hW⟩⟩ rfl rfl hl'.1 rfl (lv_room hr8) dec1 ⟨Nat.le_trans hm.1 o.2.2.1, Nat.le_trans hm.2 o.2.2.2⟩
  obtain ⟨v, st₀, t, T2, L2, h0, X2, hL, e1, e2, ⟨r, zz, hv, hr, hz, hkept, hvk⟩, st⟩ := run1 T hT X0
  obtain rfl : v = some (.ref r) := by cases hv; rfl
  rw [h0] at hr hz hkept
  have hrlt : r < T2.heap.size := by
    obtain ⟨⟨c1, a1, -⟩, -⟩ := hvk.1 0 (by decide)
    rw [e1]; exact (Array.getElem?_eq_some_iff.mp a1).1
  have hzlt : zz < T2.heap.size := by
    obtain ⟨-, -, -, ⟨c1, a1, -⟩⟩ := hvk.1 0 (by decide)
    rw [e1]; exact (Array.getElem?_eq_some_iff.mp a1).1
  have hk2 : ∀ q : Nat, q < H.size → T2.heap[q]? = H[q]? := fun q hq => by
    have hs : H[q]? = some H[q] := Array.getElem?_eq_getElem hq
    rw [e1, hs]; exact hkept q _ hs
  have hP2 : va_P G.1 vwCl (wld G σ ++ xs) T2.heap := hP.kept (fun i x hx => hk2 x.1 ((hP i x hx).lt))
  have hS2 : va_S (fA f) (fs f).heap T2.heap (locs ++ L2) := ⟨by have := hS.1; omega, fun q h1 h2 => by rw [hk2 q (Nat.lt_of_lt_of_le h1 hS.1)]; exact hS.2.1 q h1 h2, fun q hq => by
    rcases List.mem_append.mp hq with h | h
    · exact hS.2.2 q h
    · exact absurd (hL q h) id⟩
  have hnew : ∀ q, H.size ≤ q → q < T2.heap.size → ¬ va_A (wld G σ) T2.heap.size q := by
    rintro q q1 q2 (⟨i, e, hi⟩ | h)
    · have := (wld_drop hP i _ hi).lt
      exact absurd this (Nat.not_lt.mpr q1)
    · omega
  have hwarm := X2.warmed
  obtain ⟨p1, p2, p4, p5, p6, p7⟩ := ml2
  have hct := c_L_put (l := l) (G := GL G (40 + j) r zz) σ (i := 40 + j) (GL_oi hj) hk (len := len) ⟨hl.1, by rw [show kl (40 + j) = 1 from by unfold kl; rw [(tx_let j hj).1]; rfl]; exact hl.2⟩ hσ
  rw [show (GL G (40 + j) r zz).2.2.2.1 (40 + j) = r from if_pos rfl, show (kl (40 + j)).toNat = 1 from by unfold kl; rw [(tx_let j hj).1]; rfl] at hct
  have run2 := va_runS (l := l) (e := fe f) (below := fb f) (meth := fme f) (Ts := lw_all) (own := own) (As := [.ref (lay G 86), .ref r]) (rest := rest) (nL := nL) (g := F0 (fm f) (pc + 3) ls (.ref r :: .ref (lay G 86) :: rest)) (locs := locs ++ L2) (cells := k + 2) (slots := n + 10) (H := T2.heap) ⟨ok.1, ok.2.1, ok.2.2.1, ok.2.2.2.1, ok.2.2.2.2.1⟩ (hct T2.heap.size) (cwS 2 ok.2.2.2.2.1 (good_wsS p1 p2 p4 (good_cons p5)) rfl rfl rfl p6 ⟨Nat.le_trans (Nat.le_trans (by decide) hd) o.1, by have := o.2.1; show 8 + (3 + 11) + 40 * 4 ≤ _; omega⟩)
    ⟨Ct_blind, fun U hU hW => by
      obtain ⟨c1, c2, c3, c4, c5⟩ := Ct_pre ok hP2 hD hS2 hU hW
      refine ⟨rfl, c1, c2, c3, c4, GL_ST hj c5 ?_⟩
      have hm2 : T2.vm.Alike U.vm := hwarm.alike.symm.trans hW.alike
      have hv2 : vk_S 1 [1] [[(bytS.getD 25 []).getD j 0]] (fun _ => r) (fun _ => zz) (fun _ => False) U U.heap := by
        rw [hU, e1]
        exact hvk.moved (by rw [← e2]; exact hm2)
      exact vk_Sw rfl hv2 (hnew r hr hrlt) (hnew zz hz hzlt)⟩ rfl rfl hl'.1 rfl (lv_room (Nat.le_trans hroom (by decide))) dec2 ⟨Nat.le_trans hm.1 o.2.2.1, Nat.le_trans hm.2 o.2.2.2⟩
  obtain ⟨v3, st3, t3, T3, L3, h03, X3, hL3, e31, e32, ⟨⟨hv3, hP3⟩, hz3, hk3⟩, st3s⟩ := run2 T2 rfl X2
  obtain rfl : v3 = none := by cases hv3; rfl
  rw [h03] at hz3 hk3
  rw [← e31] at hP3 hk3 hz3
  have hA : ∀ q, va_A (wld G σ) T2.heap.size q → fA f q := by
    rintro q (⟨i, e, hi⟩ | hs)
    · exact (wld_D0 hD).2 i _ hi
    · exact ok.2.2.2.2.2.2.1 q (Nat.le_trans hS2.1 hs)
  have hS3 : va_S (fA f) (fs f).heap T3.heap (locs ++ L2 ++ L3) := ⟨Nat.le_trans hS2.1 hz3, fun q h1 h2 => by rw [hk3 q (Nat.lt_of_lt_of_le h1 hS2.1) (fun z => h2 (hA q z))]; exact hS2.2.1 q h1 h2, fun q hq => by
    rcases List.mem_append.mp hq with h | h
    · exact hS2.2.2 q h
    · exact hA _ (hL3 q h)⟩
  obtain ⟨t4, a1, b1⟩ := g ok T3.heap (locs ++ L2 ++ L3) ls hl' (wld_P1 hP2 hD hP3 hk3) (wldx_D hD) hS3 T3 rfl X3
  exact ⟨t4, st t4 (st3s t4 a1), b1⟩
end S79f
