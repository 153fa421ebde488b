/-! the loop of the law: printed by program (wip/whole/gen/law.py) -/
section S85
variable {l : Launch} {G : Gx}
set_option maxRecDepth 100000 in
set_option maxHeartbeats 4000000 in
theorem law_loop {f : Fm} {Q : State → Prop} {bA L : Nat} {X : Nat → Int32} (hlt : l.stackTraces = false) (hS : Scr f bA L X) (hL : L ≤ 3072) (E : ∀ (i : Int) (y : Sg) (k n : Nat), k ≤ 601024 → n ≤ 7293034 → LW l G f Q k n 1398 (lvL G bA i) [] y) : ∀ (m : Nat) (i : Int) (k n : Nat) (σ : Sg), 0 ≤ i → (L : Int) - 6 < i + 6 * m → i ≤ 4000 → k + 20 * m ≤ 601024 → n + 100 * m ≤ 7293034 → Rel σ σ → LW l G f Q k n 23 (lvL G bA i) [] σ := by
  intro m
  induction m with | zero => ?_ | succ m ih => ?_
  · intro i k n σ i0 him i4 hk hn hR
    refine A_iload dL_law_23 0 rfl ?_
    refine A_aload_n dL_law_25 rfl 1 rfl ?_
    refine A_slen hS dL_law_26 ?_
    refine A_bipush dL_law_27 (by decide +kernel) ?_
    refine A_isub dL_law_29 ?_
    exact J_icmp_gt (tgt := 1398) dL_law_30 (by decide) (i32_eq ⟨by omega, by omega⟩) (i32_eq ⟨by omega, by omega⟩) (fun _ => E i σ k n (by omega) (by omega)) (fun z => by exfalso; omega)
  · intro i k n σ i0 him i4 hk hn hR
    refine A_iload dL_law_23 0 rfl ?_
    refine A_aload_n dL_law_25 rfl 1 rfl ?_
    refine A_slen hS dL_law_26 ?_
    refine A_bipush dL_law_27 (by decide +kernel) ?_
    refine A_isub dL_law_29 ?_
    refine J_icmp_gt (tgt := 1398) dL_law_30 (by decide) (i32_eq ⟨by omega, by omega⟩) (i32_eq ⟨by omega, by omega⟩) (fun _ => E i σ k n (by omega) (by omega)) (fun z => ?_)
    have i1 : i + 6 ≤ L := by omega
    have hL2 : L ≤ 2147483647 := by omega
    have K : ∀ (y : Sg) (k2 n2 : Nat), Rel y y → k2 ≤ k + 20 → n2 ≤ n + 100 → LW l G f Q k2 n2 1392 (lvL G bA i) [] y := by
      intro y k2 n2 hy h1 h2
      refine A_iinc dL_law_1392 0 rfl (by decide) rfl ?_
      refine A_goto dL_law_1395 (tgt := 23) (by decide) ?_
      exact ih (i + 6) k2 n2 y (by omega) (by omega) (by omega) (by omega) (by omega) hy
    refine A_aload_n dL_law_33 rfl 1 rfl ?_
    refine A_iload dL_law_34 0 rfl ?_
    refine A_sld (j := i) hS i0 (by omega) hL2 dL_law_36 ?_
    refine A_bipush dL_law_37 (by decide +kernel) ?_
    refine A_iand dL_law_39 ?_
    have ev : i32 (iand (X i.toNat).toInt 31) = iand (X i.toNat).toInt 31 := i32_eq (I32_inr _)
    generalize iand (X i.toNat).toInt 31 = v at ev ⊢
    by_cases h0 : v = 0
    · refine J_tsIn (tgt := 152) dL_law_40 (ev.trans h0) ⟨by decide, by decide⟩ (by decide) (by decide) rfl (by decide) ?_
      exact law_0 hlt hS hL2 i0 i1 (by omega) (by omega) hR K
    by_cases h1 : v = 1
    · refine J_tsIn (tgt := 256) dL_law_40 (ev.trans h1) ⟨by decide, by decide⟩ (by decide) (by decide) rfl (by decide) ?_
      exact law_1 hlt hS hL2 i0 i1 (by omega) (by omega) hR K
    by_cases h2 : v = 2
    · refine J_tsIn (tgt := 312) dL_law_40 (ev.trans h2) ⟨by decide, by decide⟩ (by decide) (by decide) rfl (by decide) ?_
      exact law_2 hlt hS hL2 i0 i1 (by omega) (by omega) hR K
    by_cases h3 : v = 3
    · refine J_tsIn (tgt := 325) dL_law_40 (ev.trans h3) ⟨by decide, by decide⟩ (by decide) (by decide) rfl (by decide) ?_
      exact law_3 hlt hS hL2 i0 i1 (by omega) (by omega) hR K
    by_cases h4 : v = 4
    · refine J_tsIn (tgt := 338) dL_law_40 (ev.trans h4) ⟨by decide, by decide⟩ (by decide) (by decide) rfl (by decide) ?_
      exact law_4 hlt hS hL2 i0 i1 (by omega) (by omega) hR K
    by_cases h5 : v = 5
    · refine J_tsIn (tgt := 394) dL_law_40 (ev.trans h5) ⟨by decide, by decide⟩ (by decide) (by decide) rfl (by decide) ?_
      exact law_5 hlt hS hL2 i0 i1 (by omega) (by omega) hR K
    by_cases h6 : v = 6
    · refine J_tsIn (tgt := 407) dL_law_40 (ev.trans h6) ⟨by decide, by decide⟩ (by decide) (by decide) rfl (by decide) ?_
      exact law_6 hlt hS hL2 i0 i1 (by omega) (by omega) hR K
    by_cases h7 : v = 7
    · refine J_tsIn (tgt := 420) dL_law_40 (ev.trans h7) ⟨by decide, by decide⟩ (by decide) (by decide) rfl (by decide) ?_
      exact law_7 hlt hS hL2 i0 i1 (by omega) (by omega) hR K
    by_cases h8 : v = 8
    · refine J_tsIn (tgt := 488) dL_law_40 (ev.trans h8) ⟨by decide, by decide⟩ (by decide) (by decide) rfl (by decide) ?_
      exact law_8 hlt hS hL2 i0 i1 (by omega) (by omega) hR K
    by_cases h9 : v = 9
    · refine J_tsIn (tgt := 556) dL_law_40 (ev.trans h9) ⟨by decide, by decide⟩ (by decide) (by decide) rfl (by decide) ?_
      exact law_9 hlt hS hL2 i0 i1 (by omega) (by omega) hR K
    by_cases h10 : v = 10
    · refine J_tsIn (tgt := 624) dL_law_40 (ev.trans h10) ⟨by decide, by decide⟩ (by decide) (by decide) rfl (by decide) ?_
      by_cases hp : i32 (X (i + 2).toNat).toInt = 0
      · exact law_10f hlt hS hL2 i0 i1 (by omega) (by omega) hR K hp
      · exact law_10t hlt hS hL2 i0 i1 (by omega) (by omega) hR K hp
    by_cases h11 : v = 11
    · refine J_tsIn (tgt := 708) dL_law_40 (ev.trans h11) ⟨by decide, by decide⟩ (by decide) (by decide) rfl (by decide) ?_
      exact law_11 hlt hS hL2 i0 i1 (by omega) (by omega) hR K
    by_cases h12 : v = 12
    · refine J_tsIn (tgt := 776) dL_law_40 (ev.trans h12) ⟨by decide, by decide⟩ (by decide) (by decide) rfl (by decide) ?_
      exact law_12 hlt hS hL2 i0 i1 (by omega) (by omega) hR K
    by_cases h13 : v = 13
    · refine J_tsIn (tgt := 832) dL_law_40 (ev.trans h13) ⟨by decide, by decide⟩ (by decide) (by decide) rfl (by decide) ?_
      exact law_13 hlt hS hL2 i0 i1 (by omega) (by omega) hR K
    by_cases h14 : v = 14
    · refine J_tsIn (tgt := 900) dL_law_40 (ev.trans h14) ⟨by decide, by decide⟩ (by decide) (by decide) rfl (by decide) ?_
      exact law_14 hlt hS hL2 i0 i1 (by omega) (by omega) hR K
    by_cases h15 : v = 15
    · refine J_tsIn (tgt := 980) dL_law_40 (ev.trans h15) ⟨by decide, by decide⟩ (by decide) (by decide) rfl (by decide) ?_
      exact law_15 hlt hS hL2 i0 i1 (by omega) (by omega) hR K
    by_cases h16 : v = 16
    · refine J_tsIn (tgt := 993) dL_law_40 (ev.trans h16) ⟨by decide, by decide⟩ (by decide) (by decide) rfl (by decide) ?_
      exact law_16 hlt hS hL2 i0 i1 (by omega) (by omega) hR K
    by_cases h17 : v = 17
    · refine J_tsIn (tgt := 1049) dL_law_40 (ev.trans h17) ⟨by decide, by decide⟩ (by decide) (by decide) rfl (by decide) ?_
      exact law_17 hlt hS hL2 i0 i1 (by omega) (by omega) hR K
    by_cases h18 : v = 18
    · refine J_tsIn (tgt := 1062) dL_law_40 (ev.trans h18) ⟨by decide, by decide⟩ (by decide) (by decide) rfl (by decide) ?_
      exact law_18 hlt hS hL2 i0 i1 (by omega) (by omega) hR K
    by_cases h19 : v = 19
    · refine J_tsIn (tgt := 1130) dL_law_40 (ev.trans h19) ⟨by decide, by decide⟩ (by decide) (by decide) rfl (by decide) ?_
      by_cases hp : i32 (X (i + 2).toNat).toInt = 0
      · exact law_19f hlt hS hL2 i0 i1 (by omega) (by omega) hR K hp
      · exact law_19t hlt hS hL2 i0 i1 (by omega) (by omega) hR K hp
    by_cases h20 : v = 20
    · refine J_tsIn (tgt := 1214) dL_law_40 (ev.trans h20) ⟨by decide, by decide⟩ (by decide) (by decide) rfl (by decide) ?_
      exact law_20 hlt hS hL2 i0 i1 (by omega) (by omega) hR K
    by_cases h21 : v = 21
    · refine J_tsIn (tgt := 1270) dL_law_40 (ev.trans h21) ⟨by decide, by decide⟩ (by decide) (by decide) rfl (by decide) ?_
      exact law_21 hlt hS hL2 i0 i1 (by omega) (by omega) hR K
    by_cases h22 : v = 22
    · refine J_tsIn (tgt := 1337) dL_law_40 (ev.trans h22) ⟨by decide, by decide⟩ (by decide) (by decide) rfl (by decide) ?_
      exact law_22 hlt hS hL2 i0 i1 (by omega) (by omega) hR K
    by_cases h23 : v = 23
    · refine J_tsIn (tgt := 1378) dL_law_40 (ev.trans h23) ⟨by decide, by decide⟩ (by decide) (by decide) rfl (by decide) ?_
      exact law_23 hlt hS hL2 i0 i1 (by omega) (by omega) hR K
    refine J_tsOut (tgt := 1392) dL_law_40 (by rw [ev]; omega) (by decide) ?_
    exact K σ k n hR (by omega) (by omega)
end S85
