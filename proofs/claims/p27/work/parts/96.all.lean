/-! the law from its object to its end -/
section S96b
variable {l : Launch} {G : Gx} {f : Fm} {Q : State → Prop} {bA L : Nat} {X : Nat → Int32}
set_option maxRecDepth 100000 in
set_option maxHeartbeats 4000000 in
theorem w_law8 (hlt : l.stackTraces = false) (hX : Scr f bA L X (G.2.2.2.1 25) (G.2.2.2.2.1 25)) (hL : L ≤ 2147483647) (hE : G.2.2.2.2.2.1 = []) (K : ∀ (G : Gx) (kk nn : Nat) (lv : List (Nat × Value)) (σ : Sg), kk ≤ 600086 → nn ≤ 7301442 → AW l G f (RL, cL_law, 16, some .boolean) (60, 600086, 7301442) Q [] kk nn 428 lv [] σ) : AW l G f (RL, cL_law, 16, some .boolean) (60, 600086, 7301442) Q [] 84 6921 8 [(1, .ref (lay G 0)), (0, .ref bA)] [] s0 := by
  have hG : GOk G := fun kd h => by rw [hE] at h; cases h
  have hlen : (lkG G).length = 84 := by rw [lkG_len, hE]; rfl
  have b0 := blV_bd (clV L X 0) (n := 5) (by decide)
  obtain ⟨D, hDe⟩ : ∃ D : Nat, 2 + blV (clV L X 0) 5 = (D : Int) := ⟨(2 + blV (clV L X 0) 5).toNat, by omega⟩
  have hD : 2 ≤ D ∧ D ≤ 6 := by omega
  refine A_iconst dL_law_8 ?_
  refine A_aload_n dL_law_9 rfl 1 rfl ?_
  refine A_iconst dL_law_10 ?_
  refine A_cell hX hL ⟨by omega, by omega⟩ (Nat.le_of_ble_eq_true rfl) (by omega) ⟨Nat.le_of_ble_eq_true rfl, Nat.le_of_ble_eq_true rfl⟩ dL_law_11 ?_
  refine A_iconst dL_law_14 ?_
  refine A_below (by omega) (Nat.le_of_ble_eq_true rfl) (by omega) ⟨Nat.le_of_ble_eq_true rfl, Nat.le_of_ble_eq_true rfl⟩ dL_law_15 ?_
  refine A_iadd dL_law_18 ?_
  rw [hDe]
  refine A_istore_n (lv2 := [(2, _), (1, _), (0, _)]) dL_law_19 rfl (by decide) rfl ?_
  refine A_bipush dL_law_20 (by decide +kernel) ?_
  refine A_newG (N := 6) hG (by decide) (by decide) (by decide) ⟨Nat.le_of_ble_eq_true rfl, Nat.le_of_ble_eq_true rfl⟩ dL_law_22 (fun a1 => ?_)
  have e0 : lay G 0 = lay (Gn G a1 6) 0 := (lay_n (by omega)).symm
  have e84 : a1 = lay (Gn G a1 6) 84 := by rw [← hlen, lay_e]
  have k84 : (lkG (Gn G a1 6))[84]? = some (.inr (1, 6, 0)) := by
    have := lk_e (G := G) (a := a1) (N := 6)
    rw [hlen] at this
    exact this
  have hG1 := Gn_ok (a := a1) (N := 6) hG
  have hlen1 : (lkG (Gn G a1 6)).length = 85 := by rw [lkG_n, List.length_append, hlen]; rfl
  rw [hlen, e0]
  have hX1 : Scr f bA L X ((Gn G a1 6).2.2.2.1 25) ((Gn G a1 6).2.2.2.2.1 25) := hX
  generalize hg1 : Gn G a1 6 = G1 at e84 k84 hG1 hlen1 hX1 ⊢
  clear hg1
  refine A_astore_n (lv2 := [(3, _), (2, _), (1, _), (0, _)]) dL_law_24 rfl (by decide) rfl ?_
  refine A_bipush dL_law_25 (by decide +kernel) ?_
  refine A_newG (N := 24) hG1 (by decide) (by decide) (by decide) ⟨Nat.le_of_ble_eq_true rfl, Nat.le_of_ble_eq_true rfl⟩ dL_law_27 (fun a2 => ?_)
  have f0 : lay G1 0 = lay (Gn G1 a2 24) 0 := (lay_n (by omega)).symm
  have f84 : a1 = lay (Gn G1 a2 24) 84 := by rw [lay_n (by omega)]; exact e84
  have f85 : a2 = lay (Gn G1 a2 24) 85 := by rw [← hlen1, lay_e]
  have j84 : (lkG (Gn G1 a2 24))[84]? = some (.inr (1, 6, 0)) := lk_n k84
  have j85 : (lkG (Gn G1 a2 24))[85]? = some (.inr (1, 24, 0)) := by
    have := lk_e (G := G1) (a := a2) (N := 24)
    rw [hlen1] at this
    exact this
  have hG2 := Gn_ok (a := a2) (N := 24) hG1
  have hlen2 : (lkG (Gn G1 a2 24)).length = 86 := by rw [lkG_n, List.length_append, hlen1]; rfl
  rw [hlen1, f0]
  have hX2 : Scr f bA L X ((Gn G1 a2 24).2.2.2.1 25) ((Gn G1 a2 24).2.2.2.2.1 25) := hX1
  generalize hg2 : Gn G1 a2 24 = G2 at f84 f85 j84 j85 hG2 hlen2 hX2 ⊢
  clear hg2
  rw [show Value.ref a1 = .ref (lay G2 84) from congrArg Value.ref f84, show Value.ref a2 = .ref (lay G2 85) from congrArg Value.ref f85]
  refine A_astore (lv2 := [(4, _), (3, _), (2, _), (1, _), (0, _)]) dL_law_29 (by decide) rfl ?_
  refine A_aload_n dL_law_31 rfl 3 rfl ?_
  refine A_aload_n dL_law_32 rfl 4 rfl ?_
  refine A_iload_n dL_law_33 rfl 2 rfl ?_
  refine A_aload_n dL_law_34 rfl 1 rfl ?_
  refine A_aload dL_law_35 0 rfl ?_
  have hR : Rel (up0 (up0 s0 84) 85) s0 := Rel_s0.cg1 (fun q hq => by rw [up0_k (by omega), up0_k (by omega)])
  obtain ⟨m1, m2, m3⟩ := mnV_e L X
  refine A_callE (As := [.ref (lay G2 0), .ref bA, .int (I32 (D : Int)), .ref (lay G2 84), .ref (lay G2 85)]) hX2 ms_L_93 (c_L_menu hlt hL hD hG2 hlen2 j84 j85 hR rfl) rfl (Nat.le_of_ble_eq_true rfl) (by omega) ⟨Nat.le_of_ble_eq_true rfl, Nat.le_of_ble_eq_true rfl⟩ dL_law_37 (fun σ1 hM => ?_)
  refine A_istore (lv2 := [(5, _), (4, _), (3, _), (2, _), (1, _), (0, _)]) dL_law_40 (by decide) rfl ?_
  refine A_iload dL_law_42 0 rfl ?_
  refine J_if_ge (tgt := 49) dL_law_44 (by decide) (i32_eq ⟨by omega, by omega⟩) (fun _ => ?_) (fun h => by omega)
  refine A_iconst dL_law_49 ?_
  refine A_istore (lv2 := [(6, _), (5, _), (4, _), (3, _), (2, _), (1, _), (0, _)]) dL_law_50 (by decide) rfl ?_
  refine A_lv [0, 5, 6, 4, 3, 2, 1] rfl ?_
  obtain ⟨y, hy, hj⟩ := st_0 hM
  exact w_lawT hlt hX2 hL j85 hD m2 (fun i => ⟨(blV_bd _ (by decide)).1, (blV_bd _ (by decide)).2⟩) (fun kk nn lv σ => K G2 kk nn lv σ) 4 0 σ1 y _ _ rfl hy hj hM.2.2.2.2.2.2.2 (Nat.le_of_ble_eq_true rfl) (Nat.le_of_ble_eq_true rfl)
end S96b
