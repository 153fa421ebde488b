/-! the law from its entry to its object -/
section S92
variable {l : Launch} {G : Gx}
theorem nw_L_26 : NW RL 26 10 10 [.null, .null, .null, .null, .null, .null, .null, .null, .int (I32 0), .int (I32 0)] := ⟨RX10, TX10, tyX10, rfl, cw_X10, tyX10_ok, in_all (i := 78) (by decide +kernel) rfl, in_all (i := 79) (by decide +kernel) rfl, in_all (i := 53) (by decide +kernel) rfl, fun j hj => match j, hj with | 0, _ => rfl | 1, _ => rfl | 2, _ => rfl | 3, _ => rfl | 4, _ => rfl | 5, _ => rfl | 6, _ => rfl | 7, _ => rfl | 8, _ => rfl | 9, _ => rfl | j + 10, h => absurd h (by omega)⟩
theorem mi_L_92 : MLI RL 92 yX10_init cX10_init 1 0 := ⟨in_all (i := 80) (by decide +kernel) rfl, in_all (i := 81) (by decide +kernel) rfl, in_all (i := 53) (by decide +kernel) rfl, in_all (i := 82) (by decide +kernel) rfl, ⟨by decide +kernel, by decide +kernel, by decide +kernel⟩, by decide, rfl⟩
set_option maxRecDepth 100000 in
set_option maxHeartbeats 8000000 in
theorem law_begin {f : Fm} {Q : State → Prop} {bA : Nat} (hAO : AO (fs f)) (E : ∀ (q1 : Nat) (r2 : Nat → Nat), AW l (GX1 G q1 r2) f (RL, cL_law, 16, some .boolean) (60, 600086, 7301442) Q [] 84 6921 8 [(1, .ref (lay (GX1 G q1 r2) 0)), (0, .ref bA)] [] s0) : BW l G f (RL, cL_law, 16, some .boolean) (60, 600086, 7301442) Q [] 0 0 0 [(0, .ref bA)] [] (fun _ _ => 0) := by
  refine B_new nw_L_26 ⟨Nat.le_of_ble_eq_true rfl, Nat.le_of_ble_eq_true rfl⟩ dL_law_0 (fun q1 => ?_)
  refine B_w (xs2 := [eO q1 10 [.null, .null, .null, .null, .null, .null, .null, .null, .int (I32 0), .int (I32 0)]]) rfl ?_
  refine B_dup dL_law_3 rfl ?_
  refine B_I0 [0] [] hAO mi_L_92 (bc_X10_init q1) rfl (wr := []) rfl rfl rfl (by decide) (Nat.le_of_ble_eq_true rfl) (by decide) ⟨Nat.le_of_ble_eq_true rfl, Nat.le_of_ble_eq_true rfl⟩ rfl rfl dL_law_4 (fun r2 => ?_)
  refine B_w (xs2 := WL G q1 r2) rfl ?_
  refine B_astore_n dL_law_7 rfl (by decide) rfl ?_
  refine BW_AW (G2 := GX1 G q1 r2) (σ := s0) (fun k => posL.getD k 0) (fun i j hi hj e => pos_inj i hi j hj e) (fun ok => ok) rfl rfl (wq_all G q1 r2) ?_
  exact E q1 r2
end S92
