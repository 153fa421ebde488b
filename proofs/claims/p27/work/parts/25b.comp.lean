/-! MenuScript: compile and test -/
section S25b
variable {l : Launch} {G : Gx}
theorem cm_len (σ : Sg) : up (bgC (clrC σ) 0) 0 9 0 1 1 = σ 1 1 := by rw [up_r _ _ _ (by omega), bgC_r _ _ (by omega), clrC_r _ (by omega)]
theorem cm_10 (σ : Sg) : cmB σ 10 2 = 0 := by
  unfold cmB eipS cmA
  rw [up_r _ _ _ (by omega), stF_r _ _ (by omega), shortC_r _ _ (by omega), readC_r _ (by omega), up_r _ _ _ (by omega), bgC_r _ _ (by omega)]
  rfl
theorem cmB_08 (σ : Sg) : cmB σ 0 8 = eipV (cmA σ) := up_s _ _ _ _
theorem teB_08 (σ : Sg) : teB σ 0 8 = eicV (teA σ) := up_s _ _ _ _
theorem em1 : i32 (-1) = -1 := i32_eq ⟨by decide, by decide⟩
theorem e22 : i32 22 = 22 := i32_eq ⟨by decide, by decide⟩
theorem cm_a {σ : Sg} (h : i32 (eipV (cmA σ)) ≠ i32 (-1)) : cmV σ = 1 ∧ cmS σ = cmB σ := by
  have h2 : ¬ i32 (eipV (cmA σ)) = -1 := fun z => h (z.trans em1.symm)
  exact ⟨by unfold cmV; rw [if_neg h2], by unfold cmS; rw [if_neg h2]⟩
theorem cm_b {σ : Sg} (h : i32 (eipV (cmA σ)) = i32 (-1)) (h3 : i32 (rpM (cmB σ) 51 7) = 0) : cmV σ = 0 ∧ cmS σ = fdM (cmD σ) := by
  have h2 : i32 (eipV (cmA σ)) = -1 := h.trans em1
  exact ⟨by unfold cmV; rw [if_pos h2, if_pos h3], by unfold cmS; rw [if_pos h2, if_pos h3]⟩
theorem cm_c {σ : Sg} (h : i32 (eipV (cmA σ)) = i32 (-1)) (h3 : i32 (rpM (cmB σ) 51 7) ≠ 0) : cmV σ = rpM (cmB σ) 51 7 ∧ cmS σ = clrC (cmD σ) := by
  have h2 : i32 (eipV (cmA σ)) = -1 := h.trans em1
  exact ⟨by unfold cmV; rw [if_pos h2, if_neg h3], by unfold cmS; rw [if_pos h2, if_neg h3]⟩
theorem te_a {σ : Sg} (h : i32 (eicV (teA σ)) ≠ i32 (-1)) : teV σ = 1 ∧ teS σ = teB σ := by
  have h2 : ¬ i32 (eicV (teA σ)) = -1 := fun z => h (z.trans em1.symm)
  exact ⟨by unfold teV; rw [if_neg h2], by unfold teS; rw [if_neg h2]⟩
theorem te_b {σ : Sg} (h : i32 (eicV (teA σ)) = i32 (-1)) (h3 : KC (teB σ) (eouC (teB σ) 0) = i32 22) : teV σ = 2 ∧ teS σ = up (teB σ) 0 8 (SC (teB σ) (eouC (teB σ) 0)) := by
  have h2 : i32 (eicV (teA σ)) = -1 := h.trans em1
  have h4 := h3.trans e22
  exact ⟨by unfold teV; rw [if_pos h2, if_pos h4], by unfold teS; rw [if_pos h2, if_pos h4]⟩
theorem te_c {σ : Sg} (h : i32 (eicV (teA σ)) = i32 (-1)) (h3 : KC (teB σ) (eouC (teB σ) 0) ≠ i32 22) : teV σ = 0 ∧ teS σ = up (suS (teB σ) 0 (teB σ 12 2)) 0 9 (suV (teB σ) 0 (teB σ 12 2)) := by
  have h2 : i32 (eicV (teA σ)) = -1 := h.trans em1
  have h4 : ¬ KC (teB σ) (eouC (teB σ) 0) = 22 := fun z => h3 (z.trans e22.symm)
  exact ⟨by unfold teV; rw [if_pos h2, if_neg h4], by unfold teS; rw [if_pos h2, if_neg h4]⟩
set_option maxRecDepth 100000 in
set_option maxHeartbeats 4000000 in
theorem c_X10_compile (σ : Sg) (hl : i32 (σ 1 1) ≤ 1500) : Ct l G yX10_compile cX10_compile 2 (some .int) 24 0 0 [.ref (lay G 0)] σ (some (.int (I32 (cmV σ)))) (cmS σ) := by
  refine Ct.of (by decide +kernel) (Nat.le_of_ble_eq_true rfl) (fun f => ?_)
  show AW _ _ _ _ _ _ _ _ _ _ [(0, _)] _ _
  refine A_aload_n dX10_compile_0 rfl 0 rfl ?_
  refine A_getr fl_X10_35 lk_0 rfl dX10_compile_1 ?_
  refine A_Vv0 mv_X10_104 lk_9 rfl rfl (c_X6_clear _) (Nat.le_of_ble_eq_true rfl) (by decide) (by decide) dX10_compile_4 ?_
  refine A_aload_n dX10_compile_7 rfl 0 rfl ?_
  refine A_getr fl_X10_62 lk_0 rfl dX10_compile_8 ?_
  refine A_iconst dX10_compile_11 ?_
  refine A_Vv1 mv_X10_107 lk_55 rfl rfl (c_X3_begin _ _) (Nat.le_of_ble_eq_true rfl) (by decide) (by decide) dX10_compile_12 ?_
  refine A_aload_n dX10_compile_15 rfl 0 rfl ?_
  refine A_iconst dX10_compile_16 ?_
  refine A_puti fl_X10_79 lk_0 rfl dX10_compile_17 ?_
  refine A_aload_n dX10_compile_20 rfl 0 rfl ?_
  refine A_getr fl_X10_19 lk_0 rfl dX10_compile_21 ?_
  refine A_aload_n dX10_compile_24 rfl 0 rfl ?_
  refine A_getr fl_X10_12 lk_0 rfl dX10_compile_25 ?_
  refine A_Vv1 mv_X10_110 lk_3 rfl rfl (c_X9_read _ (by rw [cm_len]; exact hl)) (Nat.le_of_ble_eq_true rfl) (by decide) (by decide) dX10_compile_28 ?_
  refine A_aload_n dX10_compile_31 rfl 0 rfl ?_
  refine A_getr fl_X10_12 lk_0 rfl dX10_compile_32 ?_
  refine A_iconst dX10_compile_35 ?_
  refine A_Vv1 mv_X10_101 lk_1 rfl rfl (c_X8_shorten _ _) (Nat.le_of_ble_eq_true rfl) (by decide) (by decide) dX10_compile_36 ?_
  show AW _ _ _ _ _ _ _ _ _ _ _ _ (cmA σ)
  refine A_aload_n dX10_compile_39 rfl 0 rfl ?_
  refine A_aload_n dX10_compile_40 rfl 0 rfl ?_
  refine A_getr fl_X10_28 lk_0 rfl dX10_compile_41 ?_
  refine A_Va0 mv_X10_114 lk_8 rfl rfl (c_X1_eip _) (Nat.le_of_ble_eq_true rfl) (by decide) (by decide) dX10_compile_44 ?_
  refine A_puti fl_X10_75 lk_0 rfl dX10_compile_47 ?_
  show AW _ _ _ _ _ _ _ _ _ _ _ _ (cmB σ)
  refine A_aload_n dX10_compile_50 rfl 0 rfl ?_
  refine A_geti fl_X10_75 lk_0 rfl dX10_compile_51 ?_
  try simp (disch := omega) only [up_k, up_j, up_s]
  rw [cmB_08]
  refine A_iconst dX10_compile_54 ?_
  refine J_icmp_eq (tgt := 60) dX10_compile_55 (by decide) (by rfl) (by rfl) (fun h55 => ?_) (fun h55 => ?_)
  · refine A_aload_n dX10_compile_60 rfl 0 rfl ?_
    refine A_getr fl_X10_53 lk_0 rfl dX10_compile_61 ?_
    refine A_Va0 mv_X10_118 lk_51 rfl rfl (c_X2_readProgram _ (by rw [cm_10]; decide)) (Nat.le_of_ble_eq_true rfl) (by decide) (by decide) dX10_compile_64 ?_
    refine A_istore_n (lv2 := [(1, _), (0, _)]) dX10_compile_67 rfl (by decide) rfl ?_
    refine A_aload_n dX10_compile_68 rfl 1 rfl ?_
    refine A_aload_n dX10_compile_69 rfl 1 rfl ?_
    refine A_getr fl_X10_19 lk_0 rfl dX10_compile_70 ?_
    refine A_aload_n dX10_compile_73 rfl 1 rfl ?_
    refine A_getr fl_X10_53 lk_0 rfl dX10_compile_74 ?_
    refine A_getN121 dX10_compile_77 ?_
    try simp (disch := omega) only [up_k, up_j, up_s]
    refine A_Va1 mv_X10_124 lk_3 rfl rfl (c_X9_startOf _ _) (Nat.le_of_ble_eq_true rfl) (by decide) (by decide) dX10_compile_80 ?_
    refine A_puti fl_X10_75 lk_0 rfl dX10_compile_83 ?_
    show AW _ _ _ _ _ _ _ _ _ _ _ _ (cmD σ)
    refine A_iload_n dX10_compile_86 rfl 0 rfl ?_
    refine J_if_eq (tgt := 99) dX10_compile_87 (by decide) (by rfl) (fun h87 => ?_) (fun h87 => ?_)
    · refine A_aload_n dX10_compile_99 rfl 1 rfl ?_
      refine A_getr fl_X10_53 lk_0 rfl dX10_compile_100 ?_
      refine A_Vv0 mv_X10_128 lk_51 rfl rfl (c_X2_findMeantDishes _) (Nat.le_of_ble_eq_true rfl) (by decide) (by decide) dX10_compile_103 ?_
      refine A_iconst dX10_compile_106 ?_
      exact A_iret dX10_compile_107 (by rw [(cm_b h55 h87).1]) (cm_b h55 h87).2
    · refine A_aload_n dX10_compile_90 rfl 1 rfl ?_
      refine A_getr fl_X10_35 lk_0 rfl dX10_compile_91 ?_
      refine A_Vv0 mv_X10_104 lk_9 rfl rfl (c_X6_clear _) (Nat.le_of_ble_eq_true rfl) (by decide) (by decide) dX10_compile_94 ?_
      refine A_iload_n dX10_compile_97 rfl 0 rfl ?_
      exact A_iret dX10_compile_98 (by rw [(cm_c h55 h87).1]) (cm_c h55 h87).2
  · refine A_iconst dX10_compile_58 ?_
    exact A_iret dX10_compile_59 (by rw [(cm_a h55).1]) (cm_a h55).2
end S25b
