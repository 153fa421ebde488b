/-! the reference: the plain questions -/
section S50
variable {l : Launch} {G : Gx}
variable {σ : Sg}
theorem oq_t {p : Bool} (h : p = true) (v : Int) : oqV p v = v := if_pos h
theorem oq_f {p : Bool} (h : p = false) (v : Int) : oqV p v = 0 := if_neg (by rw [h]; decide)
theorem oqS_t {p : Bool} (h : p = true) (σ : Sg) : oqS p σ = up σ 84 0 0 := if_pos h
theorem oqS_f {p : Bool} (h : p = false) (σ : Sg) : oqS p σ = up (up σ 84 0 0) 84 0 1 := if_neg (by rw [h]; decide)
theorem and_t {a b : Bool} (h : a = true) (h2 : b = true) : (a && b) = true := by rw [h, h2]; rfl
theorem and_f1 {a b : Bool} (h : a = false) : (a && b) = false := by rw [h]; rfl
theorem and_f2 {a b : Bool} (h : b = false) : (a && b) = false := by rw [h]; exact Bool.and_false a
set_option maxRecDepth 100000 in
set_option maxHeartbeats 4000000 in
theorem c_X11_errorAt   : Ct l G yX11_errorAt cX11_errorAt 1 (some .int) 0 0 0 [.ref (lay G 84)] σ (some (.int (I32 (σ 84 4)))) (up σ 84 0 0) := by
  refine Ct.of (by decide +kernel) (Nat.le_of_ble_eq_true rfl) (fun f => ?_)
  show AW _ _ _ _ _ _ _ _ _ _ [(0, _)] _ _
  refine A_aload_n dX11_errorAt_0 rfl 0 rfl ?_
  refine A_iconst dX11_errorAt_1 ?_
  refine A_puti fl_X11_96 lk_84 rfl dX11_errorAt_2 ?_
  refine A_aload_n dX11_errorAt_5 rfl 0 rfl ?_
  refine A_geti fl_X11_13 lk_84 rfl dX11_errorAt_6 ?_
  try simp (disch := omega) only [up_k, up_j, up_s]
  exact A_iret dX11_errorAt_9 (by rfl) (by rfl)
set_option maxRecDepth 100000 in
set_option maxHeartbeats 4000000 in
theorem c_X11_suited   : Ct l G yX11_suited cX11_suited 1 (some .int) 0 0 0 [.ref (lay G 84)] σ (some (.int (I32 (σ 84 38)))) (up σ 84 0 0) := by
  refine Ct.of (by decide +kernel) (Nat.le_of_ble_eq_true rfl) (fun f => ?_)
  show AW _ _ _ _ _ _ _ _ _ _ [(0, _)] _ _
  refine A_aload_n dX11_suited_0 rfl 0 rfl ?_
  refine A_iconst dX11_suited_1 ?_
  refine A_puti fl_X11_96 lk_84 rfl dX11_suited_2 ?_
  refine A_aload_n dX11_suited_5 rfl 0 rfl ?_
  refine A_geti fl_X11_323 lk_84 rfl dX11_suited_6 ?_
  try simp (disch := omega) only [up_k, up_j, up_s]
  exact A_iret dX11_suited_9 (by rfl) (by rfl)
set_option maxRecDepth 100000 in
set_option maxHeartbeats 4000000 in
theorem c_X11_faults  (hP : PI σ) : Ct l G yX11_faults cX11_faults 1 (some .int) 5 0 0 [.ref (lay G 84)] σ (some (.int (I32 (afV (up σ 84 0 0))))) (up σ 84 0 0) := by
  have hP0 : PI (up σ 84 0 0) := hP
  obtain ⟨hC1, hC2, hC3, hC4, hC5, hC6⟩ := id hP.1
  obtain ⟨hM1, hM2⟩ := id hP.2.2.2.1
  refine Ct.of (by decide +kernel) (Nat.le_of_ble_eq_true rfl) (fun f => ?_)
  show AW _ _ _ _ _ _ _ _ _ _ [(0, _)] _ _
  refine A_aload_n dX11_faults_0 rfl 0 rfl ?_
  refine A_iconst dX11_faults_1 ?_
  refine A_puti fl_X11_96 lk_84 rfl dX11_faults_2 ?_
  refine A_aload_n dX11_faults_5 rfl 0 rfl ?_
  refine A_Va0 mv_X11_388 lk_84 rfl rfl (c_X11_allFaults hP0) (Nat.le_of_ble_eq_true rfl) (by omega) (by omega) dX11_faults_6 ?_
  exact A_iret dX11_faults_9 (by rfl) (by rfl)
set_option maxRecDepth 100000 in
set_option maxHeartbeats 4000000 in
theorem c_X11_foodTold (f0 w : Int) (hf : 0 ≤ f0 ∧ f0 < 16) (hw : inr w) : Ct l G yX11_foodTold cX11_foodTold 3 (some .int) 0 0 0 [.ref (lay G 84), .int (I32 f0), .int (I32 w)] σ (some (.int (I32 (fT σ f0 w)))) (σ) := by
  refine Ct.of (by decide +kernel) (Nat.le_of_ble_eq_true rfl) (fun f => ?_)
  show AW _ _ _ _ _ _ _ _ _ _ [(0, _), (1, _), (2, _)] _ _
  refine A_iload_n dX11_foodTold_0 rfl 2 rfl ?_
  refine J_if_ne (tgt := 13) dX11_foodTold_1 (by decide) (by first | exact i32_eq (by assumption) | with_reducible exact hfV_i32 _ | with_reducible exact afV_i32 _ | with_reducible exact mnIn_i32 _ _ _ | with_reducible exact tiV_i32 _ | exact i32_eq ⟨by omega, by omega⟩ | with_reducible exact i32_i32 _ | with_reducible exact i32_eq (b2i_inr _) | with_reducible exact iand_i32 _ _ | rfl) (fun h1 => ?_) (fun h1 => ?_)
  · refine A_iload_n dX11_foodTold_13 rfl 2 rfl ?_
    refine A_iconst dX11_foodTold_14 ?_
    refine J_icmp_ne (tgt := 27) dX11_foodTold_15 (by decide) (by first | exact i32_eq (by assumption) | with_reducible exact hfV_i32 _ | with_reducible exact afV_i32 _ | with_reducible exact mnIn_i32 _ _ _ | with_reducible exact tiV_i32 _ | exact i32_eq ⟨by omega, by omega⟩ | with_reducible exact i32_i32 _ | with_reducible exact i32_eq (b2i_inr _) | with_reducible exact iand_i32 _ _ | rfl) (by first | exact i32_eq (by assumption) | with_reducible exact hfV_i32 _ | with_reducible exact afV_i32 _ | with_reducible exact mnIn_i32 _ _ _ | with_reducible exact tiV_i32 _ | exact i32_eq ⟨by omega, by omega⟩ | with_reducible exact i32_i32 _ | with_reducible exact i32_eq (b2i_inr _) | with_reducible exact iand_i32 _ _ | rfl) (fun h15 => ?_) (fun h15 => ?_)
    · refine A_aload_n dX11_foodTold_27 rfl 0 rfl ?_
      refine A_getr fl_X11_36 lk_84 rfl dX11_foodTold_28 ?_
      refine A_iload_n dX11_foodTold_31 rfl 1 rfl ?_
      refine J_iald lk_92 (by first | exact i32_eq (by assumption) | with_reducible exact hfV_i32 _ | with_reducible exact afV_i32 _ | with_reducible exact mnIn_i32 _ _ _ | with_reducible exact tiV_i32 _ | exact i32_eq ⟨by omega, by omega⟩ | with_reducible exact i32_i32 _ | with_reducible exact i32_eq (b2i_inr _) | with_reducible exact iand_i32 _ _ | rfl) (by omega) (by omega) (by decide) dX11_foodTold_32 ?_
      exact A_iret dX11_foodTold_33 (by simp only [fT]; (repeat' split) <;> first | contradiction | (exfalso; omega) | (exfalso; simp_all; done) | rfl) (by rfl)
    · refine A_aload_n dX11_foodTold_18 rfl 0 rfl ?_
      refine A_getr fl_X11_33 lk_84 rfl dX11_foodTold_19 ?_
      refine A_iload_n dX11_foodTold_22 rfl 1 rfl ?_
      refine J_iald lk_91 (by first | exact i32_eq (by assumption) | with_reducible exact hfV_i32 _ | with_reducible exact afV_i32 _ | with_reducible exact mnIn_i32 _ _ _ | with_reducible exact tiV_i32 _ | exact i32_eq ⟨by omega, by omega⟩ | with_reducible exact i32_i32 _ | with_reducible exact i32_eq (b2i_inr _) | with_reducible exact iand_i32 _ _ | rfl) (by omega) (by omega) (by decide) dX11_foodTold_23 ?_
      refine A_goto (tgt := 33) dX11_foodTold_24 (by decide) ?_
      exact A_iret dX11_foodTold_33 (by simp only [fT]; (repeat' split) <;> first | contradiction | (exfalso; omega) | (exfalso; simp_all; done) | rfl) (by rfl)
  · refine A_aload_n dX11_foodTold_4 rfl 0 rfl ?_
    refine A_getr fl_X11_30 lk_84 rfl dX11_foodTold_5 ?_
    refine A_iload_n dX11_foodTold_8 rfl 1 rfl ?_
    refine J_iald lk_90 (by first | exact i32_eq (by assumption) | with_reducible exact hfV_i32 _ | with_reducible exact afV_i32 _ | with_reducible exact mnIn_i32 _ _ _ | with_reducible exact tiV_i32 _ | exact i32_eq ⟨by omega, by omega⟩ | with_reducible exact i32_i32 _ | with_reducible exact i32_eq (b2i_inr _) | with_reducible exact iand_i32 _ _ | rfl) (by omega) (by omega) (by decide) dX11_foodTold_9 ?_
    refine A_goto (tgt := 33) dX11_foodTold_10 (by decide) ?_
    exact A_iret dX11_foodTold_33 (by simp only [fT]; (repeat' split) <;> first | contradiction | (exfalso; omega) | (exfalso; simp_all; done) | rfl) (by rfl)
set_option maxRecDepth 100000 in
set_option maxHeartbeats 4000000 in
theorem c_X11_dishTold (f0 w : Int) (hP : PI σ) (hf : 0 ≤ f0 ∧ f0 < σ 84 15) (hw : inr w) : Ct l G yX11_dishTold cX11_dishTold 3 (some .int) 1 0 0 [.ref (lay G 84), .int (I32 f0), .int (I32 w)] σ (some (.int (I32 (dT σ f0 w)))) (σ) := by
  obtain ⟨hC1, hC2, hC3, hC4, hC5, hC6⟩ := id hP.1
  obtain ⟨hM1, hM2⟩ := id hP.2.2.2.1
  refine Ct.of (by decide +kernel) (Nat.le_of_ble_eq_true rfl) (fun f => ?_)
  show AW _ _ _ _ _ _ _ _ _ _ [(0, _), (1, _), (2, _)] _ _
  refine A_iload_n dX11_dishTold_0 rfl 2 rfl ?_
  refine J_if_ne (tgt := 13) dX11_dishTold_1 (by decide) (by first | exact i32_eq (by assumption) | with_reducible exact hfV_i32 _ | with_reducible exact afV_i32 _ | with_reducible exact mnIn_i32 _ _ _ | with_reducible exact tiV_i32 _ | exact i32_eq ⟨by omega, by omega⟩ | with_reducible exact i32_i32 _ | with_reducible exact i32_eq (b2i_inr _) | with_reducible exact iand_i32 _ _ | rfl) (fun h1 => ?_) (fun h1 => ?_)
  · refine A_iload_n dX11_dishTold_13 rfl 2 rfl ?_
    refine A_iconst dX11_dishTold_14 ?_
    refine J_icmp_ne (tgt := 26) dX11_dishTold_15 (by decide) (by first | exact i32_eq (by assumption) | with_reducible exact hfV_i32 _ | with_reducible exact afV_i32 _ | with_reducible exact mnIn_i32 _ _ _ | with_reducible exact tiV_i32 _ | exact i32_eq ⟨by omega, by omega⟩ | with_reducible exact i32_i32 _ | with_reducible exact i32_eq (b2i_inr _) | with_reducible exact iand_i32 _ _ | rfl) (by first | exact i32_eq (by assumption) | with_reducible exact hfV_i32 _ | with_reducible exact afV_i32 _ | with_reducible exact mnIn_i32 _ _ _ | with_reducible exact tiV_i32 _ | exact i32_eq ⟨by omega, by omega⟩ | with_reducible exact i32_i32 _ | with_reducible exact i32_eq (b2i_inr _) | with_reducible exact iand_i32 _ _ | rfl) (fun h15 => ?_) (fun h15 => ?_)
    · refine A_iload_n dX11_dishTold_26 rfl 2 rfl ?_
      refine A_iconst dX11_dishTold_27 ?_
      refine J_icmp_ne (tgt := 39) dX11_dishTold_28 (by decide) (by first | exact i32_eq (by assumption) | with_reducible exact hfV_i32 _ | with_reducible exact afV_i32 _ | with_reducible exact mnIn_i32 _ _ _ | with_reducible exact tiV_i32 _ | exact i32_eq ⟨by omega, by omega⟩ | with_reducible exact i32_i32 _ | with_reducible exact i32_eq (b2i_inr _) | with_reducible exact iand_i32 _ _ | rfl) (by first | exact i32_eq (by assumption) | with_reducible exact hfV_i32 _ | with_reducible exact afV_i32 _ | with_reducible exact mnIn_i32 _ _ _ | with_reducible exact tiV_i32 _ | exact i32_eq ⟨by omega, by omega⟩ | with_reducible exact i32_i32 _ | with_reducible exact i32_eq (b2i_inr _) | with_reducible exact iand_i32 _ _ | rfl) (fun h28 => ?_) (fun h28 => ?_)
      · refine A_iload_n dX11_dishTold_39 rfl 2 rfl ?_
        refine A_iconst dX11_dishTold_40 ?_
        refine J_icmp_ne (tgt := 53) dX11_dishTold_41 (by decide) (by first | exact i32_eq (by assumption) | with_reducible exact hfV_i32 _ | with_reducible exact afV_i32 _ | with_reducible exact mnIn_i32 _ _ _ | with_reducible exact tiV_i32 _ | exact i32_eq ⟨by omega, by omega⟩ | with_reducible exact i32_i32 _ | with_reducible exact i32_eq (b2i_inr _) | with_reducible exact iand_i32 _ _ | rfl) (by first | exact i32_eq (by assumption) | with_reducible exact hfV_i32 _ | with_reducible exact afV_i32 _ | with_reducible exact mnIn_i32 _ _ _ | with_reducible exact tiV_i32 _ | exact i32_eq ⟨by omega, by omega⟩ | with_reducible exact i32_i32 _ | with_reducible exact i32_eq (b2i_inr _) | with_reducible exact iand_i32 _ _ | rfl) (fun h41 => ?_) (fun h41 => ?_)
        · refine A_aload_n dX11_dishTold_53 rfl 0 rfl ?_
          refine A_getr fl_X11_54 lk_84 rfl dX11_dishTold_54 ?_
          refine A_iload_n dX11_dishTold_57 rfl 1 rfl ?_
          refine J_iald lk_98 (by first | exact i32_eq (by assumption) | with_reducible exact hfV_i32 _ | with_reducible exact afV_i32 _ | with_reducible exact mnIn_i32 _ _ _ | with_reducible exact tiV_i32 _ | exact i32_eq ⟨by omega, by omega⟩ | with_reducible exact i32_i32 _ | with_reducible exact i32_eq (b2i_inr _) | with_reducible exact iand_i32 _ _ | rfl) (by omega) (by omega) (by decide) dX11_dishTold_58 ?_
          exact A_iret dX11_dishTold_59 (by simp only [dT]; (repeat' split) <;> first | contradiction | (exfalso; omega) | (exfalso; simp_all; done) | rfl) (by rfl)
        · refine A_aload_n dX11_dishTold_44 rfl 0 rfl ?_
          refine A_getr fl_X11_51 lk_84 rfl dX11_dishTold_45 ?_
          refine A_iload_n dX11_dishTold_48 rfl 1 rfl ?_
          refine J_iald lk_97 (by first | exact i32_eq (by assumption) | with_reducible exact hfV_i32 _ | with_reducible exact afV_i32 _ | with_reducible exact mnIn_i32 _ _ _ | with_reducible exact tiV_i32 _ | exact i32_eq ⟨by omega, by omega⟩ | with_reducible exact i32_i32 _ | with_reducible exact i32_eq (b2i_inr _) | with_reducible exact iand_i32 _ _ | rfl) (by omega) (by omega) (by decide) dX11_dishTold_49 ?_
          refine A_goto (tgt := 59) dX11_dishTold_50 (by decide) ?_
          exact A_iret dX11_dishTold_59 (by simp only [dT]; (repeat' split) <;> first | contradiction | (exfalso; omega) | (exfalso; simp_all; done) | rfl) (by rfl)
      · refine A_aload_n dX11_dishTold_31 rfl 0 rfl ?_
        refine A_iload_n dX11_dishTold_32 rfl 1 rfl ?_
        refine A_Va1 mv_X11_347 lk_84 rfl rfl (c_X11_priceOf f0 hP hf) (Nat.le_of_ble_eq_true rfl) (by omega) (by omega) dX11_dishTold_33 ?_
        refine A_goto (tgt := 59) dX11_dishTold_36 (by decide) ?_
        exact A_iret dX11_dishTold_59 (by simp only [dT]; (repeat' split) <;> first | contradiction | (exfalso; omega) | (exfalso; simp_all; done) | rfl) (by rfl)
    · refine A_aload_n dX11_dishTold_18 rfl 0 rfl ?_
      refine A_iload_n dX11_dishTold_19 rfl 1 rfl ?_
      refine A_Va1 mv_X11_344 lk_84 rfl rfl (c_X11_energyOf f0 hP hf) (Nat.le_of_ble_eq_true rfl) (by omega) (by omega) dX11_dishTold_20 ?_
      refine A_goto (tgt := 59) dX11_dishTold_23 (by decide) ?_
      exact A_iret dX11_dishTold_59 (by simp only [dT]; (repeat' split) <;> first | contradiction | (exfalso; omega) | (exfalso; simp_all; done) | rfl) (by rfl)
  · refine A_aload_n dX11_dishTold_4 rfl 0 rfl ?_
    refine A_getr fl_X11_42 lk_84 rfl dX11_dishTold_5 ?_
    refine A_iload_n dX11_dishTold_8 rfl 1 rfl ?_
    refine J_iald lk_94 (by first | exact i32_eq (by assumption) | with_reducible exact hfV_i32 _ | with_reducible exact afV_i32 _ | with_reducible exact mnIn_i32 _ _ _ | with_reducible exact tiV_i32 _ | exact i32_eq ⟨by omega, by omega⟩ | with_reducible exact i32_i32 _ | with_reducible exact i32_eq (b2i_inr _) | with_reducible exact iand_i32 _ _ | rfl) (by omega) (by omega) (by decide) dX11_dishTold_9 ?_
    refine A_goto (tgt := 59) dX11_dishTold_10 (by decide) ?_
    exact A_iret dX11_dishTold_59 (by simp only [dT]; (repeat' split) <;> first | contradiction | (exfalso; omega) | (exfalso; simp_all; done) | rfl) (by rfl)
set_option maxRecDepth 100000 in
set_option maxHeartbeats 4000000 in
theorem c_X11_ruleTold (f0 w : Int) (hP : PI σ) (hf : 0 ≤ f0 ∧ f0 < σ 84 30) (hw : inr w) : Ct l G yX11_ruleTold cX11_ruleTold 3 (some .int) 2 0 0 [.ref (lay G 84), .int (I32 f0), .int (I32 w)] σ (some (.int (I32 (rT σ f0 w)))) (σ) := by
  obtain ⟨hC1, hC2, hC3, hC4, hC5, hC6⟩ := id hP.1
  obtain ⟨hM1, hM2⟩ := id hP.2.2.2.1
  refine Ct.of (by decide +kernel) (Nat.le_of_ble_eq_true rfl) (fun f => ?_)
  show AW _ _ _ _ _ _ _ _ _ _ [(0, _), (1, _), (2, _)] _ _
  refine A_iload_n dX11_ruleTold_0 rfl 2 rfl ?_
  refine J_if_ne (tgt := 13) dX11_ruleTold_1 (by decide) (by first | exact i32_eq (by assumption) | with_reducible exact hfV_i32 _ | with_reducible exact afV_i32 _ | with_reducible exact mnIn_i32 _ _ _ | with_reducible exact tiV_i32 _ | exact i32_eq ⟨by omega, by omega⟩ | with_reducible exact i32_i32 _ | with_reducible exact i32_eq (b2i_inr _) | with_reducible exact iand_i32 _ _ | rfl) (fun h1 => ?_) (fun h1 => ?_)
  · refine A_iload_n dX11_ruleTold_13 rfl 2 rfl ?_
    refine A_iconst dX11_ruleTold_14 ?_
    refine J_icmp_ne (tgt := 27) dX11_ruleTold_15 (by decide) (by first | exact i32_eq (by assumption) | with_reducible exact hfV_i32 _ | with_reducible exact afV_i32 _ | with_reducible exact mnIn_i32 _ _ _ | with_reducible exact tiV_i32 _ | exact i32_eq ⟨by omega, by omega⟩ | with_reducible exact i32_i32 _ | with_reducible exact i32_eq (b2i_inr _) | with_reducible exact iand_i32 _ _ | rfl) (by first | exact i32_eq (by assumption) | with_reducible exact hfV_i32 _ | with_reducible exact afV_i32 _ | with_reducible exact mnIn_i32 _ _ _ | with_reducible exact tiV_i32 _ | exact i32_eq ⟨by omega, by omega⟩ | with_reducible exact i32_i32 _ | with_reducible exact i32_eq (b2i_inr _) | with_reducible exact iand_i32 _ _ | rfl) (fun h15 => ?_) (fun h15 => ?_)
    · refine A_iload_n dX11_ruleTold_27 rfl 2 rfl ?_
      refine A_iconst dX11_ruleTold_28 ?_
      refine J_icmp_ne (tgt := 41) dX11_ruleTold_29 (by decide) (by first | exact i32_eq (by assumption) | with_reducible exact hfV_i32 _ | with_reducible exact afV_i32 _ | with_reducible exact mnIn_i32 _ _ _ | with_reducible exact tiV_i32 _ | exact i32_eq ⟨by omega, by omega⟩ | with_reducible exact i32_i32 _ | with_reducible exact i32_eq (b2i_inr _) | with_reducible exact iand_i32 _ _ | rfl) (by first | exact i32_eq (by assumption) | with_reducible exact hfV_i32 _ | with_reducible exact afV_i32 _ | with_reducible exact mnIn_i32 _ _ _ | with_reducible exact tiV_i32 _ | exact i32_eq ⟨by omega, by omega⟩ | with_reducible exact i32_i32 _ | with_reducible exact i32_eq (b2i_inr _) | with_reducible exact iand_i32 _ _ | rfl) (fun h29 => ?_) (fun h29 => ?_)
      · refine A_aload_n dX11_ruleTold_41 rfl 0 rfl ?_
        refine A_iload_n dX11_ruleTold_42 rfl 1 rfl ?_
        refine A_Va1 mv_X11_356 lk_84 rfl rfl (c_X11_meant f0 hP hf) (Nat.le_of_ble_eq_true rfl) (by omega) (by omega) dX11_ruleTold_43 ?_
        exact A_iret dX11_ruleTold_46 (by simp only [rT]; (repeat' split) <;> first | contradiction | (exfalso; omega) | (exfalso; simp_all; done) | rfl) (by rfl)
      · refine A_aload_n dX11_ruleTold_32 rfl 0 rfl ?_
        refine A_getr fl_X11_81 lk_84 rfl dX11_ruleTold_33 ?_
        refine A_iload_n dX11_ruleTold_36 rfl 1 rfl ?_
        refine J_iald lk_107 (by first | exact i32_eq (by assumption) | with_reducible exact hfV_i32 _ | with_reducible exact afV_i32 _ | with_reducible exact mnIn_i32 _ _ _ | with_reducible exact tiV_i32 _ | exact i32_eq ⟨by omega, by omega⟩ | with_reducible exact i32_i32 _ | with_reducible exact i32_eq (b2i_inr _) | with_reducible exact iand_i32 _ _ | rfl) (by omega) (by omega) (by decide) dX11_ruleTold_37 ?_
        refine A_goto (tgt := 46) dX11_ruleTold_38 (by decide) ?_
        exact A_iret dX11_ruleTold_46 (by simp only [rT]; (repeat' split) <;> first | contradiction | (exfalso; omega) | (exfalso; simp_all; done) | rfl) (by rfl)
    · refine A_aload_n dX11_ruleTold_18 rfl 0 rfl ?_
      refine A_getr fl_X11_78 lk_84 rfl dX11_ruleTold_19 ?_
      refine A_iload_n dX11_ruleTold_22 rfl 1 rfl ?_
      refine J_iald lk_106 (by first | exact i32_eq (by assumption) | with_reducible exact hfV_i32 _ | with_reducible exact afV_i32 _ | with_reducible exact mnIn_i32 _ _ _ | with_reducible exact tiV_i32 _ | exact i32_eq ⟨by omega, by omega⟩ | with_reducible exact i32_i32 _ | with_reducible exact i32_eq (b2i_inr _) | with_reducible exact iand_i32 _ _ | rfl) (by omega) (by omega) (by decide) dX11_ruleTold_23 ?_
      refine A_goto (tgt := 46) dX11_ruleTold_24 (by decide) ?_
      exact A_iret dX11_ruleTold_46 (by simp only [rT]; (repeat' split) <;> first | contradiction | (exfalso; omega) | (exfalso; simp_all; done) | rfl) (by rfl)
  · refine A_aload_n dX11_ruleTold_4 rfl 0 rfl ?_
    refine A_getr fl_X11_75 lk_84 rfl dX11_ruleTold_5 ?_
    refine A_iload_n dX11_ruleTold_8 rfl 1 rfl ?_
    refine J_iald lk_105 (by first | exact i32_eq (by assumption) | with_reducible exact hfV_i32 _ | with_reducible exact afV_i32 _ | with_reducible exact mnIn_i32 _ _ _ | with_reducible exact tiV_i32 _ | exact i32_eq ⟨by omega, by omega⟩ | with_reducible exact i32_i32 _ | with_reducible exact i32_eq (b2i_inr _) | with_reducible exact iand_i32 _ _ | rfl) (by omega) (by omega) (by decide) dX11_ruleTold_9 ?_
    refine A_goto (tgt := 46) dX11_ruleTold_10 (by decide) ?_
    exact A_iret dX11_ruleTold_46 (by simp only [rT]; (repeat' split) <;> first | contradiction | (exfalso; omega) | (exfalso; simp_all; done) | rfl) (by rfl)
set_option maxRecDepth 100000 in
set_option maxHeartbeats 4000000 in
theorem c_X11_food_ (x w : Int) (hP : PI σ) (hx : inr x) (hy : inr w) : Ct l G yX11_food_ cX11_food_ 3 (some .int) 3 0 0 [.ref (lay G 84), .int (I32 x), .int (I32 w)] σ (some (.int (I32 (oqV (inR x 0 (σ 84 10 - 1) && inR w 0 2) (fT (up σ 84 0 0) x w))))) (oqS (inR x 0 (σ 84 10 - 1) && inR w 0 2) σ) := by
  have hP0 : PI (up σ 84 0 0) := hP
  obtain ⟨hC1, hC2, hC3, hC4, hC5, hC6⟩ := id hP.1
  obtain ⟨hM1, hM2⟩ := id hP.2.2.2.1
  refine Ct.of (by decide +kernel) (Nat.le_of_ble_eq_true rfl) (fun f => ?_)
  show AW _ _ _ _ _ _ _ _ _ _ [(0, _), (1, _), (2, _)] _ _
  refine A_aload_n dX11_food__0 rfl 0 rfl ?_
  refine A_iconst dX11_food__1 ?_
  refine A_puti fl_X11_96 lk_84 rfl dX11_food__2 ?_
  refine A_iload_n dX11_food__5 rfl 1 rfl ?_
  refine A_iconst dX11_food__6 ?_
  refine A_aload_n dX11_food__7 rfl 0 rfl ?_
  refine A_geti fl_X11_240 lk_84 rfl dX11_food__8 ?_
  try simp (disch := omega) only [up_k, up_j, up_s]
  refine A_iconst dX11_food__11 ?_
  refine A_isub dX11_food__12 ?_
  refine A_Sa3 ms_X11_106 (c_X11_isIn _ _ _ _) (Nat.le_of_ble_eq_true rfl) (by omega) (by omega) dX11_food__13 ?_
  refine A_ifeq_b (tgt := 37) dX11_food__16 (by decide) (fun h16 => ?_) (fun h16 => ?_)
  · refine A_aload_n dX11_food__37 rfl 0 rfl ?_
    refine A_iconst dX11_food__38 ?_
    refine A_Va1 mv_X11_102 lk_84 rfl rfl (c_X11_no _ _) (Nat.le_of_ble_eq_true rfl) (by omega) (by omega) dX11_food__39 ?_
    exact A_iret dX11_food__42 (by first | (rw [oq_t (and_t h16 h25)]; done) | (rw [oq_f (and_f1 h16)]; done) | (rw [oq_f (and_f2 h25)]; done)) (by first | (rw [oqS_t (and_t h16 h25)]; done) | (rw [oqS_f (and_f1 h16)]; done) | (rw [oqS_f (and_f2 h25)]; done))
  · have hb16 := inR_t hx inr_0 ⟨by omega, by omega⟩ h16
    refine A_iload_n dX11_food__19 rfl 2 rfl ?_
    refine A_iconst dX11_food__20 ?_
    refine A_iconst dX11_food__21 ?_
    refine A_Sa3 ms_X11_106 (c_X11_isIn _ _ _ _) (Nat.le_of_ble_eq_true rfl) (by omega) (by omega) dX11_food__22 ?_
    refine A_ifeq_b (tgt := 37) dX11_food__25 (by decide) (fun h25 => ?_) (fun h25 => ?_)
    · refine A_aload_n dX11_food__37 rfl 0 rfl ?_
      refine A_iconst dX11_food__38 ?_
      refine A_Va1 mv_X11_102 lk_84 rfl rfl (c_X11_no _ _) (Nat.le_of_ble_eq_true rfl) (by omega) (by omega) dX11_food__39 ?_
      exact A_iret dX11_food__42 (by first | (rw [oq_t (and_t h16 h25)]; done) | (rw [oq_f (and_f1 h16)]; done) | (rw [oq_f (and_f2 h25)]; done)) (by first | (rw [oqS_t (and_t h16 h25)]; done) | (rw [oqS_f (and_f1 h16)]; done) | (rw [oqS_f (and_f2 h25)]; done))
    · refine A_aload_n dX11_food__28 rfl 0 rfl ?_
      refine A_iload_n dX11_food__29 rfl 1 rfl ?_
      refine A_iload_n dX11_food__30 rfl 2 rfl ?_
      refine A_Va2 mv_X11_341 lk_84 rfl rfl (c_X11_foodTold x w ⟨by omega, by omega⟩ hy) (Nat.le_of_ble_eq_true rfl) (by omega) (by omega) dX11_food__31 ?_
      refine A_goto (tgt := 42) dX11_food__34 (by decide) ?_
      exact A_iret dX11_food__42 (by first | (rw [oq_t (and_t h16 h25)]; done) | (rw [oq_f (and_f1 h16)]; done) | (rw [oq_f (and_f2 h25)]; done)) (by first | (rw [oqS_t (and_t h16 h25)]; done) | (rw [oqS_f (and_f1 h16)]; done) | (rw [oqS_f (and_f2 h25)]; done))
set_option maxRecDepth 100000 in
set_option maxHeartbeats 4000000 in
theorem c_X11_dish_ (x w : Int) (hP : PI σ) (hx : inr x) (hy : inr w) : Ct l G yX11_dish_ cX11_dish_ 3 (some .int) 3 0 0 [.ref (lay G 84), .int (I32 x), .int (I32 w)] σ (some (.int (I32 (oqV (inR x 0 (σ 84 15 - 1) && inR w 0 4) (dT (up σ 84 0 0) x w))))) (oqS (inR x 0 (σ 84 15 - 1) && inR w 0 4) σ) := by
  have hP0 : PI (up σ 84 0 0) := hP
  obtain ⟨hC1, hC2, hC3, hC4, hC5, hC6⟩ := id hP.1
  obtain ⟨hM1, hM2⟩ := id hP.2.2.2.1
  refine Ct.of (by decide +kernel) (Nat.le_of_ble_eq_true rfl) (fun f => ?_)
  show AW _ _ _ _ _ _ _ _ _ _ [(0, _), (1, _), (2, _)] _ _
  refine A_aload_n dX11_dish__0 rfl 0 rfl ?_
  refine A_iconst dX11_dish__1 ?_
  refine A_puti fl_X11_96 lk_84 rfl dX11_dish__2 ?_
  refine A_iload_n dX11_dish__5 rfl 1 rfl ?_
  refine A_iconst dX11_dish__6 ?_
  refine A_aload_n dX11_dish__7 rfl 0 rfl ?_
  refine A_geti fl_X11_247 lk_84 rfl dX11_dish__8 ?_
  try simp (disch := omega) only [up_k, up_j, up_s]
  refine A_iconst dX11_dish__11 ?_
  refine A_isub dX11_dish__12 ?_
  refine A_Sa3 ms_X11_106 (c_X11_isIn _ _ _ _) (Nat.le_of_ble_eq_true rfl) (by omega) (by omega) dX11_dish__13 ?_
  refine A_ifeq_b (tgt := 37) dX11_dish__16 (by decide) (fun h16 => ?_) (fun h16 => ?_)
  · refine A_aload_n dX11_dish__37 rfl 0 rfl ?_
    refine A_iconst dX11_dish__38 ?_
    refine A_Va1 mv_X11_102 lk_84 rfl rfl (c_X11_no _ _) (Nat.le_of_ble_eq_true rfl) (by omega) (by omega) dX11_dish__39 ?_
    exact A_iret dX11_dish__42 (by first | (rw [oq_t (and_t h16 h25)]; done) | (rw [oq_f (and_f1 h16)]; done) | (rw [oq_f (and_f2 h25)]; done)) (by first | (rw [oqS_t (and_t h16 h25)]; done) | (rw [oqS_f (and_f1 h16)]; done) | (rw [oqS_f (and_f2 h25)]; done))
  · have hb16 := inR_t hx inr_0 ⟨by omega, by omega⟩ h16
    refine A_iload_n dX11_dish__19 rfl 2 rfl ?_
    refine A_iconst dX11_dish__20 ?_
    refine A_iconst dX11_dish__21 ?_
    refine A_Sa3 ms_X11_106 (c_X11_isIn _ _ _ _) (Nat.le_of_ble_eq_true rfl) (by omega) (by omega) dX11_dish__22 ?_
    refine A_ifeq_b (tgt := 37) dX11_dish__25 (by decide) (fun h25 => ?_) (fun h25 => ?_)
    · refine A_aload_n dX11_dish__37 rfl 0 rfl ?_
      refine A_iconst dX11_dish__38 ?_
      refine A_Va1 mv_X11_102 lk_84 rfl rfl (c_X11_no _ _) (Nat.le_of_ble_eq_true rfl) (by omega) (by omega) dX11_dish__39 ?_
      exact A_iret dX11_dish__42 (by first | (rw [oq_t (and_t h16 h25)]; done) | (rw [oq_f (and_f1 h16)]; done) | (rw [oq_f (and_f2 h25)]; done)) (by first | (rw [oqS_t (and_t h16 h25)]; done) | (rw [oqS_f (and_f1 h16)]; done) | (rw [oqS_f (and_f2 h25)]; done))
    · refine A_aload_n dX11_dish__28 rfl 0 rfl ?_
      refine A_iload_n dX11_dish__29 rfl 1 rfl ?_
      refine A_iload_n dX11_dish__30 rfl 2 rfl ?_
      refine A_Va2 mv_X11_350 lk_84 rfl rfl (c_X11_dishTold x w hP0 ⟨by omega, by show x < σ 84 15; omega⟩ hy) (Nat.le_of_ble_eq_true rfl) (by omega) (by omega) dX11_dish__31 ?_
      refine A_goto (tgt := 42) dX11_dish__34 (by decide) ?_
      exact A_iret dX11_dish__42 (by first | (rw [oq_t (and_t h16 h25)]; done) | (rw [oq_f (and_f1 h16)]; done) | (rw [oq_f (and_f2 h25)]; done)) (by first | (rw [oqS_t (and_t h16 h25)]; done) | (rw [oqS_f (and_f1 h16)]; done) | (rw [oqS_f (and_f2 h25)]; done))
set_option maxRecDepth 100000 in
set_option maxHeartbeats 4000000 in
theorem c_X11_rule_ (x w : Int) (hP : PI σ) (hx : inr x) (hy : inr w) : Ct l G yX11_rule_ cX11_rule_ 3 (some .int) 3 0 0 [.ref (lay G 84), .int (I32 x), .int (I32 w)] σ (some (.int (I32 (oqV (inR x 0 (σ 84 30 - 1) && inR w 0 3) (rT (up σ 84 0 0) x w))))) (oqS (inR x 0 (σ 84 30 - 1) && inR w 0 3) σ) := by
  have hP0 : PI (up σ 84 0 0) := hP
  obtain ⟨hC1, hC2, hC3, hC4, hC5, hC6⟩ := id hP.1
  obtain ⟨hM1, hM2⟩ := id hP.2.2.2.1
  refine Ct.of (by decide +kernel) (Nat.le_of_ble_eq_true rfl) (fun f => ?_)
  show AW _ _ _ _ _ _ _ _ _ _ [(0, _), (1, _), (2, _)] _ _
  refine A_aload_n dX11_rule__0 rfl 0 rfl ?_
  refine A_iconst dX11_rule__1 ?_
  refine A_puti fl_X11_96 lk_84 rfl dX11_rule__2 ?_
  refine A_iload_n dX11_rule__5 rfl 1 rfl ?_
  refine A_iconst dX11_rule__6 ?_
  refine A_aload_n dX11_rule__7 rfl 0 rfl ?_
  refine A_geti fl_X11_298 lk_84 rfl dX11_rule__8 ?_
  try simp (disch := omega) only [up_k, up_j, up_s]
  refine A_iconst dX11_rule__11 ?_
  refine A_isub dX11_rule__12 ?_
  refine A_Sa3 ms_X11_106 (c_X11_isIn _ _ _ _) (Nat.le_of_ble_eq_true rfl) (by omega) (by omega) dX11_rule__13 ?_
  refine A_ifeq_b (tgt := 37) dX11_rule__16 (by decide) (fun h16 => ?_) (fun h16 => ?_)
  · refine A_aload_n dX11_rule__37 rfl 0 rfl ?_
    refine A_iconst dX11_rule__38 ?_
    refine A_Va1 mv_X11_102 lk_84 rfl rfl (c_X11_no _ _) (Nat.le_of_ble_eq_true rfl) (by omega) (by omega) dX11_rule__39 ?_
    exact A_iret dX11_rule__42 (by first | (rw [oq_t (and_t h16 h25)]; done) | (rw [oq_f (and_f1 h16)]; done) | (rw [oq_f (and_f2 h25)]; done)) (by first | (rw [oqS_t (and_t h16 h25)]; done) | (rw [oqS_f (and_f1 h16)]; done) | (rw [oqS_f (and_f2 h25)]; done))
  · have hb16 := inR_t hx inr_0 ⟨by omega, by omega⟩ h16
    refine A_iload_n dX11_rule__19 rfl 2 rfl ?_
    refine A_iconst dX11_rule__20 ?_
    refine A_iconst dX11_rule__21 ?_
    refine A_Sa3 ms_X11_106 (c_X11_isIn _ _ _ _) (Nat.le_of_ble_eq_true rfl) (by omega) (by omega) dX11_rule__22 ?_
    refine A_ifeq_b (tgt := 37) dX11_rule__25 (by decide) (fun h25 => ?_) (fun h25 => ?_)
    · refine A_aload_n dX11_rule__37 rfl 0 rfl ?_
      refine A_iconst dX11_rule__38 ?_
      refine A_Va1 mv_X11_102 lk_84 rfl rfl (c_X11_no _ _) (Nat.le_of_ble_eq_true rfl) (by omega) (by omega) dX11_rule__39 ?_
      exact A_iret dX11_rule__42 (by first | (rw [oq_t (and_t h16 h25)]; done) | (rw [oq_f (and_f1 h16)]; done) | (rw [oq_f (and_f2 h25)]; done)) (by first | (rw [oqS_t (and_t h16 h25)]; done) | (rw [oqS_f (and_f1 h16)]; done) | (rw [oqS_f (and_f2 h25)]; done))
    · refine A_aload_n dX11_rule__28 rfl 0 rfl ?_
      refine A_iload_n dX11_rule__29 rfl 1 rfl ?_
      refine A_iload_n dX11_rule__30 rfl 2 rfl ?_
      refine A_Va2 mv_X11_359 lk_84 rfl rfl (c_X11_ruleTold x w hP0 ⟨by omega, by show x < σ 84 30; omega⟩ hy) (Nat.le_of_ble_eq_true rfl) (by omega) (by omega) dX11_rule__31 ?_
      refine A_goto (tgt := 42) dX11_rule__34 (by decide) ?_
      exact A_iret dX11_rule__42 (by first | (rw [oq_t (and_t h16 h25)]; done) | (rw [oq_f (and_f1 h16)]; done) | (rw [oq_f (and_f2 h25)]; done)) (by first | (rw [oqS_t (and_t h16 h25)]; done) | (rw [oqS_f (and_f1 h16)]; done) | (rw [oqS_f (and_f2 h25)]; done))
set_option maxRecDepth 100000 in
set_option maxHeartbeats 4000000 in
theorem c_X11_grams (x w : Int) (hP : PI σ) (hx : inr x) (hy : inr w) : Ct l G yX11_grams cX11_grams 3 (some .int) 1 0 0 [.ref (lay G 84), .int (I32 x), .int (I32 w)] σ (some (.int (I32 (oqV (inR x 0 (σ 84 15 - 1) && inR w 0 (σ 84 10 - 1)) (σ 99 (16 * x + w).toNat))))) (oqS (inR x 0 (σ 84 15 - 1) && inR w 0 (σ 84 10 - 1)) σ) := by
  have hP0 : PI (up σ 84 0 0) := hP
  obtain ⟨hC1, hC2, hC3, hC4, hC5, hC6⟩ := id hP.1
  obtain ⟨hM1, hM2⟩ := id hP.2.2.2.1
  refine Ct.of (by decide +kernel) (Nat.le_of_ble_eq_true rfl) (fun f => ?_)
  show AW _ _ _ _ _ _ _ _ _ _ [(0, _), (1, _), (2, _)] _ _
  refine A_aload_n dX11_grams_0 rfl 0 rfl ?_
  refine A_iconst dX11_grams_1 ?_
  refine A_puti fl_X11_96 lk_84 rfl dX11_grams_2 ?_
  refine A_iload_n dX11_grams_5 rfl 1 rfl ?_
  refine A_iconst dX11_grams_6 ?_
  refine A_aload_n dX11_grams_7 rfl 0 rfl ?_
  refine A_geti fl_X11_247 lk_84 rfl dX11_grams_8 ?_
  try simp (disch := omega) only [up_k, up_j, up_s]
  refine A_iconst dX11_grams_11 ?_
  refine A_isub dX11_grams_12 ?_
  refine A_Sa3 ms_X11_106 (c_X11_isIn _ _ _ _) (Nat.le_of_ble_eq_true rfl) (by omega) (by omega) dX11_grams_13 ?_
  refine A_ifeq_b (tgt := 48) dX11_grams_16 (by decide) (fun h16 => ?_) (fun h16 => ?_)
  · refine A_aload_n dX11_grams_48 rfl 0 rfl ?_
    refine A_iconst dX11_grams_49 ?_
    refine A_Va1 mv_X11_102 lk_84 rfl rfl (c_X11_no _ _) (Nat.le_of_ble_eq_true rfl) (by omega) (by omega) dX11_grams_50 ?_
    exact A_iret dX11_grams_53 (by first | (rw [oq_t (and_t h16 h30)]; done) | (rw [oq_f (and_f1 h16)]; done) | (rw [oq_f (and_f2 h30)]; done)) (by first | (rw [oqS_t (and_t h16 h30)]; done) | (rw [oqS_f (and_f1 h16)]; done) | (rw [oqS_f (and_f2 h30)]; done))
  · have hb16 := inR_t hx inr_0 ⟨by omega, by omega⟩ h16
    refine A_iload_n dX11_grams_19 rfl 2 rfl ?_
    refine A_iconst dX11_grams_20 ?_
    refine A_aload_n dX11_grams_21 rfl 0 rfl ?_
    refine A_geti fl_X11_240 lk_84 rfl dX11_grams_22 ?_
    try simp (disch := omega) only [up_k, up_j, up_s]
    refine A_iconst dX11_grams_25 ?_
    refine A_isub dX11_grams_26 ?_
    refine A_Sa3 ms_X11_106 (c_X11_isIn _ _ _ _) (Nat.le_of_ble_eq_true rfl) (by omega) (by omega) dX11_grams_27 ?_
    refine A_ifeq_b (tgt := 48) dX11_grams_30 (by decide) (fun h30 => ?_) (fun h30 => ?_)
    · refine A_aload_n dX11_grams_48 rfl 0 rfl ?_
      refine A_iconst dX11_grams_49 ?_
      refine A_Va1 mv_X11_102 lk_84 rfl rfl (c_X11_no _ _) (Nat.le_of_ble_eq_true rfl) (by omega) (by omega) dX11_grams_50 ?_
      exact A_iret dX11_grams_53 (by first | (rw [oq_t (and_t h16 h30)]; done) | (rw [oq_f (and_f1 h16)]; done) | (rw [oq_f (and_f2 h30)]; done)) (by first | (rw [oqS_t (and_t h16 h30)]; done) | (rw [oqS_f (and_f1 h16)]; done) | (rw [oqS_f (and_f2 h30)]; done))
    · have hb30 := inR_t hy inr_0 ⟨by omega, by omega⟩ h30
      refine A_aload_n dX11_grams_33 rfl 0 rfl ?_
      refine A_getr fl_X11_57 lk_84 rfl dX11_grams_34 ?_
      refine A_bipush dX11_grams_37 (by decide +kernel) ?_
      refine A_iload_n dX11_grams_39 rfl 1 rfl ?_
      refine A_imul dX11_grams_40 ?_
      refine A_iload_n dX11_grams_41 rfl 2 rfl ?_
      refine A_iadd dX11_grams_42 ?_
      refine J_lald lk_99 (by first | exact i32_eq (by assumption) | with_reducible exact hfV_i32 _ | with_reducible exact afV_i32 _ | with_reducible exact mnIn_i32 _ _ _ | with_reducible exact tiV_i32 _ | exact i32_eq ⟨by omega, by omega⟩ | with_reducible exact i32_i32 _ | with_reducible exact i32_eq (b2i_inr _) | with_reducible exact iand_i32 _ _ | rfl) (by omega) (by omega) (by decide) dX11_grams_43 ?_
      try simp (disch := omega) only [up_k, up_j, up_s]
      refine A_l2i dX11_grams_44 ?_
      refine A_goto (tgt := 53) dX11_grams_45 (by decide) ?_
      exact A_iret dX11_grams_53 (by first | (rw [oq_t (and_t h16 h30)]; done) | (rw [oq_f (and_f1 h16)]; done) | (rw [oq_f (and_f2 h30)]; done)) (by first | (rw [oqS_t (and_t h16 h30)]; done) | (rw [oqS_f (and_f1 h16)]; done) | (rw [oqS_f (and_f2 h30)]; done))
set_option maxRecDepth 100000 in
set_option maxHeartbeats 4000000 in
theorem c_X11_choice (c : Int) (p : Bool) (hP : PI σ) (hx : inr c) : Ct l G yX11_choice cX11_choice 3 (some .int) 2 0 0 [.ref (lay G 84), .int (I32 c), .int (I32 (b2i p))] σ (some (.int (I32 (oqV (isC σ c) (if p = true then σ 101 c.toNat else σ 102 c.toNat))))) (oqS (isC σ c) σ) := by
  have hP0 : PI (up σ 84 0 0) := hP
  obtain ⟨hC1, hC2, hC3, hC4, hC5, hC6⟩ := id hP.1
  obtain ⟨hM1, hM2⟩ := id hP.2.2.2.1
  refine Ct.of (by decide +kernel) (Nat.le_of_ble_eq_true rfl) (fun f => ?_)
  show AW _ _ _ _ _ _ _ _ _ _ [(0, _), (1, _), (2, _)] _ _
  refine A_aload_n dX11_choice_0 rfl 0 rfl ?_
  refine A_iconst dX11_choice_1 ?_
  refine A_puti fl_X11_96 lk_84 rfl dX11_choice_2 ?_
  refine A_aload_n dX11_choice_5 rfl 0 rfl ?_
  refine A_iload_n dX11_choice_6 rfl 1 rfl ?_
  refine A_Va1 mv_X11_353 lk_84 rfl rfl (c_X11_isChoice _) (Nat.le_of_ble_eq_true rfl) (by omega) (by omega) dX11_choice_7 ?_
  refine A_ifeq_b (tgt := 35) dX11_choice_10 (by decide) (fun h10 => ?_) (fun h10 => ?_)
  · refine A_aload_n dX11_choice_35 rfl 0 rfl ?_
    refine A_iconst dX11_choice_36 ?_
    refine A_Va1 mv_X11_102 lk_84 rfl rfl (c_X11_no _ _) (Nat.le_of_ble_eq_true rfl) (by omega) (by omega) dX11_choice_37 ?_
    exact A_iret dX11_choice_40 (by first | (rw [oq_t (show isC σ c = true from h10), if_pos h14]; done) | (rw [oq_t (show isC σ c = true from h10), if_neg (by rw [h14]; decide)]; done) | (rw [oq_f (show isC σ c = false from h10)]; done)) (by first | (rw [oqS_t (show isC σ c = _ from h10)]; done) | (rw [oqS_f (show isC σ c = _ from h10)]; done))
  · have hb10 := inR_t (hi := σ 84 25 - 1) hx inr_0 ⟨by omega, by omega⟩ h10
    refine A_iload_n dX11_choice_13 rfl 2 rfl ?_
    refine A_ifeq_b (tgt := 26) dX11_choice_14 (by decide) (fun h14 => ?_) (fun h14 => ?_)
    · refine A_aload_n dX11_choice_26 rfl 0 rfl ?_
      refine A_getr fl_X11_66 lk_84 rfl dX11_choice_27 ?_
      refine A_iload_n dX11_choice_30 rfl 1 rfl ?_
      refine J_iald lk_102 (by first | exact i32_eq (by assumption) | with_reducible exact hfV_i32 _ | with_reducible exact afV_i32 _ | with_reducible exact mnIn_i32 _ _ _ | with_reducible exact tiV_i32 _ | exact i32_eq ⟨by omega, by omega⟩ | with_reducible exact i32_i32 _ | with_reducible exact i32_eq (b2i_inr _) | with_reducible exact iand_i32 _ _ | rfl) (by omega) (by omega) (by decide) dX11_choice_31 ?_
      try simp (disch := omega) only [up_k, up_j, up_s]
      refine A_goto (tgt := 40) dX11_choice_32 (by decide) ?_
      exact A_iret dX11_choice_40 (by first | (rw [oq_t (show isC σ c = true from h10), if_pos h14]; done) | (rw [oq_t (show isC σ c = true from h10), if_neg (by rw [h14]; decide)]; done) | (rw [oq_f (show isC σ c = false from h10)]; done)) (by first | (rw [oqS_t (show isC σ c = _ from h10)]; done) | (rw [oqS_f (show isC σ c = _ from h10)]; done))
    · refine A_aload_n dX11_choice_17 rfl 0 rfl ?_
      refine A_getr fl_X11_63 lk_84 rfl dX11_choice_18 ?_
      refine A_iload_n dX11_choice_21 rfl 1 rfl ?_
      refine J_iald lk_101 (by first | exact i32_eq (by assumption) | with_reducible exact hfV_i32 _ | with_reducible exact afV_i32 _ | with_reducible exact mnIn_i32 _ _ _ | with_reducible exact tiV_i32 _ | exact i32_eq ⟨by omega, by omega⟩ | with_reducible exact i32_i32 _ | with_reducible exact i32_eq (b2i_inr _) | with_reducible exact iand_i32 _ _ | rfl) (by omega) (by omega) (by decide) dX11_choice_22 ?_
      try simp (disch := omega) only [up_k, up_j, up_s]
      refine A_goto (tgt := 40) dX11_choice_23 (by decide) ?_
      exact A_iret dX11_choice_40 (by first | (rw [oq_t (show isC σ c = true from h10), if_pos h14]; done) | (rw [oq_t (show isC σ c = true from h10), if_neg (by rw [h14]; decide)]; done) | (rw [oq_f (show isC σ c = false from h10)]; done)) (by first | (rw [oqS_t (show isC σ c = _ from h10)]; done) | (rw [oqS_f (show isC σ c = _ from h10)]; done))
set_option maxRecDepth 100000 in
set_option maxHeartbeats 4000000 in
theorem c_X11_at (d c : Int) (hP : PI σ) (hx : inr d) (hy : inr c) : Ct l G yX11_at cX11_at 3 (some .int) 2 0 0 [.ref (lay G 84), .int (I32 d), .int (I32 c)] σ (some (.int (I32 (oqV (isD σ d && isC σ c) (dA (up σ 84 0 0) d c))))) (oqS (isD σ d && isC σ c) σ) := by
  have hP0 : PI (up σ 84 0 0) := hP
  obtain ⟨hC1, hC2, hC3, hC4, hC5, hC6⟩ := id hP.1
  obtain ⟨hM1, hM2⟩ := id hP.2.2.2.1
  refine Ct.of (by decide +kernel) (Nat.le_of_ble_eq_true rfl) (fun f => ?_)
  show AW _ _ _ _ _ _ _ _ _ _ [(0, _), (1, _), (2, _)] _ _
  refine A_aload_n dX11_at_0 rfl 0 rfl ?_
  refine A_iconst dX11_at_1 ?_
  refine A_puti fl_X11_96 lk_84 rfl dX11_at_2 ?_
  refine A_aload_n dX11_at_5 rfl 0 rfl ?_
  refine A_iload_n dX11_at_6 rfl 1 rfl ?_
  refine A_Va1 mv_X11_391 lk_84 rfl rfl (c_X11_isDay _) (Nat.le_of_ble_eq_true rfl) (by omega) (by omega) dX11_at_7 ?_
  refine A_ifeq_b (tgt := 30) dX11_at_10 (by decide) (fun h10 => ?_) (fun h10 => ?_)
  · refine A_aload_n dX11_at_30 rfl 0 rfl ?_
    refine A_iconst dX11_at_31 ?_
    refine A_Va1 mv_X11_102 lk_84 rfl rfl (c_X11_no _ _) (Nat.le_of_ble_eq_true rfl) (by omega) (by omega) dX11_at_32 ?_
    exact A_iret dX11_at_35 (by first | (rw [oq_t (and_t (show isD σ d = _ from h10) (show isC σ c = _ from h18))]; done) | (rw [oq_f (and_f1 (show isD σ d = _ from h10))]; done) | (rw [oq_f (and_f2 (show isC σ c = _ from h18))]; done)) (by first | (rw [oqS_t (and_t (show isD σ d = _ from h10) (show isC σ c = _ from h18))]; done) | (rw [oqS_f (and_f1 (show isD σ d = _ from h10))]; done) | (rw [oqS_f (and_f2 (show isC σ c = _ from h18))]; done))
  · have hb10 := inR_t (hi := σ 84 39 - 1) hx inr_0 ⟨by omega, by omega⟩ h10
    refine A_aload_n dX11_at_13 rfl 0 rfl ?_
    refine A_iload_n dX11_at_14 rfl 2 rfl ?_
    refine A_Va1 mv_X11_353 lk_84 rfl rfl (c_X11_isChoice _) (Nat.le_of_ble_eq_true rfl) (by omega) (by omega) dX11_at_15 ?_
    refine A_ifeq_b (tgt := 30) dX11_at_18 (by decide) (fun h18 => ?_) (fun h18 => ?_)
    · refine A_aload_n dX11_at_30 rfl 0 rfl ?_
      refine A_iconst dX11_at_31 ?_
      refine A_Va1 mv_X11_102 lk_84 rfl rfl (c_X11_no _ _) (Nat.le_of_ble_eq_true rfl) (by omega) (by omega) dX11_at_32 ?_
      exact A_iret dX11_at_35 (by first | (rw [oq_t (and_t (show isD σ d = _ from h10) (show isC σ c = _ from h18))]; done) | (rw [oq_f (and_f1 (show isD σ d = _ from h10))]; done) | (rw [oq_f (and_f2 (show isC σ c = _ from h18))]; done)) (by first | (rw [oqS_t (and_t (show isD σ d = _ from h10) (show isC σ c = _ from h18))]; done) | (rw [oqS_f (and_f1 (show isD σ d = _ from h10))]; done) | (rw [oqS_f (and_f2 (show isC σ c = _ from h18))]; done))
    · have hb18 := inR_t (hi := σ 84 25 - 1) hy inr_0 ⟨by omega, by omega⟩ h18
      refine A_aload_n dX11_at_21 rfl 0 rfl ?_
      refine A_iload_n dX11_at_22 rfl 1 rfl ?_
      refine A_iload_n dX11_at_23 rfl 2 rfl ?_
      refine A_Va2 mv_X11_362 lk_84 rfl rfl (c_X11_dishAt d c ⟨by omega, by omega⟩ ⟨by omega, by omega⟩) (Nat.le_of_ble_eq_true rfl) (by omega) (by omega) dX11_at_24 ?_
      refine A_goto (tgt := 35) dX11_at_27 (by decide) ?_
      exact A_iret dX11_at_35 (by first | (rw [oq_t (and_t (show isD σ d = _ from h10) (show isC σ c = _ from h18))]; done) | (rw [oq_f (and_f1 (show isD σ d = _ from h10))]; done) | (rw [oq_f (and_f2 (show isC σ c = _ from h18))]; done)) (by first | (rw [oqS_t (and_t (show isD σ d = _ from h10) (show isC σ c = _ from h18))]; done) | (rw [oqS_f (and_f1 (show isD σ d = _ from h10))]; done) | (rw [oqS_f (and_f2 (show isC σ c = _ from h18))]; done))
set_option maxRecDepth 100000 in
set_option maxHeartbeats 4000000 in
theorem c_X11_set (d c x : Int) (hP : PI σ) (hx : inr d) (hy : inr c) (hz : inr x) : Ct l G yX11_set cX11_set 5 (some .int) 2 0 0 [.ref (lay G 84), .int (I32 d), .int (I32 c), .int (I32 x)] σ (some (.int (I32 (seRV σ d c x)))) (seRS σ d c x) := by
  have hP0 : PI (up σ 84 0 0) := hP
  obtain ⟨hC1, hC2, hC3, hC4, hC5, hC6⟩ := id hP.1
  obtain ⟨hM1, hM2⟩ := id hP.2.2.2.1
  refine Ct.of (by decide +kernel) (Nat.le_of_ble_eq_true rfl) (fun f => ?_)
  show AW _ _ _ _ _ _ _ _ _ _ [(0, _), (1, _), (2, _), (3, _)] _ _
  refine A_aload_n dX11_set_0 rfl 0 rfl ?_
  refine A_iconst dX11_set_1 ?_
  refine A_puti fl_X11_96 lk_84 rfl dX11_set_2 ?_
  refine A_aload_n dX11_set_5 rfl 0 rfl ?_
  refine A_iload_n dX11_set_6 rfl 1 rfl ?_
  refine A_Va1 mv_X11_391 lk_84 rfl rfl (c_X11_isDay _) (Nat.le_of_ble_eq_true rfl) (by omega) (by omega) dX11_set_7 ?_
  refine A_ifeq_b (tgt := 35) dX11_set_10 (by decide) (fun h10 => ?_) (fun h10 => ?_)
  · refine A_aload_n dX11_set_35 rfl 0 rfl ?_
    refine A_iconst dX11_set_36 ?_
    refine A_Va1 mv_X11_102 lk_84 rfl rfl (c_X11_no _ _) (Nat.le_of_ble_eq_true rfl) (by omega) (by omega) dX11_set_37 ?_
    exact A_iret dX11_set_40 (by unfold seRV; first | (rw [if_pos ⟨h10, h18, h32⟩, if_pos (Or.inl h43)]; rfl) | (rw [if_pos ⟨h10, h18, h32⟩, if_pos (Or.inr h56)]; rfl) | (rw [if_pos ⟨h10, h18, h32⟩, if_neg (fun z => z.elim h43 (fun z => z h56))]; done) | (rw [if_neg (fun z => absurd (z.1.symm.trans h10) (by decide))]; done) | (rw [if_neg (fun z => absurd (z.2.1.symm.trans h18) (by decide))]; done) | (rw [if_neg (fun z => absurd (z.2.2.symm.trans h32) (by decide))]; done)) (by unfold seRS; first | (rw [if_pos ⟨h10, h18, h32⟩, if_pos (Or.inl h43)]; rfl) | (rw [if_pos ⟨h10, h18, h32⟩, if_pos (Or.inr h56)]; rfl) | (rw [if_pos ⟨h10, h18, h32⟩, if_neg (fun z => z.elim h43 (fun z => z h56))]; done) | (rw [if_neg (fun z => absurd (z.1.symm.trans h10) (by decide))]; done) | (rw [if_neg (fun z => absurd (z.2.1.symm.trans h18) (by decide))]; done) | (rw [if_neg (fun z => absurd (z.2.2.symm.trans h32) (by decide))]; done))
  · have hb10 := inR_t (hi := σ 84 39 - 1) hx inr_0 ⟨by omega, by omega⟩ h10
    refine A_aload_n dX11_set_13 rfl 0 rfl ?_
    refine A_iload_n dX11_set_14 rfl 2 rfl ?_
    refine A_Va1 mv_X11_353 lk_84 rfl rfl (c_X11_isChoice _) (Nat.le_of_ble_eq_true rfl) (by omega) (by omega) dX11_set_15 ?_
    refine A_ifeq_b (tgt := 35) dX11_set_18 (by decide) (fun h18 => ?_) (fun h18 => ?_)
    · refine A_aload_n dX11_set_35 rfl 0 rfl ?_
      refine A_iconst dX11_set_36 ?_
      refine A_Va1 mv_X11_102 lk_84 rfl rfl (c_X11_no _ _) (Nat.le_of_ble_eq_true rfl) (by omega) (by omega) dX11_set_37 ?_
      exact A_iret dX11_set_40 (by unfold seRV; first | (rw [if_pos ⟨h10, h18, h32⟩, if_pos (Or.inl h43)]; rfl) | (rw [if_pos ⟨h10, h18, h32⟩, if_pos (Or.inr h56)]; rfl) | (rw [if_pos ⟨h10, h18, h32⟩, if_neg (fun z => z.elim h43 (fun z => z h56))]; done) | (rw [if_neg (fun z => absurd (z.1.symm.trans h10) (by decide))]; done) | (rw [if_neg (fun z => absurd (z.2.1.symm.trans h18) (by decide))]; done) | (rw [if_neg (fun z => absurd (z.2.2.symm.trans h32) (by decide))]; done)) (by unfold seRS; first | (rw [if_pos ⟨h10, h18, h32⟩, if_pos (Or.inl h43)]; rfl) | (rw [if_pos ⟨h10, h18, h32⟩, if_pos (Or.inr h56)]; rfl) | (rw [if_pos ⟨h10, h18, h32⟩, if_neg (fun z => z.elim h43 (fun z => z h56))]; done) | (rw [if_neg (fun z => absurd (z.1.symm.trans h10) (by decide))]; done) | (rw [if_neg (fun z => absurd (z.2.1.symm.trans h18) (by decide))]; done) | (rw [if_neg (fun z => absurd (z.2.2.symm.trans h32) (by decide))]; done))
    · have hb18 := inR_t (hi := σ 84 25 - 1) hy inr_0 ⟨by omega, by omega⟩ h18
      refine A_iload_n dX11_set_21 rfl 3 rfl ?_
      refine A_iconst dX11_set_22 ?_
      refine A_aload_n dX11_set_23 rfl 0 rfl ?_
      refine A_geti fl_X11_247 lk_84 rfl dX11_set_24 ?_
      try simp (disch := omega) only [up_k, up_j, up_s]
      refine A_iconst dX11_set_27 ?_
      refine A_isub dX11_set_28 ?_
      refine A_Sa3 ms_X11_106 (c_X11_isIn _ _ _ _) (Nat.le_of_ble_eq_true rfl) (by omega) (by omega) dX11_set_29 ?_
      refine A_ifne_b (tgt := 41) dX11_set_32 (by decide) (fun h32 => ?_) (fun h32 => ?_)
      · have hb32 := inR_t hz (by exact ⟨by decide, by decide⟩) ⟨by omega, by omega⟩ h32
        refine A_iload_n dX11_set_41 rfl 3 rfl ?_
        refine A_iconst dX11_set_42 ?_
        refine J_icmp_eq (tgt := 65) dX11_set_43 (by decide) (by first | exact i32_eq (by assumption) | with_reducible exact hfV_i32 _ | with_reducible exact afV_i32 _ | with_reducible exact mnIn_i32 _ _ _ | with_reducible exact tiV_i32 _ | exact i32_eq ⟨by omega, by omega⟩ | with_reducible exact i32_i32 _ | with_reducible exact i32_eq (b2i_inr _) | with_reducible exact iand_i32 _ _ | rfl) (by first | exact i32_eq (by assumption) | with_reducible exact hfV_i32 _ | with_reducible exact afV_i32 _ | with_reducible exact mnIn_i32 _ _ _ | with_reducible exact tiV_i32 _ | exact i32_eq ⟨by omega, by omega⟩ | with_reducible exact i32_i32 _ | with_reducible exact i32_eq (b2i_inr _) | with_reducible exact iand_i32 _ _ | rfl) (fun h43 => ?_) (fun h43 => ?_)
        · refine A_aload_n dX11_set_65 rfl 0 rfl ?_
          refine A_iload_n dX11_set_66 rfl 1 rfl ?_
          refine A_iload_n dX11_set_67 rfl 2 rfl ?_
          refine A_Va2 mv_X11_362 lk_84 rfl rfl (c_X11_dishAt d c ⟨by omega, by omega⟩ ⟨by omega, by omega⟩) (Nat.le_of_ble_eq_true rfl) (by omega) (by omega) dX11_set_68 ?_
          refine A_istore (lv2 := [(4, _), (0, _), (1, _), (2, _), (3, _)]) dX11_set_71 (by decide) rfl ?_
          refine A_aload_n dX11_set_73 rfl 1 rfl ?_
          refine A_getr fl_X11_93 lk_84 rfl dX11_set_74 ?_
          refine A_bipush dX11_set_77 (by decide +kernel) ?_
          refine A_iload_n dX11_set_79 rfl 2 rfl ?_
          refine A_imul dX11_set_80 ?_
          refine A_iload_n dX11_set_81 rfl 3 rfl ?_
          refine A_iadd dX11_set_82 ?_
          refine A_iload_n dX11_set_83 rfl 4 rfl ?_
          refine J_iast lk_111 (by first | exact i32_eq (by assumption) | with_reducible exact hfV_i32 _ | with_reducible exact afV_i32 _ | with_reducible exact mnIn_i32 _ _ _ | with_reducible exact tiV_i32 _ | exact i32_eq ⟨by omega, by omega⟩ | with_reducible exact i32_i32 _ | with_reducible exact i32_eq (b2i_inr _) | with_reducible exact iand_i32 _ _ | rfl) (by omega) (by omega) (by decide) dX11_set_84 ?_
          refine A_iload dX11_set_85 0 rfl ?_
          exact A_iret dX11_set_87 (by unfold seRV; first | (rw [if_pos ⟨h10, h18, h32⟩, if_pos (Or.inl h43)]; rfl) | (rw [if_pos ⟨h10, h18, h32⟩, if_pos (Or.inr h56)]; rfl) | (rw [if_pos ⟨h10, h18, h32⟩, if_neg (fun z => z.elim h43 (fun z => z h56))]; done) | (rw [if_neg (fun z => absurd (z.1.symm.trans h10) (by decide))]; done) | (rw [if_neg (fun z => absurd (z.2.1.symm.trans h18) (by decide))]; done) | (rw [if_neg (fun z => absurd (z.2.2.symm.trans h32) (by decide))]; done)) (by unfold seRS; first | (rw [if_pos ⟨h10, h18, h32⟩, if_pos (Or.inl h43)]; rfl) | (rw [if_pos ⟨h10, h18, h32⟩, if_pos (Or.inr h56)]; rfl) | (rw [if_pos ⟨h10, h18, h32⟩, if_neg (fun z => z.elim h43 (fun z => z h56))]; done) | (rw [if_neg (fun z => absurd (z.1.symm.trans h10) (by decide))]; done) | (rw [if_neg (fun z => absurd (z.2.1.symm.trans h18) (by decide))]; done) | (rw [if_neg (fun z => absurd (z.2.2.symm.trans h32) (by decide))]; done))
        · refine A_aload_n dX11_set_46 rfl 0 rfl ?_
          refine A_getr fl_X11_66 lk_84 rfl dX11_set_47 ?_
          refine A_iload_n dX11_set_50 rfl 2 rfl ?_
          refine J_iald lk_102 (by first | exact i32_eq (by assumption) | with_reducible exact hfV_i32 _ | with_reducible exact afV_i32 _ | with_reducible exact mnIn_i32 _ _ _ | with_reducible exact tiV_i32 _ | exact i32_eq ⟨by omega, by omega⟩ | with_reducible exact i32_i32 _ | with_reducible exact i32_eq (b2i_inr _) | with_reducible exact iand_i32 _ _ | rfl) (by omega) (by omega) (by decide) dX11_set_51 ?_
          try simp (disch := omega) only [up_k, up_j, up_s]
          refine A_iload_n dX11_set_52 rfl 3 rfl ?_
          refine A_ishr dX11_set_53 ?_
          refine A_iconst dX11_set_54 ?_
          refine A_iand dX11_set_55 ?_
          refine J_if_ne (tgt := 65) dX11_set_56 (by decide) (by first | exact i32_eq (by assumption) | with_reducible exact hfV_i32 _ | with_reducible exact afV_i32 _ | with_reducible exact mnIn_i32 _ _ _ | with_reducible exact tiV_i32 _ | exact i32_eq ⟨by omega, by omega⟩ | with_reducible exact i32_i32 _ | with_reducible exact i32_eq (b2i_inr _) | with_reducible exact iand_i32 _ _ | rfl) (fun h56 => ?_) (fun h56 => ?_)
          · refine A_aload_n dX11_set_65 rfl 0 rfl ?_
            refine A_iload_n dX11_set_66 rfl 1 rfl ?_
            refine A_iload_n dX11_set_67 rfl 2 rfl ?_
            refine A_Va2 mv_X11_362 lk_84 rfl rfl (c_X11_dishAt d c ⟨by omega, by omega⟩ ⟨by omega, by omega⟩) (Nat.le_of_ble_eq_true rfl) (by omega) (by omega) dX11_set_68 ?_
            refine A_istore (lv2 := [(4, _), (0, _), (1, _), (2, _), (3, _)]) dX11_set_71 (by decide) rfl ?_
            refine A_aload_n dX11_set_73 rfl 1 rfl ?_
            refine A_getr fl_X11_93 lk_84 rfl dX11_set_74 ?_
            refine A_bipush dX11_set_77 (by decide +kernel) ?_
            refine A_iload_n dX11_set_79 rfl 2 rfl ?_
            refine A_imul dX11_set_80 ?_
            refine A_iload_n dX11_set_81 rfl 3 rfl ?_
            refine A_iadd dX11_set_82 ?_
            refine A_iload_n dX11_set_83 rfl 4 rfl ?_
            refine J_iast lk_111 (by first | exact i32_eq (by assumption) | with_reducible exact hfV_i32 _ | with_reducible exact afV_i32 _ | with_reducible exact mnIn_i32 _ _ _ | with_reducible exact tiV_i32 _ | exact i32_eq ⟨by omega, by omega⟩ | with_reducible exact i32_i32 _ | with_reducible exact i32_eq (b2i_inr _) | with_reducible exact iand_i32 _ _ | rfl) (by omega) (by omega) (by decide) dX11_set_84 ?_
            refine A_iload dX11_set_85 0 rfl ?_
            exact A_iret dX11_set_87 (by unfold seRV; first | (rw [if_pos ⟨h10, h18, h32⟩, if_pos (Or.inl h43)]; rfl) | (rw [if_pos ⟨h10, h18, h32⟩, if_pos (Or.inr h56)]; rfl) | (rw [if_pos ⟨h10, h18, h32⟩, if_neg (fun z => z.elim h43 (fun z => z h56))]; done) | (rw [if_neg (fun z => absurd (z.1.symm.trans h10) (by decide))]; done) | (rw [if_neg (fun z => absurd (z.2.1.symm.trans h18) (by decide))]; done) | (rw [if_neg (fun z => absurd (z.2.2.symm.trans h32) (by decide))]; done)) (by unfold seRS; first | (rw [if_pos ⟨h10, h18, h32⟩, if_pos (Or.inl h43)]; rfl) | (rw [if_pos ⟨h10, h18, h32⟩, if_pos (Or.inr h56)]; rfl) | (rw [if_pos ⟨h10, h18, h32⟩, if_neg (fun z => z.elim h43 (fun z => z h56))]; done) | (rw [if_neg (fun z => absurd (z.1.symm.trans h10) (by decide))]; done) | (rw [if_neg (fun z => absurd (z.2.1.symm.trans h18) (by decide))]; done) | (rw [if_neg (fun z => absurd (z.2.2.symm.trans h32) (by decide))]; done))
          · refine A_aload_n dX11_set_59 rfl 0 rfl ?_
            refine A_iconst dX11_set_60 ?_
            refine A_Va1 mv_X11_102 lk_84 rfl rfl (c_X11_no _ _) (Nat.le_of_ble_eq_true rfl) (by omega) (by omega) dX11_set_61 ?_
            exact A_iret dX11_set_64 (by unfold seRV; first | (rw [if_pos ⟨h10, h18, h32⟩, if_pos (Or.inl h43)]; rfl) | (rw [if_pos ⟨h10, h18, h32⟩, if_pos (Or.inr h56)]; rfl) | (rw [if_pos ⟨h10, h18, h32⟩, if_neg (fun z => z.elim h43 (fun z => z h56))]; done) | (rw [if_neg (fun z => absurd (z.1.symm.trans h10) (by decide))]; done) | (rw [if_neg (fun z => absurd (z.2.1.symm.trans h18) (by decide))]; done) | (rw [if_neg (fun z => absurd (z.2.2.symm.trans h32) (by decide))]; done)) (by unfold seRS; first | (rw [if_pos ⟨h10, h18, h32⟩, if_pos (Or.inl h43)]; rfl) | (rw [if_pos ⟨h10, h18, h32⟩, if_pos (Or.inr h56)]; rfl) | (rw [if_pos ⟨h10, h18, h32⟩, if_neg (fun z => z.elim h43 (fun z => z h56))]; done) | (rw [if_neg (fun z => absurd (z.1.symm.trans h10) (by decide))]; done) | (rw [if_neg (fun z => absurd (z.2.1.symm.trans h18) (by decide))]; done) | (rw [if_neg (fun z => absurd (z.2.2.symm.trans h32) (by decide))]; done))
      · refine A_aload_n dX11_set_35 rfl 0 rfl ?_
        refine A_iconst dX11_set_36 ?_
        refine A_Va1 mv_X11_102 lk_84 rfl rfl (c_X11_no _ _) (Nat.le_of_ble_eq_true rfl) (by omega) (by omega) dX11_set_37 ?_
        exact A_iret dX11_set_40 (by unfold seRV; first | (rw [if_pos ⟨h10, h18, h32⟩, if_pos (Or.inl h43)]; rfl) | (rw [if_pos ⟨h10, h18, h32⟩, if_pos (Or.inr h56)]; rfl) | (rw [if_pos ⟨h10, h18, h32⟩, if_neg (fun z => z.elim h43 (fun z => z h56))]; done) | (rw [if_neg (fun z => absurd (z.1.symm.trans h10) (by decide))]; done) | (rw [if_neg (fun z => absurd (z.2.1.symm.trans h18) (by decide))]; done) | (rw [if_neg (fun z => absurd (z.2.2.symm.trans h32) (by decide))]; done)) (by unfold seRS; first | (rw [if_pos ⟨h10, h18, h32⟩, if_pos (Or.inl h43)]; rfl) | (rw [if_pos ⟨h10, h18, h32⟩, if_pos (Or.inr h56)]; rfl) | (rw [if_pos ⟨h10, h18, h32⟩, if_neg (fun z => z.elim h43 (fun z => z h56))]; done) | (rw [if_neg (fun z => absurd (z.1.symm.trans h10) (by decide))]; done) | (rw [if_neg (fun z => absurd (z.2.1.symm.trans h18) (by decide))]; done) | (rw [if_neg (fun z => absurd (z.2.2.symm.trans h32) (by decide))]; done))
set_option maxRecDepth 100000 in
set_option maxHeartbeats 4000000 in
theorem c_X11_faultsOf (x : Int) (hP : PI σ) (hx : inr x) : Ct l G yX11_faultsOf cX11_faultsOf 2 (some .int) 4 0 0 [.ref (lay G 84), .int (I32 x)] σ (some (.int (I32 (oqV (inR x 0 (σ 84 30 - 1)) (ruV (up σ 84 0 0) x))))) (oqS (inR x 0 (σ 84 30 - 1)) σ) := by
  have hP0 : PI (up σ 84 0 0) := hP
  obtain ⟨hC1, hC2, hC3, hC4, hC5, hC6⟩ := id hP.1
  obtain ⟨hM1, hM2⟩ := id hP.2.2.2.1
  refine Ct.of (by decide +kernel) (Nat.le_of_ble_eq_true rfl) (fun f => ?_)
  show AW _ _ _ _ _ _ _ _ _ _ [(0, _), (1, _)] _ _
  refine A_aload_n dX11_faultsOf_0 rfl 0 rfl ?_
  refine A_iconst dX11_faultsOf_1 ?_
  refine A_puti fl_X11_96 lk_84 rfl dX11_faultsOf_2 ?_
  refine A_iload_n dX11_faultsOf_5 rfl 1 rfl ?_
  refine A_iconst dX11_faultsOf_6 ?_
  refine A_aload_n dX11_faultsOf_7 rfl 0 rfl ?_
  refine A_geti fl_X11_298 lk_84 rfl dX11_faultsOf_8 ?_
  try simp (disch := omega) only [up_k, up_j, up_s]
  refine A_iconst dX11_faultsOf_11 ?_
  refine A_isub dX11_faultsOf_12 ?_
  refine A_Sa3 ms_X11_106 (c_X11_isIn _ _ _ _) (Nat.le_of_ble_eq_true rfl) (by omega) (by omega) dX11_faultsOf_13 ?_
  refine A_ifeq_b (tgt := 27) dX11_faultsOf_16 (by decide) (fun h16 => ?_) (fun h16 => ?_)
  · refine A_aload_n dX11_faultsOf_27 rfl 0 rfl ?_
    refine A_iconst dX11_faultsOf_28 ?_
    refine A_Va1 mv_X11_102 lk_84 rfl rfl (c_X11_no _ _) (Nat.le_of_ble_eq_true rfl) (by omega) (by omega) dX11_faultsOf_29 ?_
    exact A_iret dX11_faultsOf_32 (by first | (rw [oq_t h16]; done) | (rw [oq_f h16]; done)) (by first | (rw [oqS_t h16]; done) | (rw [oqS_f h16]; done))
  · have hb16 := inR_t hx inr_0 ⟨by omega, by omega⟩ h16
    refine A_aload_n dX11_faultsOf_19 rfl 0 rfl ?_
    refine A_iload_n dX11_faultsOf_20 rfl 1 rfl ?_
    refine A_Va1 mv_X11_376 lk_84 rfl rfl (c_X11_ruleFaults x hP0 ⟨by omega, by show x < σ 84 30; omega⟩) (Nat.le_of_ble_eq_true rfl) (by omega) (by omega) dX11_faultsOf_21 ?_
    refine A_goto (tgt := 32) dX11_faultsOf_24 (by decide) ?_
    exact A_iret dX11_faultsOf_32 (by first | (rw [oq_t h16]; done) | (rw [oq_f h16]; done)) (by first | (rw [oqS_t h16]; done) | (rw [oqS_f h16]; done))
set_option maxRecDepth 100000 in
set_option maxHeartbeats 4000000 in
theorem c_X11_times (x : Int) (hP : PI σ) (hx : inr x) : Ct l G yX11_times cX11_times 2 (some .int) 4 0 0 [.ref (lay G 84), .int (I32 x)] σ (some (.int (I32 (oqV (inR x 0 (σ 84 15 - 1)) (tiV (up σ 84 0 0) x))))) (oqS (inR x 0 (σ 84 15 - 1)) σ) := by
  have hP0 : PI (up σ 84 0 0) := hP
  obtain ⟨hC1, hC2, hC3, hC4, hC5, hC6⟩ := id hP.1
  obtain ⟨hM1, hM2⟩ := id hP.2.2.2.1
  refine Ct.of (by decide +kernel) (Nat.le_of_ble_eq_true rfl) (fun f => ?_)
  show AW _ _ _ _ _ _ _ _ _ _ [(0, _), (1, _)] _ _
  refine A_aload_n dX11_times_0 rfl 0 rfl ?_
  refine A_iconst dX11_times_1 ?_
  refine A_puti fl_X11_96 lk_84 rfl dX11_times_2 ?_
  refine A_iload_n dX11_times_5 rfl 1 rfl ?_
  refine A_iconst dX11_times_6 ?_
  refine A_aload_n dX11_times_7 rfl 0 rfl ?_
  refine A_geti fl_X11_247 lk_84 rfl dX11_times_8 ?_
  try simp (disch := omega) only [up_k, up_j, up_s]
  refine A_iconst dX11_times_11 ?_
  refine A_isub dX11_times_12 ?_
  refine A_Sa3 ms_X11_106 (c_X11_isIn _ _ _ _) (Nat.le_of_ble_eq_true rfl) (by omega) (by omega) dX11_times_13 ?_
  refine A_ifeq_b (tgt := 27) dX11_times_16 (by decide) (fun h16 => ?_) (fun h16 => ?_)
  · refine A_aload_n dX11_times_27 rfl 0 rfl ?_
    refine A_iconst dX11_times_28 ?_
    refine A_Va1 mv_X11_102 lk_84 rfl rfl (c_X11_no _ _) (Nat.le_of_ble_eq_true rfl) (by omega) (by omega) dX11_times_29 ?_
    exact A_iret dX11_times_32 (by first | (rw [oq_t h16]; done) | (rw [oq_f h16]; done)) (by first | (rw [oqS_t h16]; done) | (rw [oqS_f h16]; done))
  · have hb16 := inR_t hx inr_0 ⟨by omega, by omega⟩ h16
    refine A_aload_n dX11_times_19 rfl 0 rfl ?_
    refine A_iload_n dX11_times_20 rfl 1 rfl ?_
    refine A_Va1 mv_X11_382 lk_84 rfl rfl (c_X11_timesOf x hx hP0) (Nat.le_of_ble_eq_true rfl) (by omega) (by omega) dX11_times_21 ?_
    refine A_goto (tgt := 32) dX11_times_24 (by decide) ?_
    exact A_iret dX11_times_32 (by first | (rw [oq_t h16]; done) | (rw [oq_f h16]; done)) (by first | (rw [oqS_t h16]; done) | (rw [oqS_f h16]; done))
set_option maxRecDepth 100000 in
set_option maxHeartbeats 4000000 in
theorem c_X11_day (d : Int) (p : Bool) (hP : PI σ) (hx : inr d) : Ct l G yX11_day cX11_day 3 (some .int) 2 0 0 [.ref (lay G 84), .int (I32 d), .int (I32 (b2i p))] σ (some (.int (I32 (oqV (isD σ d) (suV2 (up σ 84 0 0) d p))))) (oqS (isD σ d) σ) := by
  have hP0 : PI (up σ 84 0 0) := hP
  obtain ⟨hC1, hC2, hC3, hC4, hC5, hC6⟩ := id hP.1
  obtain ⟨hM1, hM2⟩ := id hP.2.2.2.1
  refine Ct.of (by decide +kernel) (Nat.le_of_ble_eq_true rfl) (fun f => ?_)
  show AW _ _ _ _ _ _ _ _ _ _ [(0, _), (1, _), (2, _)] _ _
  refine A_aload_n dX11_day_0 rfl 0 rfl ?_
  refine A_iconst dX11_day_1 ?_
  refine A_puti fl_X11_96 lk_84 rfl dX11_day_2 ?_
  refine A_aload_n dX11_day_5 rfl 0 rfl ?_
  refine A_iload_n dX11_day_6 rfl 1 rfl ?_
  refine A_Va1 mv_X11_391 lk_84 rfl rfl (c_X11_isDay _) (Nat.le_of_ble_eq_true rfl) (by omega) (by omega) dX11_day_7 ?_
  refine A_ifeq_b (tgt := 22) dX11_day_10 (by decide) (fun h10 => ?_) (fun h10 => ?_)
  · refine A_aload_n dX11_day_22 rfl 0 rfl ?_
    refine A_iconst dX11_day_23 ?_
    refine A_Va1 mv_X11_102 lk_84 rfl rfl (c_X11_no _ _) (Nat.le_of_ble_eq_true rfl) (by omega) (by omega) dX11_day_24 ?_
    exact A_iret dX11_day_27 (by first | (rw [oq_t (show isD σ d = _ from h10)]; done) | (rw [oq_f (show isD σ d = _ from h10)]; done)) (by first | (rw [oqS_t (show isD σ d = _ from h10)]; done) | (rw [oqS_f (show isD σ d = _ from h10)]; done))
  · have hb10 := inR_t (hi := σ 84 39 - 1) hx inr_0 ⟨by omega, by omega⟩ h10
    refine A_aload_n dX11_day_13 rfl 0 rfl ?_
    refine A_iload_n dX11_day_14 rfl 1 rfl ?_
    refine A_iload_n dX11_day_15 rfl 2 rfl ?_
    refine A_Va2 mv_X11_368 lk_84 rfl rfl (c_X11_sumOf d p hP0 ⟨by omega, by show d < σ 84 39; omega⟩) (Nat.le_of_ble_eq_true rfl) (by omega) (by omega) dX11_day_16 ?_
    refine A_goto (tgt := 27) dX11_day_19 (by decide) ?_
    exact A_iret dX11_day_27 (by first | (rw [oq_t (show isD σ d = _ from h10)]; done) | (rw [oq_f (show isD σ d = _ from h10)]; done)) (by first | (rw [oqS_t (show isD σ d = _ from h10)]; done) | (rw [oqS_f (show isD σ d = _ from h10)]; done))
set_option maxRecDepth 100000 in
set_option maxHeartbeats 4000000 in
theorem c_X11_counted (w : Int) (hw : 0 ≤ w ∧ w < 8) : Ct l G yX11_counted cX11_counted 3 (some .int) 0 1 8 [.ref (lay G 84), .int (I32 w)] σ (some (.int (I32 (cnV σ w)))) (σ) := by
  refine Ct.of (by decide +kernel) (Nat.le_of_ble_eq_true rfl) (fun f => ?_)
  show AW _ _ _ _ _ _ _ _ _ _ [(0, _), (1, _)] _ _
  refine A_bipush dX11_counted_0 (by decide +kernel) ?_
  refine A_newaT (N := 8) (by decide) (by decide) (by decide) (by omega) dX11_counted_2 (fun a2 c2 hKA2 => ?_)
  refine A_dup dX11_counted_4 rfl ?_
  refine A_iconst dX11_counted_5 ?_
  refine A_aload_n dX11_counted_6 rfl 0 rfl ?_
  refine A_geti fl_X11_240 lk_84 rfl dX11_counted_7 ?_
  refine A_iastT (q := 0) rfl hKA2 (by first | exact i32_eq ⟨by omega, by omega⟩ | (exact i32_eq ⟨by decide, by decide⟩)) (by omega) (by omega) (by decide) dX11_counted_10 ?_
  refine A_dup dX11_counted_11 rfl ?_
  refine A_iconst dX11_counted_12 ?_
  refine A_aload_n dX11_counted_13 rfl 0 rfl ?_
  refine A_geti fl_X11_247 lk_84 rfl dX11_counted_14 ?_
  refine A_iastT (q := 0) rfl hKA2 (by first | exact i32_eq ⟨by omega, by omega⟩ | (exact i32_eq ⟨by decide, by decide⟩)) (by omega) (by omega) (by decide) dX11_counted_17 ?_
  refine A_dup dX11_counted_18 rfl ?_
  refine A_iconst dX11_counted_19 ?_
  refine A_aload_n dX11_counted_20 rfl 0 rfl ?_
  refine A_geti fl_X11_250 lk_84 rfl dX11_counted_21 ?_
  refine A_iastT (q := 0) rfl hKA2 (by first | exact i32_eq ⟨by omega, by omega⟩ | (exact i32_eq ⟨by decide, by decide⟩)) (by omega) (by omega) (by decide) dX11_counted_24 ?_
  refine A_dup dX11_counted_25 rfl ?_
  refine A_iconst dX11_counted_26 ?_
  refine A_aload_n dX11_counted_27 rfl 0 rfl ?_
  refine A_geti fl_X11_289 lk_84 rfl dX11_counted_28 ?_
  refine A_iastT (q := 0) rfl hKA2 (by first | exact i32_eq ⟨by omega, by omega⟩ | (exact i32_eq ⟨by decide, by decide⟩)) (by omega) (by omega) (by decide) dX11_counted_31 ?_
  refine A_dup dX11_counted_32 rfl ?_
  refine A_iconst dX11_counted_33 ?_
  refine A_aload_n dX11_counted_34 rfl 0 rfl ?_
  refine A_geti fl_X11_298 lk_84 rfl dX11_counted_35 ?_
  refine A_iastT (q := 0) rfl hKA2 (by first | exact i32_eq ⟨by omega, by omega⟩ | (exact i32_eq ⟨by decide, by decide⟩)) (by omega) (by omega) (by decide) dX11_counted_38 ?_
  refine A_dup dX11_counted_39 rfl ?_
  refine A_iconst dX11_counted_40 ?_
  refine A_aload_n dX11_counted_41 rfl 0 rfl ?_
  refine A_geti fl_X11_269 lk_84 rfl dX11_counted_42 ?_
  refine A_iastT (q := 0) rfl hKA2 (by first | exact i32_eq ⟨by omega, by omega⟩ | (exact i32_eq ⟨by decide, by decide⟩)) (by omega) (by omega) (by decide) dX11_counted_45 ?_
  refine A_dup dX11_counted_46 rfl ?_
  refine A_bipush dX11_counted_47 (by decide +kernel) ?_
  refine A_aload_n dX11_counted_49 rfl 0 rfl ?_
  refine A_geti fl_X11_320 lk_84 rfl dX11_counted_50 ?_
  refine A_iastT (q := 0) rfl hKA2 (by first | exact i32_eq ⟨by omega, by omega⟩ | (exact i32_eq ⟨by decide, by decide⟩)) (by omega) (by omega) (by decide) dX11_counted_53 ?_
  refine A_dup dX11_counted_54 rfl ?_
  refine A_bipush dX11_counted_55 (by decide +kernel) ?_
  refine A_aload_n dX11_counted_57 rfl 0 rfl ?_
  refine A_geti fl_X11_99 lk_84 rfl dX11_counted_58 ?_
  refine A_iastT (q := 0) rfl hKA2 (by first | exact i32_eq ⟨by omega, by omega⟩ | (exact i32_eq ⟨by decide, by decide⟩)) (by omega) (by omega) (by decide) dX11_counted_61 ?_
  refine A_astore_n (lv2 := [(2, _), (0, _), (1, _)]) dX11_counted_62 rfl (by decide) rfl ?_
  refine A_aload_n dX11_counted_63 rfl 0 rfl ?_
  refine A_iload_n dX11_counted_64 rfl 2 rfl ?_
  refine A_ialdT (q := 0) rfl hKA2 (by first | exact i32_eq ⟨by omega, by omega⟩ | (exact i32_eq ⟨by decide, by decide⟩)) (by omega) (by omega) (by decide) dX11_counted_65 ?_
  refine A_wid (k2 := 1) (n2 := 8) (by decide) (by decide) ?_
  exact A_iret dX11_counted_66 (by rfl) (by rfl)
set_option maxRecDepth 100000 in
set_option maxHeartbeats 4000000 in
theorem c_X11_count (w : Int) (hx : inr w) : Ct l G yX11_count cX11_count 2 (some .int) 1 1 8 [.ref (lay G 84), .int (I32 w)] σ (some (.int (I32 (oqV (inR w 0 7) (cnV (up σ 84 0 0) w))))) (oqS (inR w 0 7) σ) := by
  refine Ct.of (by decide +kernel) (Nat.le_of_ble_eq_true rfl) (fun f => ?_)
  show AW _ _ _ _ _ _ _ _ _ _ [(0, _), (1, _)] _ _
  refine A_aload_n dX11_count_0 rfl 0 rfl ?_
  refine A_iconst dX11_count_1 ?_
  refine A_puti fl_X11_96 lk_84 rfl dX11_count_2 ?_
  refine A_iload_n dX11_count_5 rfl 1 rfl ?_
  refine A_iconst dX11_count_6 ?_
  refine A_bipush dX11_count_7 (by decide +kernel) ?_
  refine A_Sa3 ms_X11_106 (c_X11_isIn _ _ _ _) (Nat.le_of_ble_eq_true rfl) (by omega) (by omega) dX11_count_9 ?_
  refine A_ifeq_b (tgt := 23) dX11_count_12 (by decide) (fun h12 => ?_) (fun h12 => ?_)
  · refine A_aload_n dX11_count_23 rfl 0 rfl ?_
    refine A_iconst dX11_count_24 ?_
    refine A_Va1 mv_X11_102 lk_84 rfl rfl (c_X11_no _ _) (Nat.le_of_ble_eq_true rfl) (by omega) (by omega) dX11_count_25 ?_
    refine A_wid (k2 := 1) (n2 := 8) (by decide) (by decide) ?_
    exact A_iret dX11_count_28 (by first | (rw [oq_t h12]; done) | (rw [oq_f h12]; done)) (by first | (rw [oqS_t h12]; done) | (rw [oqS_f h12]; done))
  · have hb12 := inR_t hx inr_0 ⟨by decide, by decide⟩ h12
    refine A_aload_n dX11_count_15 rfl 0 rfl ?_
    refine A_iload_n dX11_count_16 rfl 1 rfl ?_
    refine A_Vm1 (k2 := 1) (n2 := 8) mv_X11_338 lk_84 rfl rfl (c_X11_counted w ⟨by omega, by omega⟩) (Nat.le_of_ble_eq_true rfl) (by omega) (by omega) rfl rfl dX11_count_17 ?_
    refine A_goto (tgt := 28) dX11_count_20 (by decide) ?_
    refine A_wid (k2 := 1) (n2 := 8) (by decide) (by decide) ?_
    exact A_iret dX11_count_28 (by first | (rw [oq_t h12]; done) | (rw [oq_f h12]; done)) (by first | (rw [oqS_t h12]; done) | (rw [oqS_f h12]; done))
end S50
