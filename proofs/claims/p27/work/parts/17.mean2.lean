/-! MeaningReader: meals, tags, dishes, foods, programs -/
section S17
variable {l : Launch} {G : Gx}
set_option maxRecDepth 100000 in
set_option maxHeartbeats 4000000 in
theorem w_X2_readMeal {f : Fm} (v : Int) : ∀ (n : Nat) (i : Int) (σ : Sg) (r : Option Value) (σ1 : Sg), 0 ≤ i → i + n = 1500 → r = some (.int (I32 (b2i (mlE v (mlL n σ)).1))) → σ1 = (mlE v (mlL n σ)).2 → AW l G f (RX2, cX2_readMeal, 4, (some .boolean)) (5, 0, 0) (QT G f 0 0 r σ1) [] 0 0 56 [(3, .int (I32 i)), (0, .ref (lay G 51)), (1, .long (I64 v))] [] σ := by
  intro n
  induction n using Nat.strongRecOn with | _ n ih =>
  intro i σ r σ1 h0 hn hr hs
  refine A_iload_n dX2_readMeal_56 rfl 0 rfl ?_
  refine A_sipush dX2_readMeal_57 (by decide +kernel) ?_
  refine J_icmp_ge (tgt := 97) dX2_readMeal_60 (by decide) (by first | with_reducible exact i32_eq (KC_inr _ _) | with_reducible exact idxC_i32 _ _ _ | exact i32_eq (by assumption) | exact i32_eq ⟨by omega, by omega⟩ | with_reducible exact i32_i32 _ | rfl) (by first | with_reducible exact i32_eq (KC_inr _ _) | with_reducible exact idxC_i32 _ _ _ | exact i32_eq (by assumption) | exact i32_eq ⟨by omega, by omega⟩ | with_reducible exact i32_i32 _ | rfl) (fun h60 => ?_) (fun h60 => ?_)
  · refine A_aload_n dX2_readMeal_97 rfl 1 rfl ?_
    refine A_getr fl_X2_25 lk_51 rfl dX2_readMeal_98 ?_
    refine A_getr fl_X2_79 lk_9 rfl dX2_readMeal_101 ?_
    refine A_lload_n dX2_readMeal_104 rfl 2 rfl ?_
    refine A_Vv1 mv_X2_120 lk_14 rfl rfl (c_X4_add_14 _ _) (Nat.le_of_ble_eq_true rfl) (by omega) (by omega) dX2_readMeal_105 ?_
    try simp (disch := omega) only [KC_up, VC_up, idxC_up, eouC_up, up_k, up_j, up_s]
    refine A_aload_n dX2_readMeal_108 rfl 1 rfl ?_
    refine A_dup dX2_readMeal_109 rfl ?_
    refine A_geti fl_X2_33 lk_51 rfl dX2_readMeal_110 ?_
    try simp (disch := omega) only [up_k, up_j, up_s, KC_up, VC_up, idxC_up, eouC_up, up_k, up_j, up_s]
    refine A_iconst dX2_readMeal_113 ?_
    refine A_iadd dX2_readMeal_114 ?_
    refine A_puti fl_X2_33 lk_51 rfl dX2_readMeal_115 ?_
    refine A_iconst dX2_readMeal_118 ?_
    exact A_zret2 dX2_readMeal_119 (by decide) (by rw [hr]; clear ih; rcases n with _ | n <;> (try simp (disch := omega) only [mlL, mlE, nxM, KC_up, VC_up, idxC_up, eouC_up, up_k, up_j, up_s]) <;> (repeat' split) <;> first | contradiction | (exfalso; omega) | rfl | (simp (disch := omega) only [KC_up, VC_up, idxC_up, eouC_up, up_k, up_j, up_s]; done) | (simp_all [b2i_t, b2i_f]; done)) (by rw [hs]; clear ih; rcases n with _ | n <;> (try simp (disch := omega) only [mlL, mlE, nxM, KC_up, VC_up, idxC_up, eouC_up, up_k, up_j, up_s]) <;> (repeat' split) <;> first | contradiction | (exfalso; omega) | with_reducible rfl | (simp (disch := omega) only [KC_up, VC_up, idxC_up, eouC_up, up_k, up_j, up_s]; done) | (simp_all; done))
  · refine A_aload_n dX2_readMeal_63 rfl 1 rfl ?_
    refine A_bipush dX2_readMeal_64 (by decide +kernel) ?_
    refine A_Va1 mv_X2_47 lk_51 rfl rfl (c_X2_isKind _ _ ⟨by decide, by decide⟩) (Nat.le_of_ble_eq_true rfl) (by omega) (by omega) dX2_readMeal_66 ?_
    try simp (disch := omega) only [KC_up, VC_up, idxC_up, eouC_up, up_k, up_j, up_s]
    refine A_ifne_b (tgt := 97) dX2_readMeal_69 (by decide) (fun h69 => ?_) (fun h69 => ?_)
    · refine A_aload_n dX2_readMeal_97 rfl 1 rfl ?_
      refine A_getr fl_X2_25 lk_51 rfl dX2_readMeal_98 ?_
      refine A_getr fl_X2_79 lk_9 rfl dX2_readMeal_101 ?_
      refine A_lload_n dX2_readMeal_104 rfl 2 rfl ?_
      refine A_Vv1 mv_X2_120 lk_14 rfl rfl (c_X4_add_14 _ _) (Nat.le_of_ble_eq_true rfl) (by omega) (by omega) dX2_readMeal_105 ?_
      try simp (disch := omega) only [KC_up, VC_up, idxC_up, eouC_up, up_k, up_j, up_s]
      refine A_aload_n dX2_readMeal_108 rfl 1 rfl ?_
      refine A_dup dX2_readMeal_109 rfl ?_
      refine A_geti fl_X2_33 lk_51 rfl dX2_readMeal_110 ?_
      try simp (disch := omega) only [up_k, up_j, up_s, KC_up, VC_up, idxC_up, eouC_up, up_k, up_j, up_s]
      refine A_iconst dX2_readMeal_113 ?_
      refine A_iadd dX2_readMeal_114 ?_
      refine A_puti fl_X2_33 lk_51 rfl dX2_readMeal_115 ?_
      refine A_iconst dX2_readMeal_118 ?_
      exact A_zret2 dX2_readMeal_119 (by decide) (by rw [hr]; clear ih; rcases n with _ | n <;> (try simp (disch := omega) only [mlL, mlE, nxM, KC_up, VC_up, idxC_up, eouC_up, up_k, up_j, up_s]) <;> (repeat' split) <;> first | contradiction | (exfalso; omega) | rfl | (simp (disch := omega) only [KC_up, VC_up, idxC_up, eouC_up, up_k, up_j, up_s]; done) | (simp_all [b2i_t, b2i_f]; done)) (by rw [hs]; clear ih; rcases n with _ | n <;> (try simp (disch := omega) only [mlL, mlE, nxM, KC_up, VC_up, idxC_up, eouC_up, up_k, up_j, up_s]) <;> (repeat' split) <;> first | contradiction | (exfalso; omega) | with_reducible rfl | (simp (disch := omega) only [KC_up, VC_up, idxC_up, eouC_up, up_k, up_j, up_s]; done) | (simp_all; done))
    · refine A_aload_n dX2_readMeal_72 rfl 1 rfl ?_
      refine A_dup dX2_readMeal_73 rfl ?_
      refine A_geti fl_X2_33 lk_51 rfl dX2_readMeal_74 ?_
      try simp (disch := omega) only [up_k, up_j, up_s, KC_up, VC_up, idxC_up, eouC_up, up_k, up_j, up_s]
      refine A_iconst dX2_readMeal_77 ?_
      refine A_iadd dX2_readMeal_78 ?_
      refine A_puti fl_X2_33 lk_51 rfl dX2_readMeal_79 ?_
      refine A_aload_n dX2_readMeal_82 rfl 1 rfl ?_
      refine A_Va0 mv_X2_185 lk_51 rfl rfl (c_X2_takeChoice _) (Nat.le_of_ble_eq_true rfl) (by omega) (by omega) dX2_readMeal_83 ?_
      try simp (disch := omega) only [KC_up, VC_up, idxC_up, eouC_up, up_k, up_j, up_s]
      refine A_ifne_b (tgt := 91) dX2_readMeal_86 (by decide) (fun h86 => ?_) (fun h86 => ?_)
      · refine A_iinc (lv2 := [(3, _), (0, _), (1, _)]) dX2_readMeal_91 0 rfl (by decide) rfl ?_
        refine A_goto (tgt := 56) dX2_readMeal_94 (by decide) ?_
        refine A_lv [0, 1, 2] rfl ?_
        exact ih (n - 1) (by omega) (i + 1) _ r σ1 (by omega) (by omega) (by rw [hr]; clear ih; obtain ⟨n, rfl⟩ : ∃ q, n = q + 1 := ⟨n - 1, by omega⟩; (try simp (disch := omega) only [mlL, Nat.add_sub_cancel, mlE, nxM, KC_up, VC_up, idxC_up, eouC_up, up_k, up_j, up_s]) <;> (repeat' split) <;> first | contradiction | (exfalso; omega) | rfl | (simp (disch := omega) only [KC_up, VC_up, idxC_up, eouC_up, up_k, up_j, up_s]; done) | (simp_all [b2i_t, b2i_f]; done)) (by rw [hs]; clear ih; obtain ⟨n, rfl⟩ : ∃ q, n = q + 1 := ⟨n - 1, by omega⟩; (try simp (disch := omega) only [mlL, Nat.add_sub_cancel, mlE, nxM, KC_up, VC_up, idxC_up, eouC_up, up_k, up_j, up_s]) <;> (repeat' split) <;> first | contradiction | (exfalso; omega) | with_reducible rfl | (simp (disch := omega) only [KC_up, VC_up, idxC_up, eouC_up, up_k, up_j, up_s]; done) | (simp_all; done))
      · refine A_iconst dX2_readMeal_89 ?_
        exact A_zret2 dX2_readMeal_90 (by decide) (by rw [hr]; clear ih; rcases n with _ | n <;> (try simp (disch := omega) only [mlL, mlE, nxM, KC_up, VC_up, idxC_up, eouC_up, up_k, up_j, up_s]) <;> (repeat' split) <;> first | contradiction | (exfalso; omega) | rfl | (simp (disch := omega) only [KC_up, VC_up, idxC_up, eouC_up, up_k, up_j, up_s]; done) | (simp_all [b2i_t, b2i_f]; done)) (by rw [hs]; clear ih; rcases n with _ | n <;> (try simp (disch := omega) only [mlL, mlE, nxM, KC_up, VC_up, idxC_up, eouC_up, up_k, up_j, up_s]) <;> (repeat' split) <;> first | contradiction | (exfalso; omega) | with_reducible rfl | (simp (disch := omega) only [KC_up, VC_up, idxC_up, eouC_up, up_k, up_j, up_s]; done) | (simp_all; done))
set_option maxRecDepth 100000 in
set_option maxHeartbeats 4000000 in
theorem c_X2_readMeal (σ : Sg)  : Ct l G yX2_readMeal cX2_readMeal 4 (some .boolean) 5 0 0 [.ref (lay G 51)] σ (some (.int (I32 (b2i (mlM σ).1)))) ((mlM σ).2) := by
  refine Ct.of (by decide +kernel) (Nat.le_of_ble_eq_true rfl) (fun f => ?_)
  show AW _ _ _ _ _ _ _ _ _ _ [(0, _)] _ _
  refine A_aload_n dX2_readMeal_0 rfl 0 rfl ?_
  refine A_getr fl_X2_25 lk_51 rfl dX2_readMeal_1 ?_
  refine A_getr fl_X2_79 lk_9 rfl dX2_readMeal_4 ?_
  refine A_Va0 mv_X2_89 lk_14 rfl rfl (c_X4_isFull_14 _) (Nat.le_of_ble_eq_true rfl) (by omega) (by omega) dX2_readMeal_7 ?_
  try simp (disch := omega) only [KC_up, VC_up, idxC_up, eouC_up, up_k, up_j, up_s]
  refine A_ifeq_b (tgt := 23) dX2_readMeal_10 (by decide) (fun h10 => ?_) (fun h10 => ?_)
  · refine A_aload_n dX2_readMeal_23 rfl 0 rfl ?_
    refine A_dup dX2_readMeal_24 rfl ?_
    refine A_geti fl_X2_33 lk_51 rfl dX2_readMeal_25 ?_
    try simp (disch := omega) only [up_k, up_j, up_s, KC_up, VC_up, idxC_up, eouC_up, up_k, up_j, up_s]
    refine A_iconst dX2_readMeal_28 ?_
    refine A_iadd dX2_readMeal_29 ?_
    refine A_puti fl_X2_33 lk_51 rfl dX2_readMeal_30 ?_
    refine A_aload_n dX2_readMeal_33 rfl 0 rfl ?_
    refine A_getr fl_X2_21 lk_51 rfl dX2_readMeal_34 ?_
    refine A_aload_n dX2_readMeal_37 rfl 0 rfl ?_
    refine A_geti fl_X2_33 lk_51 rfl dX2_readMeal_38 ?_
    try simp (disch := omega) only [up_k, up_j, up_s, KC_up, VC_up, idxC_up, eouC_up, up_k, up_j, up_s]
    refine A_Va1 mv_X2_92 lk_3 rfl rfl (c_X9_valueOf _ _) (Nat.le_of_ble_eq_true rfl) (by omega) (by omega) dX2_readMeal_41 ?_
    try simp (disch := omega) only [KC_up, VC_up, idxC_up, eouC_up, up_k, up_j, up_s]
    refine A_lstore_n (lv2 := [(1, _), (0, _)]) dX2_readMeal_44 rfl (by decide) rfl ?_
    refine A_aload_n dX2_readMeal_45 rfl 1 rfl ?_
    refine A_Va0 mv_X2_96 lk_51 rfl rfl (c_X2_takeNewName _) (Nat.le_of_ble_eq_true rfl) (by omega) (by omega) dX2_readMeal_46 ?_
    try simp (disch := omega) only [KC_up, VC_up, idxC_up, eouC_up, up_k, up_j, up_s]
    refine A_ifne_b (tgt := 54) dX2_readMeal_49 (by decide) (fun h49 => ?_) (fun h49 => ?_)
    · refine A_iconst dX2_readMeal_54 ?_
      refine A_istore_n (lv2 := [(3, _), (1, _), (0, _)]) dX2_readMeal_55 rfl (by decide) rfl ?_
      refine A_lv [0, 2, 1] rfl ?_
      exact w_X2_readMeal _ 1500 0 _ _ _ (by omega) (by omega) (by (try simp (disch := omega) only [mlM, nxM, KC_up, VC_up, idxC_up, eouC_up, up_k, up_j, up_s]) <;> (repeat' split) <;> first | contradiction | (exfalso; omega) | rfl | (simp (disch := omega) only [KC_up, VC_up, idxC_up, eouC_up, up_k, up_j, up_s]; done) | (simp_all [b2i_t, b2i_f]; done)) (by (try simp (disch := omega) only [mlM, nxM, KC_up, VC_up, idxC_up, eouC_up, up_k, up_j, up_s]) <;> (repeat' split) <;> first | contradiction | (exfalso; omega) | with_reducible rfl | (simp (disch := omega) only [KC_up, VC_up, idxC_up, eouC_up, up_k, up_j, up_s]; done) | (simp_all; done))
    · refine A_iconst dX2_readMeal_52 ?_
      exact A_zret2 dX2_readMeal_53 (by decide) (by (try simp (disch := omega) only [mlM, mlE, nxM, KC_up, VC_up, idxC_up, eouC_up, up_k, up_j, up_s]) <;> (repeat' split) <;> first | contradiction | (exfalso; omega) | rfl | (simp (disch := omega) only [KC_up, VC_up, idxC_up, eouC_up, up_k, up_j, up_s]; done) | (simp_all [b2i_t, b2i_f]; done)) (by (try simp (disch := omega) only [mlM, mlE, nxM, KC_up, VC_up, idxC_up, eouC_up, up_k, up_j, up_s]) <;> (repeat' split) <;> first | contradiction | (exfalso; omega) | with_reducible rfl | (simp (disch := omega) only [KC_up, VC_up, idxC_up, eouC_up, up_k, up_j, up_s]; done) | (simp_all; done))
  · refine A_aload_n dX2_readMeal_13 rfl 0 rfl ?_
    refine A_iconst dX2_readMeal_14 ?_
    refine A_aload_n dX2_readMeal_15 rfl 0 rfl ?_
    refine A_geti fl_X2_33 lk_51 rfl dX2_readMeal_16 ?_
    try simp (disch := omega) only [up_k, up_j, up_s, KC_up, VC_up, idxC_up, eouC_up, up_k, up_j, up_s]
    refine A_Va2 mv_X2_82 lk_51 rfl rfl (c_X2_fail _ _ _) (Nat.le_of_ble_eq_true rfl) (by omega) (by omega) dX2_readMeal_19 ?_
    try simp (disch := omega) only [KC_up, VC_up, idxC_up, eouC_up, up_k, up_j, up_s]
    exact A_zret dX2_readMeal_22 (by (try simp (disch := omega) only [mlM, mlE, nxM, KC_up, VC_up, idxC_up, eouC_up, up_k, up_j, up_s]) <;> (repeat' split) <;> first | contradiction | (exfalso; omega) | rfl | (simp (disch := omega) only [KC_up, VC_up, idxC_up, eouC_up, up_k, up_j, up_s]; done) | (simp_all [b2i_t, b2i_f]; done)) (by (try simp (disch := omega) only [mlM, mlE, nxM, KC_up, VC_up, idxC_up, eouC_up, up_k, up_j, up_s]) <;> (repeat' split) <;> first | contradiction | (exfalso; omega) | with_reducible rfl | (simp (disch := omega) only [KC_up, VC_up, idxC_up, eouC_up, up_k, up_j, up_s]; done) | (simp_all; done))
set_option maxRecDepth 100000 in
set_option maxHeartbeats 4000000 in
theorem w_X2_takeTags {f : Fm}  : ∀ (n : Nat) (i : Int) (σ : Sg) (r : Option Value) (σ1 : Sg), 0 ≤ i → i + n = 1500 → r = some (.int (I32 (b2i ((tgL n σ)).1))) → σ1 = ((tgL n σ)).2 → AW l G f (RX2, cX2_takeTags, 4, (some .boolean)) (3, 0, 0) (QT G f 0 0 r σ1) [] 0 0 2 [(1, .int (I32 i)), (0, .ref (lay G 51))] [] σ := by
  intro n
  induction n using Nat.strongRecOn with | _ n ih =>
  intro i σ r σ1 h0 hn hr hs
  refine A_iload_n dX2_takeTags_2 rfl 0 rfl ?_
  refine A_sipush dX2_takeTags_3 (by decide +kernel) ?_
  refine J_icmp_ge (tgt := 127) dX2_takeTags_6 (by decide) (by first | with_reducible exact i32_eq (KC_inr _ _) | with_reducible exact idxC_i32 _ _ _ | exact i32_eq (by assumption) | exact i32_eq ⟨by omega, by omega⟩ | with_reducible exact i32_i32 _ | rfl) (by first | with_reducible exact i32_eq (KC_inr _ _) | with_reducible exact idxC_i32 _ _ _ | exact i32_eq (by assumption) | exact i32_eq ⟨by omega, by omega⟩ | with_reducible exact i32_i32 _ | rfl) (fun h6 => ?_) (fun h6 => ?_)
  · refine A_iconst dX2_takeTags_127 ?_
    exact A_zret2 dX2_takeTags_128 (by decide) (by rw [hr]; clear ih; rcases n with _ | n <;> (try simp (disch := omega) only [tgL, tg1M, tg2M, nxM, KC_up, VC_up, idxC_up, eouC_up, up_k, up_j, up_s]) <;> (repeat' split) <;> first | contradiction | (exfalso; omega) | rfl | (simp (disch := omega) only [KC_up, VC_up, idxC_up, eouC_up, up_k, up_j, up_s]; done) | (simp_all [b2i_t, b2i_f]; done)) (by rw [hs]; clear ih; rcases n with _ | n <;> (try simp (disch := omega) only [tgL, tg1M, tg2M, nxM, KC_up, VC_up, idxC_up, eouC_up, up_k, up_j, up_s]) <;> (repeat' split) <;> first | contradiction | (exfalso; omega) | with_reducible rfl | (simp (disch := omega) only [KC_up, VC_up, idxC_up, eouC_up, up_k, up_j, up_s]; done) | (simp_all; done))
  · refine A_aload_n dX2_takeTags_9 rfl 1 rfl ?_
    refine A_bipush dX2_takeTags_10 (by decide +kernel) ?_
    refine A_Va1 mv_X2_47 lk_51 rfl rfl (c_X2_isKind _ _ ⟨by decide, by decide⟩) (Nat.le_of_ble_eq_true rfl) (by omega) (by omega) dX2_takeTags_12 ?_
    try simp (disch := omega) only [KC_up, VC_up, idxC_up, eouC_up, up_k, up_j, up_s]
    refine A_ifne_b (tgt := 127) dX2_takeTags_15 (by decide) (fun h15 => ?_) (fun h15 => ?_)
    · refine A_iconst dX2_takeTags_127 ?_
      exact A_zret2 dX2_takeTags_128 (by decide) (by rw [hr]; clear ih; rcases n with _ | n <;> (try simp (disch := omega) only [tgL, tg1M, tg2M, nxM, KC_up, VC_up, idxC_up, eouC_up, up_k, up_j, up_s]) <;> (repeat' split) <;> first | contradiction | (exfalso; omega) | rfl | (simp (disch := omega) only [KC_up, VC_up, idxC_up, eouC_up, up_k, up_j, up_s]; done) | (simp_all [b2i_t, b2i_f]; done)) (by rw [hs]; clear ih; rcases n with _ | n <;> (try simp (disch := omega) only [tgL, tg1M, tg2M, nxM, KC_up, VC_up, idxC_up, eouC_up, up_k, up_j, up_s]) <;> (repeat' split) <;> first | contradiction | (exfalso; omega) | with_reducible rfl | (simp (disch := omega) only [KC_up, VC_up, idxC_up, eouC_up, up_k, up_j, up_s]; done) | (simp_all; done))
    · refine A_aload_n dX2_takeTags_18 rfl 1 rfl ?_
      refine A_dup dX2_takeTags_19 rfl ?_
      refine A_geti fl_X2_33 lk_51 rfl dX2_takeTags_20 ?_
      try simp (disch := omega) only [up_k, up_j, up_s, KC_up, VC_up, idxC_up, eouC_up, up_k, up_j, up_s]
      refine A_iconst dX2_takeTags_23 ?_
      refine A_iadd dX2_takeTags_24 ?_
      refine A_puti fl_X2_33 lk_51 rfl dX2_takeTags_25 ?_
      refine A_aload_n dX2_takeTags_28 rfl 1 rfl ?_
      refine A_getr fl_X2_21 lk_51 rfl dX2_takeTags_29 ?_
      refine A_aload_n dX2_takeTags_32 rfl 1 rfl ?_
      refine A_geti fl_X2_33 lk_51 rfl dX2_takeTags_33 ?_
      try simp (disch := omega) only [up_k, up_j, up_s, KC_up, VC_up, idxC_up, eouC_up, up_k, up_j, up_s]
      refine A_Va1 mv_X2_92 lk_3 rfl rfl (c_X9_valueOf _ _) (Nat.le_of_ble_eq_true rfl) (by omega) (by omega) dX2_takeTags_36 ?_
      try simp (disch := omega) only [KC_up, VC_up, idxC_up, eouC_up, up_k, up_j, up_s]
      refine A_lstore_n (lv2 := [(2, _), (1, _), (0, _)]) dX2_takeTags_39 rfl (by decide) rfl ?_
      refine A_aload_n dX2_takeTags_40 rfl 2 rfl ?_
      refine A_getr fl_X2_25 lk_51 rfl dX2_takeTags_41 ?_
      refine A_getr fl_X2_182 lk_9 rfl dX2_takeTags_44 ?_
      refine A_lload_n dX2_takeTags_47 rfl 0 rfl ?_
      refine A_Va1 mv_X2_154 lk_16 rfl rfl (c_X4_indexOf_16 _ _) (Nat.le_of_ble_eq_true rfl) (by omega) (by omega) dX2_takeTags_48 ?_
      try simp (disch := omega) only [KC_up, VC_up, idxC_up, eouC_up, up_k, up_j, up_s]
      refine A_iconst dX2_takeTags_51 ?_
      refine J_icmp_ne (tgt := 89) dX2_takeTags_52 (by decide) (by first | with_reducible exact i32_eq (KC_inr _ _) | with_reducible exact idxC_i32 _ _ _ | exact i32_eq (by assumption) | exact i32_eq ⟨by omega, by omega⟩ | with_reducible exact i32_i32 _ | rfl) (by first | with_reducible exact i32_eq (KC_inr _ _) | with_reducible exact idxC_i32 _ _ _ | exact i32_eq (by assumption) | exact i32_eq ⟨by omega, by omega⟩ | with_reducible exact i32_i32 _ | rfl) (fun h52 => ?_) (fun h52 => ?_)
      · refine A_aload_n dX2_takeTags_89 rfl 2 rfl ?_
        refine A_dup dX2_takeTags_90 rfl ?_
        refine A_geti fl_X2_111 lk_51 rfl dX2_takeTags_91 ?_
        try simp (disch := omega) only [up_k, up_j, up_s, KC_up, VC_up, idxC_up, eouC_up, up_k, up_j, up_s]
        refine A_iconst dX2_takeTags_94 ?_
        refine A_aload_n dX2_takeTags_95 rfl 2 rfl ?_
        refine A_getr fl_X2_25 lk_51 rfl dX2_takeTags_96 ?_
        refine A_getr fl_X2_182 lk_9 rfl dX2_takeTags_99 ?_
        refine A_lload_n dX2_takeTags_102 rfl 0 rfl ?_
        refine A_Va1 mv_X2_154 lk_16 rfl rfl (c_X4_indexOf_16 _ _) (Nat.le_of_ble_eq_true rfl) (by omega) (by omega) dX2_takeTags_103 ?_
        try simp (disch := omega) only [KC_up, VC_up, idxC_up, eouC_up, up_k, up_j, up_s]
        refine A_ishl dX2_takeTags_106 ?_
        refine A_ior dX2_takeTags_107 ?_
        refine A_puti fl_X2_111 lk_51 rfl dX2_takeTags_108 ?_
        refine A_aload_n dX2_takeTags_111 rfl 2 rfl ?_
        refine A_dup dX2_takeTags_112 rfl ?_
        refine A_geti fl_X2_33 lk_51 rfl dX2_takeTags_113 ?_
        try simp (disch := omega) only [up_k, up_j, up_s, KC_up, VC_up, idxC_up, eouC_up, up_k, up_j, up_s]
        refine A_iconst dX2_takeTags_116 ?_
        refine A_iadd dX2_takeTags_117 ?_
        refine A_puti fl_X2_33 lk_51 rfl dX2_takeTags_118 ?_
        refine A_iinc (lv2 := [(1, _), (2, _), (0, _)]) dX2_takeTags_121 1 rfl (by decide) rfl ?_
        refine A_goto (tgt := 2) dX2_takeTags_124 (by decide) ?_
        refine A_lv [0, 2] rfl ?_
        exact ih (n - 1) (by omega) (i + 1) _ r σ1 (by omega) (by omega) (by rw [hr]; clear ih; obtain ⟨n, rfl⟩ : ∃ q, n = q + 1 := ⟨n - 1, by omega⟩; (try simp (disch := omega) only [tgL, Nat.add_sub_cancel, tg1M, tg2M, nxM, KC_up, VC_up, idxC_up, eouC_up, up_k, up_j, up_s]) <;> (repeat' split) <;> first | contradiction | (exfalso; omega) | rfl | (simp (disch := omega) only [KC_up, VC_up, idxC_up, eouC_up, up_k, up_j, up_s]; done) | (simp_all [b2i_t, b2i_f]; done)) (by rw [hs]; clear ih; obtain ⟨n, rfl⟩ : ∃ q, n = q + 1 := ⟨n - 1, by omega⟩; (try simp (disch := omega) only [tgL, Nat.add_sub_cancel, tg1M, tg2M, nxM, KC_up, VC_up, idxC_up, eouC_up, up_k, up_j, up_s]) <;> (repeat' split) <;> first | contradiction | (exfalso; omega) | with_reducible rfl | (simp (disch := omega) only [KC_up, VC_up, idxC_up, eouC_up, up_k, up_j, up_s]; done) | (simp_all; done))
      · refine A_aload_n dX2_takeTags_55 rfl 2 rfl ?_
        refine A_getr fl_X2_25 lk_51 rfl dX2_takeTags_56 ?_
        refine A_getr fl_X2_182 lk_9 rfl dX2_takeTags_59 ?_
        refine A_Va0 mv_X2_89 lk_16 rfl rfl (c_X4_isFull_16 _) (Nat.le_of_ble_eq_true rfl) (by omega) (by omega) dX2_takeTags_62 ?_
        try simp (disch := omega) only [KC_up, VC_up, idxC_up, eouC_up, up_k, up_j, up_s]
        refine A_ifeq_b (tgt := 78) dX2_takeTags_65 (by decide) (fun h65 => ?_) (fun h65 => ?_)
        · refine A_aload_n dX2_takeTags_78 rfl 2 rfl ?_
          refine A_getr fl_X2_25 lk_51 rfl dX2_takeTags_79 ?_
          refine A_getr fl_X2_182 lk_9 rfl dX2_takeTags_82 ?_
          refine A_lload_n dX2_takeTags_85 rfl 0 rfl ?_
          refine A_Vv1 mv_X2_120 lk_16 rfl rfl (c_X4_add_16 _ _) (Nat.le_of_ble_eq_true rfl) (by omega) (by omega) dX2_takeTags_86 ?_
          try simp (disch := omega) only [KC_up, VC_up, idxC_up, eouC_up, up_k, up_j, up_s]
          refine A_aload_n dX2_takeTags_89 rfl 2 rfl ?_
          refine A_dup dX2_takeTags_90 rfl ?_
          refine A_geti fl_X2_111 lk_51 rfl dX2_takeTags_91 ?_
          try simp (disch := omega) only [up_k, up_j, up_s, KC_up, VC_up, idxC_up, eouC_up, up_k, up_j, up_s]
          refine A_iconst dX2_takeTags_94 ?_
          refine A_aload_n dX2_takeTags_95 rfl 2 rfl ?_
          refine A_getr fl_X2_25 lk_51 rfl dX2_takeTags_96 ?_
          refine A_getr fl_X2_182 lk_9 rfl dX2_takeTags_99 ?_
          refine A_lload_n dX2_takeTags_102 rfl 0 rfl ?_
          refine A_Va1 mv_X2_154 lk_16 rfl rfl (c_X4_indexOf_16 _ _) (Nat.le_of_ble_eq_true rfl) (by omega) (by omega) dX2_takeTags_103 ?_
          try simp (disch := omega) only [KC_up, VC_up, idxC_up, eouC_up, up_k, up_j, up_s]
          refine A_ishl dX2_takeTags_106 ?_
          refine A_ior dX2_takeTags_107 ?_
          refine A_puti fl_X2_111 lk_51 rfl dX2_takeTags_108 ?_
          refine A_aload_n dX2_takeTags_111 rfl 2 rfl ?_
          refine A_dup dX2_takeTags_112 rfl ?_
          refine A_geti fl_X2_33 lk_51 rfl dX2_takeTags_113 ?_
          try simp (disch := omega) only [up_k, up_j, up_s, KC_up, VC_up, idxC_up, eouC_up, up_k, up_j, up_s]
          refine A_iconst dX2_takeTags_116 ?_
          refine A_iadd dX2_takeTags_117 ?_
          refine A_puti fl_X2_33 lk_51 rfl dX2_takeTags_118 ?_
          refine A_iinc (lv2 := [(1, _), (2, _), (0, _)]) dX2_takeTags_121 1 rfl (by decide) rfl ?_
          refine A_goto (tgt := 2) dX2_takeTags_124 (by decide) ?_
          refine A_lv [0, 2] rfl ?_
          exact ih (n - 1) (by omega) (i + 1) _ r σ1 (by omega) (by omega) (by rw [hr]; clear ih; obtain ⟨n, rfl⟩ : ∃ q, n = q + 1 := ⟨n - 1, by omega⟩; (try simp (disch := omega) only [tgL, Nat.add_sub_cancel, tg1M, tg2M, nxM, KC_up, VC_up, idxC_up, eouC_up, up_k, up_j, up_s]) <;> (repeat' split) <;> first | contradiction | (exfalso; omega) | rfl | (simp (disch := omega) only [KC_up, VC_up, idxC_up, eouC_up, up_k, up_j, up_s]; done) | (simp_all [b2i_t, b2i_f]; done)) (by rw [hs]; clear ih; obtain ⟨n, rfl⟩ : ∃ q, n = q + 1 := ⟨n - 1, by omega⟩; (try simp (disch := omega) only [tgL, Nat.add_sub_cancel, tg1M, tg2M, nxM, KC_up, VC_up, idxC_up, eouC_up, up_k, up_j, up_s]) <;> (repeat' split) <;> first | contradiction | (exfalso; omega) | with_reducible rfl | (simp (disch := omega) only [KC_up, VC_up, idxC_up, eouC_up, up_k, up_j, up_s]; done) | (simp_all; done))
        · refine A_aload_n dX2_takeTags_68 rfl 2 rfl ?_
          refine A_iconst dX2_takeTags_69 ?_
          refine A_aload_n dX2_takeTags_70 rfl 2 rfl ?_
          refine A_geti fl_X2_33 lk_51 rfl dX2_takeTags_71 ?_
          try simp (disch := omega) only [up_k, up_j, up_s, KC_up, VC_up, idxC_up, eouC_up, up_k, up_j, up_s]
          refine A_Va2 mv_X2_82 lk_51 rfl rfl (c_X2_fail _ _ _) (Nat.le_of_ble_eq_true rfl) (by omega) (by omega) dX2_takeTags_74 ?_
          try simp (disch := omega) only [KC_up, VC_up, idxC_up, eouC_up, up_k, up_j, up_s]
          exact A_zret dX2_takeTags_77 (by rw [hr]; clear ih; rcases n with _ | n <;> (try simp (disch := omega) only [tgL, tg1M, tg2M, nxM, KC_up, VC_up, idxC_up, eouC_up, up_k, up_j, up_s]) <;> (repeat' split) <;> first | contradiction | (exfalso; omega) | rfl | (simp (disch := omega) only [KC_up, VC_up, idxC_up, eouC_up, up_k, up_j, up_s]; done) | (simp_all [b2i_t, b2i_f]; done)) (by rw [hs]; clear ih; rcases n with _ | n <;> (try simp (disch := omega) only [tgL, tg1M, tg2M, nxM, KC_up, VC_up, idxC_up, eouC_up, up_k, up_j, up_s]) <;> (repeat' split) <;> first | contradiction | (exfalso; omega) | with_reducible rfl | (simp (disch := omega) only [KC_up, VC_up, idxC_up, eouC_up, up_k, up_j, up_s]; done) | (simp_all; done))
set_option maxRecDepth 100000 in
set_option maxHeartbeats 4000000 in
theorem c_X2_takeTags (σ : Sg)  : Ct l G yX2_takeTags cX2_takeTags 4 (some .boolean) 3 0 0 [.ref (lay G 51)] σ (some (.int (I32 (b2i (tgL 1500 σ).1)))) ((tgL 1500 σ).2) := by
  refine Ct.of (by decide +kernel) (Nat.le_of_ble_eq_true rfl) (fun f => ?_)
  show AW _ _ _ _ _ _ _ _ _ _ [(0, _)] _ _
  refine A_iconst dX2_takeTags_0 ?_
  refine A_istore_n (lv2 := [(1, _), (0, _)]) dX2_takeTags_1 rfl (by decide) rfl ?_
  refine A_lv [0, 1] rfl ?_
  exact w_X2_takeTags 1500 0 _ _ _ (by omega) (by omega) rfl rfl
set_option maxRecDepth 100000 in
set_option maxHeartbeats 4000000 in
theorem c_X2_addFood (σ : Sg) (d o : Int) (hd : 0 ≤ d ∧ d < 16) (ho : 0 ≤ o ∧ o < 16) : Ct l G yX2_addFood cX2_addFood 3 none 0 0 0 [.ref (lay G 51), .int (I32 d), .int (I32 o)] σ (none) (afM σ d o) := by
  refine Ct.of (by decide +kernel) (Nat.le_of_ble_eq_true rfl) (fun f => ?_)
  show AW _ _ _ _ _ _ _ _ _ _ [(0, _), (1, _), (2, _)] _ _
  refine A_aload_n dX2_addFood_0 rfl 0 rfl ?_
  refine A_getr fl_X2_25 lk_51 rfl dX2_addFood_1 ?_
  refine A_getr fl_X2_144 lk_9 rfl dX2_addFood_4 ?_
  refine A_iload_n dX2_addFood_7 rfl 1 rfl ?_
  refine J_aald lk_31 (by first | with_reducible exact i32_eq (KC_inr _ _) | with_reducible exact idxC_i32 _ _ _ | exact i32_eq (by assumption) | exact i32_eq ⟨by omega, by omega⟩ | with_reducible exact i32_i32 _ | rfl) (by omega) (by omega) (by decide) dX2_addFood_8 ?_
  refine A_iload_n dX2_addFood_9 rfl 2 rfl ?_
  refine A_dup2 dX2_addFood_10 rfl rfl ?_
  refine J_iald (lk_row34 (by omega)) (by first | with_reducible exact i32_eq (KC_inr _ _) | with_reducible exact idxC_i32 _ _ _ | exact i32_eq (by assumption) | exact i32_eq ⟨by omega, by omega⟩ | with_reducible exact i32_i32 _ | rfl) (by omega) (by omega) (by decide) dX2_addFood_11 ?_
  refine A_aload_n dX2_addFood_12 rfl 0 rfl ?_
  refine A_geti fl_X2_105 lk_51 rfl dX2_addFood_13 ?_
  refine A_iadd dX2_addFood_16 ?_
  refine J_iast (lk_row34 (by omega)) (by first | with_reducible exact i32_eq (KC_inr _ _) | with_reducible exact idxC_i32 _ _ _ | exact i32_eq (by assumption) | exact i32_eq ⟨by omega, by omega⟩ | with_reducible exact i32_i32 _ | rfl) (by omega) (by omega) (by decide) dX2_addFood_17 ?_
  refine A_aload_n dX2_addFood_18 rfl 0 rfl ?_
  refine A_dup dX2_addFood_19 rfl ?_
  refine A_getl fl_X2_137 lk_51 rfl dX2_addFood_20 ?_
  try simp (disch := omega) only [up_k, up_j, up_s, KC_up, VC_up, idxC_up, eouC_up, up_k, up_j, up_s]
  refine A_aload_n dX2_addFood_23 rfl 0 rfl ?_
  refine A_geti fl_X2_105 lk_51 rfl dX2_addFood_24 ?_
  try simp (disch := omega) only [up_k, up_j, up_s, KC_up, VC_up, idxC_up, eouC_up, up_k, up_j, up_s]
  refine A_aload_n dX2_addFood_27 rfl 0 rfl ?_
  refine A_getr fl_X2_25 lk_51 rfl dX2_addFood_28 ?_
  refine A_getr fl_X2_102 lk_9 rfl dX2_addFood_31 ?_
  refine A_iload_n dX2_addFood_34 rfl 2 rfl ?_
  refine J_iald lk_23 (by first | with_reducible exact i32_eq (KC_inr _ _) | with_reducible exact idxC_i32 _ _ _ | exact i32_eq (by assumption) | exact i32_eq ⟨by omega, by omega⟩ | with_reducible exact i32_i32 _ | rfl) (by omega) (by omega) (by decide) dX2_addFood_35 ?_
  try simp (disch := omega) only [up_k, up_j, up_s, KC_up, VC_up, idxC_up, eouC_up, up_k, up_j, up_s]
  refine A_imul dX2_addFood_36 ?_
  refine A_bipush dX2_addFood_37 (by decide +kernel) ?_
  refine J_idiv dX2_addFood_39 (by first | with_reducible exact i32_eq (KC_inr _ _) | with_reducible exact idxC_i32 _ _ _ | exact i32_eq (by assumption) | exact i32_eq ⟨by omega, by omega⟩ | with_reducible exact i32_i32 _ | rfl) (by first | with_reducible exact i32_eq (KC_inr _ _) | with_reducible exact idxC_i32 _ _ _ | exact i32_eq (by assumption) | exact i32_eq ⟨by omega, by omega⟩ | with_reducible exact i32_i32 _ | rfl) (by omega) ?_
  refine J_i2l dX2_addFood_40 (by first | with_reducible exact i32_eq (KC_inr _ _) | with_reducible exact idxC_i32 _ _ _ | exact i32_eq (by assumption) | exact i32_eq ⟨by omega, by omega⟩ | with_reducible exact i32_i32 _ | rfl) ?_
  refine A_ladd dX2_addFood_41 ?_
  refine A_putl fl_X2_137 lk_51 rfl dX2_addFood_42 ?_
  refine A_aload_n dX2_addFood_45 rfl 0 rfl ?_
  refine A_dup dX2_addFood_46 rfl ?_
  refine A_getl fl_X2_141 lk_51 rfl dX2_addFood_47 ?_
  try simp (disch := omega) only [up_k, up_j, up_s, KC_up, VC_up, idxC_up, eouC_up, up_k, up_j, up_s]
  refine A_aload_n dX2_addFood_50 rfl 0 rfl ?_
  refine A_geti fl_X2_105 lk_51 rfl dX2_addFood_51 ?_
  try simp (disch := omega) only [up_k, up_j, up_s, KC_up, VC_up, idxC_up, eouC_up, up_k, up_j, up_s]
  refine A_aload_n dX2_addFood_54 rfl 0 rfl ?_
  refine A_getr fl_X2_25 lk_51 rfl dX2_addFood_55 ?_
  refine A_getr fl_X2_108 lk_9 rfl dX2_addFood_58 ?_
  refine A_iload_n dX2_addFood_61 rfl 2 rfl ?_
  refine J_iald lk_24 (by first | with_reducible exact i32_eq (KC_inr _ _) | with_reducible exact idxC_i32 _ _ _ | exact i32_eq (by assumption) | exact i32_eq ⟨by omega, by omega⟩ | with_reducible exact i32_i32 _ | rfl) (by omega) (by omega) (by decide) dX2_addFood_62 ?_
  try simp (disch := omega) only [up_k, up_j, up_s, KC_up, VC_up, idxC_up, eouC_up, up_k, up_j, up_s]
  refine A_imul dX2_addFood_63 ?_
  refine A_bipush dX2_addFood_64 (by decide +kernel) ?_
  refine J_idiv dX2_addFood_66 (by first | with_reducible exact i32_eq (KC_inr _ _) | with_reducible exact idxC_i32 _ _ _ | exact i32_eq (by assumption) | exact i32_eq ⟨by omega, by omega⟩ | with_reducible exact i32_i32 _ | rfl) (by first | with_reducible exact i32_eq (KC_inr _ _) | with_reducible exact idxC_i32 _ _ _ | exact i32_eq (by assumption) | exact i32_eq ⟨by omega, by omega⟩ | with_reducible exact i32_i32 _ | rfl) (by omega) ?_
  refine J_i2l dX2_addFood_67 (by first | with_reducible exact i32_eq (KC_inr _ _) | with_reducible exact idxC_i32 _ _ _ | exact i32_eq (by assumption) | exact i32_eq ⟨by omega, by omega⟩ | with_reducible exact i32_i32 _ | rfl) ?_
  refine A_ladd dX2_addFood_68 ?_
  refine A_putl fl_X2_141 lk_51 rfl dX2_addFood_69 ?_
  refine A_aload_n dX2_addFood_72 rfl 0 rfl ?_
  refine A_dup dX2_addFood_73 rfl ?_
  refine A_geti fl_X2_111 lk_51 rfl dX2_addFood_74 ?_
  try simp (disch := omega) only [up_k, up_j, up_s, KC_up, VC_up, idxC_up, eouC_up, up_k, up_j, up_s]
  refine A_aload_n dX2_addFood_77 rfl 0 rfl ?_
  refine A_getr fl_X2_25 lk_51 rfl dX2_addFood_78 ?_
  refine A_getr fl_X2_117 lk_9 rfl dX2_addFood_81 ?_
  refine A_iload_n dX2_addFood_84 rfl 2 rfl ?_
  refine J_iald lk_25 (by first | with_reducible exact i32_eq (KC_inr _ _) | with_reducible exact idxC_i32 _ _ _ | exact i32_eq (by assumption) | exact i32_eq ⟨by omega, by omega⟩ | with_reducible exact i32_i32 _ | rfl) (by omega) (by omega) (by decide) dX2_addFood_85 ?_
  try simp (disch := omega) only [up_k, up_j, up_s, KC_up, VC_up, idxC_up, eouC_up, up_k, up_j, up_s]
  refine A_ior dX2_addFood_86 ?_
  refine A_puti fl_X2_111 lk_51 rfl dX2_addFood_87 ?_
  exact A_vret dX2_addFood_90 (by rfl) (by (try simp (disch := omega) only [afM, KC_up, VC_up, idxC_up, eouC_up, up_k, up_j, up_s]) <;> (repeat' split) <;> first | contradiction | (exfalso; omega) | with_reducible rfl | (simp (disch := omega) only [KC_up, VC_up, idxC_up, eouC_up, up_k, up_j, up_s]; done) | (simp_all; done))
def adM (σ : Sg) (d o : Int) : Sg := up (up (up (ad1M σ d o) 51 11 (ad1M σ d o 51 11 + i32 (ad1M σ d o 51 9) * i32 (ad1M σ d o 27 o.toNat))) 51 12 (ad1M σ d o 51 12 + i32 (ad1M σ d o 51 9) * i32 (ad1M σ d o 28 o.toNat))) 51 10 (ior (ad1M σ d o 51 10) (ad1M σ d o 29 o.toNat))

set_option maxRecDepth 100000 in
set_option maxHeartbeats 4000000 in
theorem c_X2_tellDish (σ : Sg) (d : Int) (hd : 0 ≤ d ∧ d < 16) : Ct l G yX2_tellDish cX2_tellDish 3 none 0 0 0 [.ref (lay G 51), .int (I32 d)] σ (none) (tdM σ d) := by
  refine Ct.of (by decide +kernel) (Nat.le_of_ble_eq_true rfl) (fun f => ?_)
  show AW _ _ _ _ _ _ _ _ _ _ [(0, _), (1, _)] _ _
  refine A_aload_n dX2_tellDish_0 rfl 0 rfl ?_
  refine A_getr fl_X2_25 lk_51 rfl dX2_tellDish_1 ?_
  refine A_getr fl_X2_124 lk_9 rfl dX2_tellDish_4 ?_
  refine A_iload_n dX2_tellDish_7 rfl 1 rfl ?_
  refine J_iald lk_26 (by first | with_reducible exact i32_eq (KC_inr _ _) | with_reducible exact idxC_i32 _ _ _ | exact i32_eq (by assumption) | exact i32_eq ⟨by omega, by omega⟩ | with_reducible exact i32_i32 _ | rfl) (by omega) (by omega) (by decide) dX2_tellDish_8 ?_
  refine A_istore_n (lv2 := [(2, _), (0, _), (1, _)]) dX2_tellDish_9 rfl (by decide) rfl ?_
  refine A_iload_n dX2_tellDish_10 rfl 0 rfl ?_
  refine J_if_le (tgt := 48) dX2_tellDish_11 (by decide) (by first | with_reducible exact i32_eq (KC_inr _ _) | with_reducible exact idxC_i32 _ _ _ | exact i32_eq (by assumption) | exact i32_eq ⟨by omega, by omega⟩ | with_reducible exact i32_i32 _ | rfl) (fun h11 => ?_) (fun h11 => ?_)
  · refine A_aload_n dX2_tellDish_48 rfl 1 rfl ?_
    refine A_getr fl_X2_25 lk_51 rfl dX2_tellDish_49 ?_
    refine A_getr fl_X2_175 lk_9 rfl dX2_tellDish_52 ?_
    refine A_iload_n dX2_tellDish_55 rfl 2 rfl ?_
    refine A_aload_n dX2_tellDish_56 rfl 1 rfl ?_
    refine A_geti fl_X2_111 lk_51 rfl dX2_tellDish_57 ?_
    refine J_iast lk_29 (by first | with_reducible exact i32_eq (KC_inr _ _) | with_reducible exact idxC_i32 _ _ _ | exact i32_eq (by assumption) | exact i32_eq ⟨by omega, by omega⟩ | with_reducible exact i32_i32 _ | rfl) (by omega) (by omega) (by decide) dX2_tellDish_60 ?_
    exact A_vret dX2_tellDish_61 (by rfl) (by (try simp (disch := omega) only [tdM, KC_up, VC_up, idxC_up, eouC_up, up_k, up_j, up_s]) <;> (repeat' split) <;> first | contradiction | (exfalso; omega) | with_reducible rfl | (simp (disch := omega) only [KC_up, VC_up, idxC_up, eouC_up, up_k, up_j, up_s]; done) | (simp_all; done))
  · refine A_aload_n dX2_tellDish_14 rfl 1 rfl ?_
    refine A_getr fl_X2_25 lk_51 rfl dX2_tellDish_15 ?_
    refine A_getr fl_X2_169 lk_9 rfl dX2_tellDish_18 ?_
    refine A_iload_n dX2_tellDish_21 rfl 2 rfl ?_
    refine A_aload_n dX2_tellDish_22 rfl 1 rfl ?_
    refine A_getl fl_X2_137 lk_51 rfl dX2_tellDish_23 ?_
    refine A_iload_n dX2_tellDish_26 rfl 0 rfl ?_
    refine J_i2l dX2_tellDish_27 (by first | with_reducible exact i32_eq (KC_inr _ _) | with_reducible exact idxC_i32 _ _ _ | exact i32_eq (by assumption) | exact i32_eq ⟨by omega, by omega⟩ | with_reducible exact i32_i32 _ | rfl) ?_
    refine J_ldiv dX2_tellDish_28 (by first | with_reducible exact i64_eq (VC_inl _ _) | with_reducible exact i64_eq (i32_inl _) | exact i64_eq ⟨by omega, by omega⟩ | rfl) (by first | with_reducible exact i64_eq (VC_inl _ _) | with_reducible exact i64_eq (i32_inl _) | exact i64_eq ⟨by omega, by omega⟩ | rfl) (by omega) ?_
    refine A_l2i dX2_tellDish_29 ?_
    refine J_iast lk_27 (by first | with_reducible exact i32_eq (KC_inr _ _) | with_reducible exact idxC_i32 _ _ _ | exact i32_eq (by assumption) | exact i32_eq ⟨by omega, by omega⟩ | with_reducible exact i32_i32 _ | rfl) (by omega) (by omega) (by decide) dX2_tellDish_30 ?_
    refine A_aload_n dX2_tellDish_31 rfl 1 rfl ?_
    refine A_getr fl_X2_25 lk_51 rfl dX2_tellDish_32 ?_
    refine A_getr fl_X2_172 lk_9 rfl dX2_tellDish_35 ?_
    refine A_iload_n dX2_tellDish_38 rfl 2 rfl ?_
    refine A_aload_n dX2_tellDish_39 rfl 1 rfl ?_
    refine A_getl fl_X2_141 lk_51 rfl dX2_tellDish_40 ?_
    try simp (disch := omega) only [up_k, up_j, up_s, KC_up, VC_up, idxC_up, eouC_up, up_k, up_j, up_s]
    refine A_iload_n dX2_tellDish_43 rfl 0 rfl ?_
    refine J_i2l dX2_tellDish_44 (by first | with_reducible exact i32_eq (KC_inr _ _) | with_reducible exact idxC_i32 _ _ _ | exact i32_eq (by assumption) | exact i32_eq ⟨by omega, by omega⟩ | with_reducible exact i32_i32 _ | rfl) ?_
    refine J_ldiv dX2_tellDish_45 (by first | with_reducible exact i64_eq (VC_inl _ _) | with_reducible exact i64_eq (i32_inl _) | exact i64_eq ⟨by omega, by omega⟩ | rfl) (by first | with_reducible exact i64_eq (VC_inl _ _) | with_reducible exact i64_eq (i32_inl _) | exact i64_eq ⟨by omega, by omega⟩ | rfl) (by omega) ?_
    refine A_l2i dX2_tellDish_46 ?_
    refine J_iast lk_28 (by first | with_reducible exact i32_eq (KC_inr _ _) | with_reducible exact idxC_i32 _ _ _ | exact i32_eq (by assumption) | exact i32_eq ⟨by omega, by omega⟩ | with_reducible exact i32_i32 _ | rfl) (by omega) (by omega) (by decide) dX2_tellDish_47 ?_
    refine A_aload_n dX2_tellDish_48 rfl 1 rfl ?_
    refine A_getr fl_X2_25 lk_51 rfl dX2_tellDish_49 ?_
    refine A_getr fl_X2_175 lk_9 rfl dX2_tellDish_52 ?_
    refine A_iload_n dX2_tellDish_55 rfl 2 rfl ?_
    refine A_aload_n dX2_tellDish_56 rfl 1 rfl ?_
    refine A_geti fl_X2_111 lk_51 rfl dX2_tellDish_57 ?_
    try simp (disch := omega) only [up_k, up_j, up_s, KC_up, VC_up, idxC_up, eouC_up, up_k, up_j, up_s]
    refine J_iast lk_29 (by first | with_reducible exact i32_eq (KC_inr _ _) | with_reducible exact idxC_i32 _ _ _ | exact i32_eq (by assumption) | exact i32_eq ⟨by omega, by omega⟩ | with_reducible exact i32_i32 _ | rfl) (by omega) (by omega) (by decide) dX2_tellDish_60 ?_
    exact A_vret dX2_tellDish_61 (by rfl) (by (try simp (disch := omega) only [tdM, KC_up, VC_up, idxC_up, eouC_up, up_k, up_j, up_s]) <;> (repeat' split) <;> first | contradiction | (exfalso; omega) | with_reducible rfl | (simp (disch := omega) only [KC_up, VC_up, idxC_up, eouC_up, up_k, up_j, up_s]; done) | (simp_all; done))
end S17
