section S13c
variable {l : Launch} {G : Gx}
set_option maxRecDepth 100000 in
set_option maxHeartbeats 4000000 in
theorem w_X3_put {f : Fm} {Q : State → Prop} {xs : va_W} {kk nn rc rs : Nat} (d x b : Int) (hd : 0 ≤ i32 d ∧ i32 d < 14) (hm : kk ≤ rc ∧ nn ≤ rs) : ∀ (n : Nat) (i : Int) (a : Sg), 0 ≤ i → inr i → i + n = 8 → AW l G f (RX3, cX3_put, 7, none) (3, rc, rs) Q xs kk nn 135 [(0, .ref (lay G 55)), (1, .int (I32 d)), (3, .int (I32 x)), (4, .int (I32 b))] [] ((fG (fun i a => decide (i < i32 (a 18 4) ∧ i < 8)) (ptG d x b) n i a)) → AW l G f (RX3, cX3_put, 7, none) (3, rc, rs) Q xs kk nn 47 [(5, .int (I32 i)), (0, .ref (lay G 55)), (1, .int (I32 d)), (3, .int (I32 x)), (4, .int (I32 b))] [] (a) := by
  intro n
  induction n using Nat.strongRecOn with | _ n ih =>
  intro i a h0 hii hn  hK
  obtain ⟨hi1, hi2⟩ := hii
  refine A_iload dX3_put_47 0 rfl ?_
  refine A_aload_n dX3_put_49 rfl 1 rfl ?_
  refine A_getr fl_X3_29 lk_55 rfl dX3_put_50 ?_
  refine A_getr fl_X3_64 lk_9 rfl dX3_put_53 ?_
  refine A_geti fl_X3_68 lk_18 rfl dX3_put_56 ?_
  try simp (disch := omega) only [up_k, up_j, up_s]
  refine J_icmp_ge (tgt := 135) dX3_put_59 (by decide) (by first | exact i32_eq (by assumption) | exact i32_eq ⟨by omega, by omega⟩ | with_reducible exact i32_i32 _ | with_reducible exact i32_eq (b2i_inr _) | rfl) (by first | exact i32_eq (by assumption) | exact i32_eq ⟨by omega, by omega⟩ | with_reducible exact i32_i32 _ | with_reducible exact i32_eq (b2i_inr _) | rfl) (fun h59 => ?_) (fun h59 => ?_)
  · refine A_lv [1, 2, 3, 4] rfl ?_
    clear ih
    rcases n with _ | n <;> simp only [fG, decide_eq_true_eq] at hK <;> (repeat' split at hK) <;> first | contradiction | (exfalso; omega) | exact hK | (simp_all; done)
  · refine A_iload dX3_put_62 0 rfl ?_
    refine A_bipush dX3_put_64 (by decide +kernel) ?_
    refine J_icmp_ge (tgt := 135) dX3_put_66 (by decide) (by first | exact i32_eq (by assumption) | exact i32_eq ⟨by omega, by omega⟩ | with_reducible exact i32_i32 _ | with_reducible exact i32_eq (b2i_inr _) | rfl) (by first | exact i32_eq (by assumption) | exact i32_eq ⟨by omega, by omega⟩ | with_reducible exact i32_i32 _ | with_reducible exact i32_eq (b2i_inr _) | rfl) (fun h66 => ?_) (fun h66 => ?_)
    · refine A_lv [1, 2, 3, 4] rfl ?_
      clear ih
      rcases n with _ | n <;> simp only [fG, decide_eq_true_eq] at hK <;> (repeat' split at hK) <;> first | contradiction | (exfalso; omega) | exact hK | (simp_all; done)
    · refine A_aload_n dX3_put_69 rfl 1 rfl ?_
      refine A_iload dX3_put_70 0 rfl ?_
      refine A_iload_n dX3_put_72 rfl 3 rfl ?_
      refine A_Va2 mv_X3_73 lk_55 rfl rfl (c_X3_meaning _ _ _ (by omega)) (Nat.le_of_ble_eq_true rfl) (by omega) (by omega) dX3_put_73 ?_
      refine A_aload_n dX3_put_76 rfl 1 rfl ?_
      refine A_iload dX3_put_77 0 rfl ?_
      refine A_iload dX3_put_79 4 rfl ?_
      refine A_Va2 mv_X3_73 lk_55 rfl rfl (c_X3_meaning _ _ _ (by omega)) (Nat.le_of_ble_eq_true rfl) (by omega) (by omega) dX3_put_81 ?_
      refine A_isub dX3_put_84 ?_
      refine A_istore (lv2 := [(6, _), (5, _), (0, _), (1, _), (3, _), (4, _)]) dX3_put_85 (by decide) rfl ?_
      refine A_aload_n dX3_put_87 rfl 2 rfl ?_
      refine A_getr fl_X3_16 lk_55 rfl dX3_put_88 ?_
      refine A_iload dX3_put_91 1 rfl ?_
      refine J_aald lk_57 (by first | exact i32_eq (by assumption) | exact i32_eq ⟨by omega, by omega⟩ | with_reducible exact i32_i32 _ | with_reducible exact i32_eq (b2i_inr _) | rfl) (by omega) (by omega) (by decide) dX3_put_93 ?_
      refine A_iload_n dX3_put_94 rfl 3 rfl ?_
      refine A_dup2 dX3_put_95 rfl rfl ?_
      refine J_iald (lk_row75 (by omega)) (by first | exact i32_eq (by assumption) | exact i32_eq ⟨by omega, by omega⟩ | with_reducible exact i32_i32 _ | with_reducible exact i32_eq (b2i_inr _) | rfl) (by omega) (by omega) (by decide) dX3_put_96 ?_
      try simp (disch := omega) only [up_k, up_j, up_s]
      refine A_iload dX3_put_97 0 rfl ?_
      refine A_iadd dX3_put_99 ?_
      refine J_iast (lk_row75 (by omega)) (by first | exact i32_eq (by assumption) | exact i32_eq ⟨by omega, by omega⟩ | with_reducible exact i32_i32 _ | with_reducible exact i32_eq (b2i_inr _) | rfl) (by omega) (by omega) (by decide) dX3_put_100 ?_
      refine A_iload dX3_put_101 0 rfl ?_
      refine J_if_ne (tgt := 123) dX3_put_103 (by decide) (by first | exact i32_eq (by assumption) | exact i32_eq ⟨by omega, by omega⟩ | with_reducible exact i32_i32 _ | with_reducible exact i32_eq (b2i_inr _) | rfl) (fun h103 => ?_) (fun h103 => ?_)
      · refine A_aload_n dX3_put_123 rfl 2 rfl ?_
        refine A_iload dX3_put_124 1 rfl ?_
        refine A_Vv1 mv_X3_45 lk_55 rfl rfl (c_X3_recount _ _ (by omega)) (Nat.le_of_ble_eq_true rfl) (by omega) (by omega) dX3_put_126 ?_
        refine A_iinc (lv2 := [(5, _), (6, _), (0, _), (1, _), (3, _), (4, _)]) dX3_put_129 1 rfl (by decide) rfl ?_
        refine A_goto (tgt := 47) dX3_put_132 (by decide) ?_
        refine A_lv [0, 2, 3, 4, 5] rfl ?_
        refine ih (n - 1) (by omega) (i + 1) _ (by omega) ⟨by omega, by omega⟩ (by omega) ?_
        obtain ⟨n, rfl⟩ : ∃ q, n = q + 1 := ⟨n - 1, by omega⟩
        clear ih
        rw [fG_s] at hK
        simp only [Nat.add_sub_cancel]
        simp only [decide_eq_true_eq, ptG, ptA] at hK
        (repeat' split at hK) <;> first | contradiction | (exfalso; omega) | exact hK | (simp_all; done)
      · refine A_aload_n dX3_put_106 rfl 2 rfl ?_
        refine A_getr fl_X3_29 lk_55 rfl dX3_put_107 ?_
        refine A_getr fl_X3_64 lk_9 rfl dX3_put_110 ?_
        refine A_getr fl_X3_77 lk_18 rfl dX3_put_113 ?_
        refine A_iload dX3_put_116 1 rfl ?_
        refine J_iald lk_19 (by first | exact i32_eq (by assumption) | exact i32_eq ⟨by omega, by omega⟩ | with_reducible exact i32_i32 _ | with_reducible exact i32_eq (b2i_inr _) | rfl) (by omega) (by omega) (by decide) dX3_put_118 ?_
        try simp (disch := omega) only [up_k, up_j, up_s]
        refine A_iconst dX3_put_119 ?_
        refine J_icmp_ne (tgt := 129) dX3_put_120 (by decide) (by first | exact i32_eq (by assumption) | exact i32_eq ⟨by omega, by omega⟩ | with_reducible exact i32_i32 _ | with_reducible exact i32_eq (b2i_inr _) | rfl) (by first | exact i32_eq (by assumption) | exact i32_eq ⟨by omega, by omega⟩ | with_reducible exact i32_i32 _ | with_reducible exact i32_eq (b2i_inr _) | rfl) (fun h120 => ?_) (fun h120 => ?_)
        · refine A_iinc (lv2 := [(5, _), (6, _), (0, _), (1, _), (3, _), (4, _)]) dX3_put_129 1 rfl (by decide) rfl ?_
          refine A_goto (tgt := 47) dX3_put_132 (by decide) ?_
          refine A_lv [0, 2, 3, 4, 5] rfl ?_
          refine ih (n - 1) (by omega) (i + 1) _ (by omega) ⟨by omega, by omega⟩ (by omega) ?_
          obtain ⟨n, rfl⟩ : ∃ q, n = q + 1 := ⟨n - 1, by omega⟩
          clear ih
          rw [fG_s] at hK
          simp only [Nat.add_sub_cancel]
          simp only [decide_eq_true_eq, ptG, ptA] at hK
          (repeat' split at hK) <;> first | contradiction | (exfalso; omega) | exact hK | (simp_all; done)
        · refine A_aload_n dX3_put_123 rfl 2 rfl ?_
          refine A_iload dX3_put_124 1 rfl ?_
          refine A_Vv1 mv_X3_45 lk_55 rfl rfl (c_X3_recount _ _ (by omega)) (Nat.le_of_ble_eq_true rfl) (by omega) (by omega) dX3_put_126 ?_
          refine A_iinc (lv2 := [(5, _), (6, _), (0, _), (1, _), (3, _), (4, _)]) dX3_put_129 1 rfl (by decide) rfl ?_
          refine A_goto (tgt := 47) dX3_put_132 (by decide) ?_
          refine A_lv [0, 2, 3, 4, 5] rfl ?_
          refine ih (n - 1) (by omega) (i + 1) _ (by omega) ⟨by omega, by omega⟩ (by omega) ?_
          obtain ⟨n, rfl⟩ : ∃ q, n = q + 1 := ⟨n - 1, by omega⟩
          clear ih
          rw [fG_s] at hK
          simp only [Nat.add_sub_cancel]
          simp only [decide_eq_true_eq, ptG, ptA] at hK
          (repeat' split at hK) <;> first | contradiction | (exfalso; omega) | exact hK | (simp_all; done)
set_option maxRecDepth 100000 in
set_option maxHeartbeats 4000000 in
theorem c_X3_put (σ : Sg) (d c x : Int)  : Ct l G yX3_put cX3_put 7 none 3 0 0 [.ref (lay G 55), .int (I32 d), .int (I32 c), .int (I32 x)] σ (none) (ptC σ d c x) := by
  refine Ct.of (by decide +kernel) (Nat.le_of_ble_eq_true rfl) (fun f => ?_)
  show AW _ _ _ _ _ _ _ _ _ _ [(0, _), (1, _), (2, _), (3, _)] _ _
  refine A_aload_n dX3_put_0 rfl 0 rfl ?_
  refine A_iload_n dX3_put_1 rfl 1 rfl ?_
  refine A_iload_n dX3_put_2 rfl 2 rfl ?_
  refine A_Va2 mv_X3_56 lk_55 rfl rfl (c_X3_hasPlace _ _ _) (Nat.le_of_ble_eq_true rfl) (by omega) (by omega) dX3_put_3 ?_
  refine A_ifne_b (tgt := 10) dX3_put_6 (by decide) (fun h6 => ?_) (fun h6 => ?_)
  · have hh := hasPl_t h6
    refine A_aload_n dX3_put_10 rfl 0 rfl ?_
    refine A_getr fl_X3_11 lk_55 rfl dX3_put_11 ?_
    refine A_iload_n dX3_put_14 rfl 1 rfl ?_
    refine J_aald lk_56 (by first | exact i32_eq (by assumption) | exact i32_eq ⟨by omega, by omega⟩ | with_reducible exact i32_i32 _ | with_reducible exact i32_eq (b2i_inr _) | rfl) (by omega) (by omega) (by decide) dX3_put_15 ?_
    refine A_iload_n dX3_put_16 rfl 2 rfl ?_
    refine J_iald (lk_row61 (by omega)) (by first | exact i32_eq (by assumption) | exact i32_eq ⟨by omega, by omega⟩ | with_reducible exact i32_i32 _ | with_reducible exact i32_eq (b2i_inr _) | rfl) (by omega) (by omega) (by decide) dX3_put_17 ?_
    try simp (disch := omega) only [up_k, up_j, up_s]
    refine A_istore (lv2 := [(4, _), (0, _), (1, _), (2, _), (3, _)]) dX3_put_18 (by decide) rfl ?_
    refine A_aload_n dX3_put_20 rfl 1 rfl ?_
    refine A_getr fl_X3_11 lk_55 rfl dX3_put_21 ?_
    refine A_iload_n dX3_put_24 rfl 2 rfl ?_
    refine J_aald lk_56 (by first | exact i32_eq (by assumption) | exact i32_eq ⟨by omega, by omega⟩ | with_reducible exact i32_i32 _ | with_reducible exact i32_eq (b2i_inr _) | rfl) (by omega) (by omega) (by decide) dX3_put_25 ?_
    refine A_iload_n dX3_put_26 rfl 3 rfl ?_
    refine A_iload_n dX3_put_27 rfl 4 rfl ?_
    refine J_iast (lk_row61 (by omega)) (by first | exact i32_eq (by assumption) | exact i32_eq ⟨by omega, by omega⟩ | with_reducible exact i32_i32 _ | with_reducible exact i32_eq (b2i_inr _) | rfl) (by omega) (by omega) (by decide) dX3_put_28 ?_
    refine A_aload_n dX3_put_29 rfl 1 rfl ?_
    refine A_iload_n dX3_put_30 rfl 2 rfl ?_
    refine A_iload dX3_put_31 0 rfl ?_
    refine A_iconst dX3_put_33 ?_
    refine A_Vv3 mv_X3_60 lk_55 rfl rfl (c_X3_tally _ _ _ _ (by omega)) (Nat.le_of_ble_eq_true rfl) (by omega) (by omega) dX3_put_34 ?_
    refine A_aload_n dX3_put_37 rfl 1 rfl ?_
    refine A_iload_n dX3_put_38 rfl 2 rfl ?_
    refine A_iload_n dX3_put_39 rfl 4 rfl ?_
    refine A_iconst dX3_put_40 ?_
    refine A_Vv3 mv_X3_60 lk_55 rfl rfl (c_X3_tally _ _ _ _ (by omega)) (Nat.le_of_ble_eq_true rfl) (by omega) (by omega) dX3_put_41 ?_
    refine A_iconst dX3_put_44 ?_
    refine A_istore (lv2 := [(5, _), (4, _), (0, _), (1, _), (2, _), (3, _)]) dX3_put_45 (by decide) rfl ?_
    refine A_lv [0, 2, 3, 5, 1] rfl ?_
    refine w_X3_put d x _ ⟨hh.1.1, hh.1.2.2⟩ (by omega) 8 0 _ (by omega) ⟨by omega, by omega⟩ (by omega) ?_
    exact A_vret dX3_put_135 rfl (by simp only [ptC, pt1, if_pos h6])
  · exact A_vret dX3_put_9 (by rfl) (by simp only [ptC]; (repeat' split) <;> first | rfl | contradiction | simp_all)
end S13c
