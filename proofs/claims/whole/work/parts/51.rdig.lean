/-! the reference: buy, meanPrice, digest -/
section S51
variable {l : Launch} {G : Gx}
variable {σ : Sg}
set_option maxRecDepth 100000 in
set_option maxHeartbeats 4000000 in
theorem w_X11_bu {f : Fm} {Q : State → Prop} {xs : va_W} {kk nn rc rs : Nat} (σ : Sg) (x n0 : Int) (hP : PI σ) (hx : 0 ≤ x ∧ x < 16) (hn0 : 1 ≤ n0 ∧ n0 ≤ 1000) (hm : kk ≤ rc ∧ nn ≤ rs) : ∀ (n : Nat) (i : Int) (s : Int), 0 ≤ i → inr i → i + n = 16 → AW l G f (RX11, cX11_buy, 6, (some .long)) (2, rc, rs) Q xs kk nn 102 [(3, .long (I64 (fW (σ 84 15) (buG σ x n0) n i s))), (0, .ref (lay G 84)), (1, .int (I32 x)), (2, .int (I32 n0))] [] (σ) → AW l G f (RX11, cX11_buy, 6, (some .long)) (2, rc, rs) Q xs kk nn 52 [(5, .int (I32 i)), (3, .long (I64 s)), (0, .ref (lay G 84)), (1, .int (I32 x)), (2, .int (I32 n0))] [] (σ) := by
  intro n
  induction n using Nat.strongRecOn with | _ n ih =>
  intro i s h0 hii hn  hK
  obtain ⟨hi1, hi2⟩ := hii
  obtain ⟨hC1, hC2, hC3, hC4, hC5, hC6⟩ := id hP.1
  obtain ⟨hM1, hM2⟩ := id hP.2.2.2.1
  refine A_iload dX11_buy_52 0 rfl ?_
  refine A_aload_n dX11_buy_54 rfl 2 rfl ?_
  refine A_geti fl_X11_247 lk_84 rfl dX11_buy_55 ?_
  refine J_icmp_ge (tgt := 102) dX11_buy_58 (by decide) (by first | exact i32_eq (by assumption) | with_reducible exact tiV_i32 _ | exact i32_eq ⟨by omega, by omega⟩ | rfl) (by first | exact i32_eq (by assumption) | with_reducible exact tiV_i32 _ | exact i32_eq ⟨by omega, by omega⟩ | rfl) (fun h58 => ?_) (fun h58 => ?_)
  · refine A_lv [1, 2, 3, 4] rfl ?_
    clear ih
    rcases n with _ | n <;> simp only [fW] at hK <;> (repeat' split at hK) <;> first | contradiction | (exfalso; omega) | exact hK | (simp_all; done)
  · have hD1 := hP.2.1.1 i.toNat (by omega)
    refine A_lload_n dX11_buy_61 rfl 1 rfl ?_
    refine A_aload_n dX11_buy_62 rfl 2 rfl ?_
    refine A_iload dX11_buy_63 0 rfl ?_
    refine A_Va1 mv_X11_382 lk_84 rfl rfl (c_X11_timesOf i ⟨by omega, by omega⟩ hP) (Nat.le_of_ble_eq_true rfl) (by omega) (by omega) dX11_buy_65 ?_
    refine J_i2l dX11_buy_68 (by first | exact i32_eq (by assumption) | with_reducible exact tiV_i32 _ | exact i32_eq ⟨by omega, by omega⟩ | rfl) ?_
    refine A_iload_n dX11_buy_69 rfl 4 rfl ?_
    refine J_i2l dX11_buy_70 (by first | exact i32_eq (by assumption) | with_reducible exact tiV_i32 _ | exact i32_eq ⟨by omega, by omega⟩ | rfl) ?_
    refine A_aload_n dX11_buy_71 rfl 2 rfl ?_
    refine A_getr fl_X11_57 lk_84 rfl dX11_buy_72 ?_
    refine A_bipush dX11_buy_75 (by decide +kernel) ?_
    refine A_iload dX11_buy_77 0 rfl ?_
    refine A_imul dX11_buy_79 ?_
    refine A_iload_n dX11_buy_80 rfl 3 rfl ?_
    refine A_iadd dX11_buy_81 ?_
    refine J_lald lk_99 (by first | exact i32_eq (by assumption) | with_reducible exact tiV_i32 _ | exact i32_eq ⟨by omega, by omega⟩ | rfl) (by omega) (by omega) (by decide) dX11_buy_82 ?_
    try simp (disch := omega) only [up_k, up_j, up_s]
    refine A_lmul dX11_buy_83 ?_
    refine A_aload_n dX11_buy_84 rfl 2 rfl ?_
    refine A_getr fl_X11_42 lk_84 rfl dX11_buy_85 ?_
    refine A_iload dX11_buy_88 0 rfl ?_
    refine J_iald lk_94 (by first | exact i32_eq (by assumption) | with_reducible exact tiV_i32 _ | exact i32_eq ⟨by omega, by omega⟩ | rfl) (by omega) (by omega) (by decide) dX11_buy_90 ?_
    try simp (disch := omega) only [up_k, up_j, up_s]
    refine J_i2l dX11_buy_91 (by first | exact i32_eq (by assumption) | with_reducible exact tiV_i32 _ | exact i32_eq ⟨by omega, by omega⟩ | rfl) ?_
    refine J_ldiv dX11_buy_92 (by first | exact i64_eq ⟨by omega, by omega⟩ | rfl) (by first | exact i64_eq ⟨by omega, by omega⟩ | rfl) (by omega) ?_
    refine A_lmul dX11_buy_93 ?_
    refine A_ladd dX11_buy_94 ?_
    refine A_lstore_n (lv2 := [(3, _), (5, _), (0, _), (1, _), (2, _)]) dX11_buy_95 rfl (by decide) rfl ?_
    refine A_iinc (lv2 := [(5, _), (3, _), (0, _), (1, _), (2, _)]) dX11_buy_96 1 rfl (by decide) rfl ?_
    refine A_goto (tgt := 52) dX11_buy_99 (by decide) ?_
    refine A_lv [0, 1, 2, 3, 4] rfl ?_
    refine ih (n - 1) (by omega) (i + 1) _ (by omega) ⟨by omega, by omega⟩ (by omega) ?_
    obtain ⟨n, rfl⟩ : ∃ q, n = q + 1 := ⟨n - 1, by omega⟩
    clear ih
    rw [fW_s] at hK
    simp only [Nat.add_sub_cancel]
    simp only [buG] at hK
    (repeat' split at hK) <;> first | contradiction | (exfalso; omega) | exact hK | (simp_all; done)
theorem buT_1 {x n : Int} (h : inR x 0 (σ 84 10 - 1) = false) : buT σ x n = 1 := if_neg (by rw [h]; decide)
theorem buT_2 {x n : Int} (h : inR x 0 (σ 84 10 - 1) = true) (h2 : inR n 1 1000 = false) : buT σ x n = 2 := (if_pos h).trans (if_neg (by rw [h2]; decide))
theorem buT_0 {x n : Int} (h : inR x 0 (σ 84 10 - 1) = true) (h2 : inR n 1 1000 = true) : buT σ x n = 0 := (if_pos h).trans (if_pos h2)
set_option maxRecDepth 100000 in
set_option maxHeartbeats 4000000 in
theorem c_X11_buy (x n : Int) (hP : PI σ) (hx : inr x) (hy : inr n) : Ct l G yX11_buy cX11_buy 6 (some .long) 2 0 0 [.ref (lay G 84), .int (I32 x), .int (I32 n)] σ (some (.long (I64 (buRV σ x n)))) (up σ 84 0 (buT σ x n)) := by
  obtain ⟨hC1, hC2, hC3, hC4, hC5, hC6⟩ := id hP.1
  obtain ⟨hM1, hM2⟩ := id hP.2.2.2.1
  refine Ct.of (by decide +kernel) (Nat.le_of_ble_eq_true rfl) (fun f => ?_)
  show AW _ _ _ _ _ _ _ _ _ _ [(0, _), (1, _), (2, _)] _ _
  refine A_aload_n dX11_buy_0 rfl 0 rfl ?_
  refine A_iload_n dX11_buy_1 rfl 1 rfl ?_
  refine A_iconst dX11_buy_2 ?_
  refine A_aload_n dX11_buy_3 rfl 0 rfl ?_
  refine A_geti fl_X11_240 lk_84 rfl dX11_buy_4 ?_
  refine A_iconst dX11_buy_7 ?_
  refine A_isub dX11_buy_8 ?_
  refine A_Sa3 ms_X11_106 (c_X11_isIn _ _ _ _) (Nat.le_of_ble_eq_true rfl) (by omega) (by omega) dX11_buy_9 ?_
  refine A_ifne_b (tgt := 19) dX11_buy_12 (by decide) (fun h12 => ?_) (fun h12 => ?_)
  · have hb12 := inR_t hx inr_0 (hi := σ 84 10 - 1) ⟨by omega, by omega⟩ h12
    refine A_iload_n dX11_buy_19 rfl 2 rfl ?_
    refine A_iconst dX11_buy_20 ?_
    refine A_sipush dX11_buy_21 (by decide +kernel) ?_
    refine A_Sa3 ms_X11_106 (c_X11_isIn _ _ _ _) (Nat.le_of_ble_eq_true rfl) (by omega) (by omega) dX11_buy_24 ?_
    refine A_ifne_b (tgt := 34) dX11_buy_27 (by decide) (fun h27 => ?_) (fun h27 => ?_)
    · have hb27 := inR_t hy (by exact ⟨by decide, by decide⟩) (by exact ⟨by decide, by decide⟩) h27
      refine A_iconst dX11_buy_34 ?_
      refine A_puti fl_X11_96 lk_84 rfl dX11_buy_35 ?_
      refine A_aload_n dX11_buy_38 rfl 0 rfl ?_
      refine A_geti fl_X11_96 lk_84 rfl dX11_buy_39 ?_
      try simp (disch := omega) only [up_k, up_j, up_s]
      refine J_if_eq (tgt := 47) dX11_buy_42 (by decide) (by first | exact i32_eq (by assumption) | with_reducible exact hfV_i32 _ | with_reducible exact afV_i32 _ | with_reducible exact mnIn_i32 _ _ _ | with_reducible exact tiV_i32 _ | exact i32_eq ⟨by omega, by omega⟩ | with_reducible exact i32_i32 _ | with_reducible exact i32_eq (b2i_inr _) | with_reducible exact iand_i32 _ _ | rfl) (fun h42 => ?_) (fun h42 => ?_)
      · refine A_lconst (w := 0) dX11_buy_47 rfl ?_
        refine A_lstore_n (lv2 := [(3, _), (0, _), (1, _), (2, _)]) dX11_buy_48 rfl (by decide) rfl ?_
        refine A_iconst dX11_buy_49 ?_
        refine A_istore (lv2 := [(5, _), (3, _), (0, _), (1, _), (2, _)]) dX11_buy_50 (by decide) rfl ?_
        refine A_lv [0, 1, 2, 3, 4] rfl ?_
        refine w_X11_bu (up σ 84 0 0) x n hP ⟨by omega, by omega⟩ hb27 (by omega) 16 0 0 (by omega) ⟨by omega, by omega⟩ (by omega) ?_
        refine A_lload_n dX11_buy_102 rfl 0 rfl ?_
        exact A_lret dX11_buy_103 (by unfold buRV; rw [buT_0 h12 h27]; rfl) (by rw [buT_0 h12 h27])
      · exact absurd h42 (by decide)
        --end
    · refine A_iconst dX11_buy_30 ?_
      refine A_goto (tgt := 35) dX11_buy_31 (by decide) ?_
      refine A_puti fl_X11_96 lk_84 rfl dX11_buy_35 ?_
      refine A_aload_n dX11_buy_38 rfl 0 rfl ?_
      refine A_geti fl_X11_96 lk_84 rfl dX11_buy_39 ?_
      try simp (disch := omega) only [up_k, up_j, up_s]
      refine J_if_eq (tgt := 47) dX11_buy_42 (by decide) (by first | exact i32_eq (by assumption) | with_reducible exact hfV_i32 _ | with_reducible exact afV_i32 _ | with_reducible exact mnIn_i32 _ _ _ | with_reducible exact tiV_i32 _ | exact i32_eq ⟨by omega, by omega⟩ | with_reducible exact i32_i32 _ | with_reducible exact i32_eq (b2i_inr _) | with_reducible exact iand_i32 _ _ | rfl) (fun h42 => ?_) (fun h42 => ?_)
      · exact absurd h42 (by decide)
        --end
      · refine A_lconst (w := 0) dX11_buy_45 rfl ?_
        exact A_lret dX11_buy_46 (by unfold buRV; rw [buT_2 h12 h27]; rfl) (by rw [buT_2 h12 h27])
  · refine A_iconst dX11_buy_15 ?_
    refine A_goto (tgt := 35) dX11_buy_16 (by decide) ?_
    refine A_puti fl_X11_96 lk_84 rfl dX11_buy_35 ?_
    refine A_aload_n dX11_buy_38 rfl 0 rfl ?_
    refine A_geti fl_X11_96 lk_84 rfl dX11_buy_39 ?_
    try simp (disch := omega) only [up_k, up_j, up_s]
    refine J_if_eq (tgt := 47) dX11_buy_42 (by decide) (by first | exact i32_eq (by assumption) | with_reducible exact hfV_i32 _ | with_reducible exact afV_i32 _ | with_reducible exact mnIn_i32 _ _ _ | with_reducible exact tiV_i32 _ | exact i32_eq ⟨by omega, by omega⟩ | with_reducible exact i32_i32 _ | with_reducible exact i32_eq (b2i_inr _) | with_reducible exact iand_i32 _ _ | rfl) (fun h42 => ?_) (fun h42 => ?_)
    · exact absurd h42 (by decide)
      --end
    · refine A_lconst (w := 0) dX11_buy_45 rfl ?_
      exact A_lret dX11_buy_46 (by unfold buRV; rw [buT_1 h12]; rfl) (by rw [buT_1 h12])
theorem mqT_0 : 0 ≤ (mqT σ).2 ∧ (mqT σ).2 ≤ 1792 := by
  have : ∀ (n : Nat) (i : Int) (q : Int × Int), 0 ≤ q.2 → (0 ≤ (fW (σ 84 15) (mqG σ) n i q).2 ∧ (fW (σ 84 15) (mqG σ) n i q).2 ≤ q.2 + 112 * n) := by
    intro n
    induction n with
    | zero => intro i q h; exact ⟨h, by simp [fW]⟩
    | succ n ih =>
      intro i q h
      rw [fW_s]
      split
      · have h1 := tiV_bd (σ := σ) i
        have := ih (i + 1) (mqG σ i q) (by unfold mqG; dsimp only; omega)
        have e : (mqG σ i q).2 = q.2 + tiV σ i := rfl
        omega
      · omega
  have := this 16 0 (0, 0) (Int.le_refl _)
  unfold mqT
  dsimp only at this
  omega
theorem mqT_i : i32 (mqT σ).2 = (mqT σ).2 := i32_n _ (by have := mqT_0 (σ := σ); omega)
theorem dbl_64 (x : Int) : dbl (i32 x) = dbl (i64 (i32 x)) := by
  have h := i32_inr x
  have h2 : inr (i32 x) := h
  obtain ⟨h3, h4⟩ := h2
  rw [i64_eq ⟨by omega, by omega⟩]
theorem A_ddiv2 {f : Fm} {own : String} {cc : ByteArray} {nL : Nat} {rt : Option FieldType} {b : Nat × Nat × Nat} {Q : State → Prop} {xs : va_W} {k n pc : Nat} {lv : List (Nat × Value)} {rest : List Value} {x y y1 : Int} (d : decode cc pc = .ok (.ddiv, 1)) (e : i32 y = y1) (hy : y1 ≠ 0) (g : AW l G f (own, cc, nL, rt) b Q xs k n (pc + 1) lv (.double (FP.ddiv (dbl (i32 x)) (dbl y1)) :: rest) σ) : AW l G f (own, cc, nL, rt) b Q xs k n pc lv (.double (dbl (i32 y)) :: .double (dbl (i32 x)) :: rest) σ := by
  rw [dbl_64 x] at g ⊢
  refine A_ddiv d (by rw [e]; exact hy) ?_
  rw [e]; exact g
set_option maxRecDepth 100000 in
set_option maxHeartbeats 4000000 in
theorem w_X11_mq {f : Fm} {Q : State → Prop} {xs : va_W} {kk nn rc rs : Nat} (σ : Sg) (hP : PI σ) (hm : kk ≤ rc ∧ nn ≤ rs) : ∀ (n : Nat) (i : Int) (s1 s2 : Int), 0 ≤ i → inr i → i + n = 16 → AW l G f (RX11, cX11_meanPrice, 4, (some .double)) (2, rc, rs) Q xs kk nn 47 [(1, .int (I32 (fW (σ 84 15) (mqG σ) n i (s1, s2)).1)), (2, .int (I32 (fW (σ 84 15) (mqG σ) n i (s1, s2)).2)), (0, .ref (lay G 84))] [] (σ) → AW l G f (RX11, cX11_meanPrice, 4, (some .double)) (2, rc, rs) Q xs kk nn 11 [(3, .int (I32 i)), (1, .int (I32 s1)), (2, .int (I32 s2)), (0, .ref (lay G 84))] [] (σ) := by
  intro n
  induction n using Nat.strongRecOn with | _ n ih =>
  intro i s1 s2 h0 hii hn  hK
  obtain ⟨hi1, hi2⟩ := hii
  obtain ⟨hC1, hC2, hC3, hC4, hC5, hC6⟩ := id hP.1
  obtain ⟨hM1, hM2⟩ := id hP.2.2.2.1
  refine A_iload_n dX11_meanPrice_11 rfl 0 rfl ?_
  refine A_aload_n dX11_meanPrice_12 rfl 3 rfl ?_
  refine A_geti fl_X11_247 lk_84 rfl dX11_meanPrice_13 ?_
  refine J_icmp_ge (tgt := 47) dX11_meanPrice_16 (by decide) (by first | exact i32_eq (by assumption) | exact i32_eq ⟨by omega, by omega⟩ | with_reducible exact i32_i32 _ | with_reducible exact i32_eq (b2i_inr _) | rfl) (by first | exact i32_eq (by assumption) | exact i32_eq ⟨by omega, by omega⟩ | with_reducible exact i32_i32 _ | with_reducible exact i32_eq (b2i_inr _) | rfl) (fun h16 => ?_) (fun h16 => ?_)
  · refine A_lv [1, 2, 3] rfl ?_
    clear ih
    rcases n with _ | n <;> simp only [fW] at hK <;> (repeat' split at hK) <;> first | contradiction | (exfalso; omega) | exact hK | (simp_all; done)
  · refine A_iload_n dX11_meanPrice_19 rfl 1 rfl ?_
    refine A_aload_n dX11_meanPrice_20 rfl 3 rfl ?_
    refine A_iload_n dX11_meanPrice_21 rfl 0 rfl ?_
    refine A_Va1 mv_X11_382 lk_84 rfl rfl (c_X11_timesOf i ⟨by omega, by omega⟩ hP) (Nat.le_of_ble_eq_true rfl) (by omega) (by omega) dX11_meanPrice_22 ?_
    refine A_aload_n dX11_meanPrice_25 rfl 3 rfl ?_
    refine A_iload_n dX11_meanPrice_26 rfl 0 rfl ?_
    refine A_Va1 mv_X11_347 lk_84 rfl rfl (c_X11_priceOf i hP ⟨by omega, by omega⟩) (Nat.le_of_ble_eq_true rfl) (by omega) (by omega) dX11_meanPrice_27 ?_
    refine A_imul dX11_meanPrice_30 ?_
    refine A_iadd dX11_meanPrice_31 ?_
    refine A_istore_n (lv2 := [(1, _), (3, _), (2, _), (0, _)]) dX11_meanPrice_32 rfl (by decide) rfl ?_
    refine A_iload_n dX11_meanPrice_33 rfl 2 rfl ?_
    refine A_aload_n dX11_meanPrice_34 rfl 3 rfl ?_
    refine A_iload_n dX11_meanPrice_35 rfl 1 rfl ?_
    refine A_Va1 mv_X11_382 lk_84 rfl rfl (c_X11_timesOf i ⟨by omega, by omega⟩ hP) (Nat.le_of_ble_eq_true rfl) (by omega) (by omega) dX11_meanPrice_36 ?_
    refine A_iadd dX11_meanPrice_39 ?_
    refine A_istore_n (lv2 := [(2, _), (1, _), (3, _), (0, _)]) dX11_meanPrice_40 rfl (by decide) rfl ?_
    refine A_iinc (lv2 := [(3, _), (2, _), (1, _), (0, _)]) dX11_meanPrice_41 2 rfl (by decide) rfl ?_
    refine A_goto (tgt := 11) dX11_meanPrice_44 (by decide) ?_
    refine A_lv [0, 2, 1, 3] rfl ?_
    refine ih (n - 1) (by omega) (i + 1) _ _ (by omega) ⟨by omega, by omega⟩ (by omega) ?_
    obtain ⟨n, rfl⟩ : ∃ q, n = q + 1 := ⟨n - 1, by omega⟩
    clear ih
    rw [fW_s] at hK
    simp only [Nat.add_sub_cancel]
    simp only [mqG] at hK
    (repeat' split at hK) <;> first | contradiction | (exfalso; omega) | exact hK | (simp_all; done)
set_option maxRecDepth 100000 in
set_option maxHeartbeats 4000000 in
theorem c_X11_meanPrice  (hP : PI σ) : Ct l G yX11_meanPrice cX11_meanPrice 4 (some .double) 2 0 0 [.ref (lay G 84)] σ (some (.double (mqV (up σ 84 0 0)))) (up σ 84 0 0) := by
  have hP0 : PI (up σ 84 0 0) := hP
  obtain ⟨hC1, hC2, hC3, hC4, hC5, hC6⟩ := id hP.1
  obtain ⟨hM1, hM2⟩ := id hP.2.2.2.1
  refine Ct.of (by decide +kernel) (Nat.le_of_ble_eq_true rfl) (fun f => ?_)
  show AW _ _ _ _ _ _ _ _ _ _ [(0, _)] _ _
  refine A_aload_n dX11_meanPrice_0 rfl 0 rfl ?_
  refine A_iconst dX11_meanPrice_1 ?_
  refine A_puti fl_X11_96 lk_84 rfl dX11_meanPrice_2 ?_
  refine A_iconst dX11_meanPrice_5 ?_
  refine A_istore_n (lv2 := [(1, _), (0, _)]) dX11_meanPrice_6 rfl (by decide) rfl ?_
  refine A_iconst dX11_meanPrice_7 ?_
  refine A_istore_n (lv2 := [(2, _), (1, _), (0, _)]) dX11_meanPrice_8 rfl (by decide) rfl ?_
  refine A_iconst dX11_meanPrice_9 ?_
  refine A_istore_n (lv2 := [(3, _), (2, _), (1, _), (0, _)]) dX11_meanPrice_10 rfl (by decide) rfl ?_
  refine A_lv [0, 2, 1, 3] rfl ?_
  refine w_X11_mq (up σ 84 0 0) hP (by omega) 16 0 0 0 (by omega) ⟨by omega, by omega⟩ (by omega) ?_
  show AW _ _ _ _ _ _ _ _ _ _ [(_, .int (I32 (mqT (up σ 84 0 0)).1)), (_, .int (I32 (mqT (up σ 84 0 0)).2)), _] _ _
  refine A_iload_n dX11_meanPrice_47 rfl 1 rfl ?_
  refine J_if_ne (tgt := 55) dX11_meanPrice_48 (by decide) (by first | with_reducible exact mqT_i | exact i32_eq ⟨by omega, by omega⟩ | rfl) (fun h48 => ?_) (fun h48 => ?_)
  · refine A_iload_n dX11_meanPrice_55 rfl 0 rfl ?_
    refine A_i2d dX11_meanPrice_56 ?_
    refine A_iload_n dX11_meanPrice_57 rfl 1 rfl ?_
    refine A_i2d dX11_meanPrice_58 ?_
    refine A_ddiv2 dX11_meanPrice_59 mqT_i (by first | exact h48 | omega) ?_
    exact A_dret dX11_meanPrice_60 (by first | (rw [show mqV (up σ 84 0 0) = FP.dconst0 from if_pos (by first | exact h48 | omega)]; done) | (rw [show mqV (up σ 84 0 0) = _ from if_neg (by first | exact h48 | omega)])) (by rfl)
  · refine A_dconst0 dX11_meanPrice_51 ?_
    refine A_goto (tgt := 60) dX11_meanPrice_52 (by decide) ?_
    exact A_dret dX11_meanPrice_60 (by first | (rw [show mqV (up σ 84 0 0) = FP.dconst0 from if_pos (by first | exact h48 | omega)]; done) | (rw [show mqV (up σ 84 0 0) = _ from if_neg (by first | exact h48 | omega)])) (by rfl)
def dgC2 (σ : Sg) (w a : Int) : Int := a * 31 + i32 (cnV σ w)
def dgF2 (σ : Sg) (f a : Int) : Int := fW 3 (fun w a => a * 31 + i32 (fT σ f w)) 3 0 a
def dgD2 (σ : Sg) (f a : Int) : Int := fW 5 (fun w a => a * 31 + i32 (dT σ f w)) 5 0 a
def dgH2 (σ : Sg) (c a : Int) : Int := (a * 31 + i32 (σ 101 c.toNat)) * 31 + i32 (σ 102 c.toNat)
def dgR2 (σ : Sg) (f a : Int) : Int := fW 4 (fun w a => a * 31 + i32 (rT σ f w)) 4 0 a
def dgM2 (σ : Sg) (d a : Int) : Int := fW (σ 84 25) (fun c a => a * 31 + i32 (dA σ d c)) 8 0 a
def dgT2 (σ : Sg) : Int := (fW (σ 84 39) (dgM2 σ) 14 0 (fW (σ 84 30) (dgR2 σ) 8 0 (fW (σ 84 25) (dgH2 σ) 8 0 (fW (σ 84 15) (dgD2 σ) 16 0 (fW (σ 84 10) (dgF2 σ) 16 0 (fW 8 (dgC2 σ) 8 0 359)))))) * 31 + i32 (afV σ)
set_option maxRecDepth 100000 in
set_option maxHeartbeats 4000000 in
theorem w_X11_dg11 {f : Fm} {Q : State → Prop} (σ : Sg) : ∀ (n c : Nat) (a : Int), c + n = 8 → AW l G f (RX11, cX11_digest, 5, (some .long)) (5, 8, 64) Q [] 8 64 36 [(1, .long (I64 (fW 8 (dgC2 σ) n c a))), (0, .ref (lay G 84))] [] σ → AW l G f (RX11, cX11_digest, 5, (some .long)) (5, 8, 64) (Q) [] c (8 * c) 11 [(3, .int (I32 c)), (1, .long (I64 a)), (0, .ref (lay G 84))] [] σ := by
  intro n
  induction n using Nat.strongRecOn with | _ n ih =>
  intro c a hn hK
  refine A_iload_n dX11_digest_11 rfl 0 rfl ?_
  refine A_bipush dX11_digest_12 (by decide +kernel) ?_
  refine J_icmp_ge (tgt := 36) dX11_digest_14 (by decide) (by first | exact i32_eq ⟨by omega, by omega⟩ | rfl) (by first | exact i32_eq ⟨by omega, by omega⟩ | rfl) (fun h14 => ?_) (fun h14 => ?_)
  · refine A_lv [1, 2] rfl ?_
    clear ih
    obtain rfl : n = 0 := by omega
    obtain rfl : c = 8 := by omega
    exact hK
  · refine A_lload_n dX11_digest_17 rfl 1 rfl ?_
    refine A_ldc2 kc_X11_396 dX11_digest_18 ?_
    refine A_lmul dX11_digest_21 ?_
    refine A_aload_n dX11_digest_22 rfl 2 rfl ?_
    refine A_iload_n dX11_digest_23 rfl 0 rfl ?_
    refine A_Vm1 (k2 := (c + 1)) (n2 := (8 * c + 8)) mv_X11_338 lk_84 rfl rfl (c_X11_counted (c : Int) ⟨by omega, by omega⟩) (Nat.le_of_ble_eq_true rfl) (by omega) (by omega) rfl rfl dX11_digest_24 ?_
    refine J_i2l dX11_digest_27 (by first | exact i32_eq ⟨by omega, by omega⟩ | rfl) ?_
    refine A_ladd dX11_digest_28 ?_
    refine A_lstore_n (lv2 := [(1, _), (3, _), (0, _)]) dX11_digest_29 rfl (by decide) rfl ?_
    refine A_iinc (lv2 := [(3, _), (1, _), (0, _)]) dX11_digest_30 1 rfl (by decide) rfl ?_
    refine A_goto (tgt := 11) dX11_digest_33 (by decide) ?_
    refine A_lv [0, 1, 2] rfl ?_
    refine ih (n - 1) (by omega) (c + 1) _ (by omega) ?_
    obtain ⟨n, rfl⟩ : ∃ q, n = q + 1 := ⟨n - 1, by omega⟩
    clear ih
    rw [fW_s, if_pos (by omega)] at hK
    simp only [Nat.add_sub_cancel]
    exact hK
set_option maxRecDepth 100000 in
set_option maxHeartbeats 4000000 in
theorem w_X11_dg49 {f : Fm} {Q : State → Prop} {xs : va_W} {kk nn rc rs : Nat} (σ : Sg) (f0 : Int) (hf : 0 ≤ f0 ∧ f0 < 16) (hm : kk ≤ rc ∧ nn ≤ rs) : ∀ (n : Nat) (i : Int) (s : Int), 0 ≤ i → inr i → i + n = 3 → AW l G f (RX11, cX11_digest, 5, (some .long)) (5, rc, rs) Q xs kk nn 76 [(1, .long (I64 (fW (3) (fun w a => a * 31 + i32 (fT σ f0 w)) n i s))), (0, .ref (lay G 84)), (3, .int (I32 f0))] [] (σ) → AW l G f (RX11, cX11_digest, 5, (some .long)) (5, rc, rs) Q xs kk nn 49 [(4, .int (I32 i)), (1, .long (I64 s)), (0, .ref (lay G 84)), (3, .int (I32 f0))] [] (σ) := by
  intro n
  induction n using Nat.strongRecOn with | _ n ih =>
  intro i s h0 hii hn  hK
  obtain ⟨hi1, hi2⟩ := hii
  refine A_iload dX11_digest_49 0 rfl ?_
  refine A_iconst dX11_digest_51 ?_
  refine J_icmp_ge (tgt := 76) dX11_digest_52 (by decide) (by first | exact i32_eq ⟨by omega, by omega⟩ | rfl) (by first | exact i32_eq ⟨by omega, by omega⟩ | rfl) (fun h52 => ?_) (fun h52 => ?_)
  · refine A_lv [1, 2, 3] rfl ?_
    clear ih
    cases n with | zero => exact hK | succ n => rw [fW_s, if_neg (by omega)] at hK; exact hK
  · refine A_lload_n dX11_digest_55 rfl 1 rfl ?_
    refine A_ldc2 kc_X11_396 dX11_digest_56 ?_
    refine A_lmul dX11_digest_59 ?_
    refine A_aload_n dX11_digest_60 rfl 2 rfl ?_
    refine A_iload_n dX11_digest_61 rfl 3 rfl ?_
    refine A_iload dX11_digest_62 0 rfl ?_
    refine A_Va2 mv_X11_341 lk_84 rfl rfl (c_X11_foodTold f0 i hf (by exact ⟨by omega, by omega⟩)) (Nat.le_of_ble_eq_true rfl) (by omega) (by omega) dX11_digest_64 ?_
    refine J_i2l dX11_digest_67 (by first | exact i32_eq ⟨by omega, by omega⟩ | rfl) ?_
    refine A_ladd dX11_digest_68 ?_
    refine A_lstore_n (lv2 := [(1, _), (4, _), (0, _), (3, _)]) dX11_digest_69 rfl (by decide) rfl ?_
    refine A_iinc (lv2 := [(4, _), (1, _), (0, _), (3, _)]) dX11_digest_70 1 rfl (by decide) rfl ?_
    refine A_goto (tgt := 49) dX11_digest_73 (by decide) ?_
    refine A_lv [0, 1, 2, 3] rfl ?_
    refine ih (n - 1) (by omega) (i + 1) _ (by omega) ⟨by omega, by omega⟩ (by omega) ?_
    obtain ⟨n, rfl⟩ : ∃ q, n = q + 1 := ⟨n - 1, by omega⟩
    clear ih
    rw [fW_s] at hK
    simp only [Nat.add_sub_cancel]
    (repeat' split at hK) <;> first | contradiction | (exfalso; omega) | exact hK | (simp_all; done)
set_option maxRecDepth 100000 in
set_option maxHeartbeats 4000000 in
theorem w_X11_dg38 {f : Fm} {Q : State → Prop} {xs : va_W} {kk nn rc rs : Nat} (σ : Sg) (hP : PI σ) (hm : kk ≤ rc ∧ nn ≤ rs) : ∀ (n : Nat) (i : Int) (s : Int), 0 ≤ i → inr i → i + n = 16 → AW l G f (RX11, cX11_digest, 5, (some .long)) (5, rc, rs) Q xs kk nn 82 [(1, .long (I64 (fW (σ 84 10) (dgF2 σ) n i s))), (0, .ref (lay G 84))] [] (σ) → AW l G f (RX11, cX11_digest, 5, (some .long)) (5, rc, rs) Q xs kk nn 38 [(3, .int (I32 i)), (1, .long (I64 s)), (0, .ref (lay G 84))] [] (σ) := by
  intro n
  induction n using Nat.strongRecOn with | _ n ih =>
  intro i s h0 hii hn  hK
  obtain ⟨hi1, hi2⟩ := hii
  obtain ⟨hC1, hC2, hC3, hC4, hC5, hC6⟩ := id hP.1
  obtain ⟨hM1, hM2⟩ := id hP.2.2.2.1
  refine A_iload_n dX11_digest_38 rfl 0 rfl ?_
  refine A_aload_n dX11_digest_39 rfl 2 rfl ?_
  refine A_geti fl_X11_240 lk_84 rfl dX11_digest_40 ?_
  refine J_icmp_ge (tgt := 82) dX11_digest_43 (by decide) (by first | exact i32_eq ⟨by omega, by omega⟩ | rfl) (by first | exact i32_eq ⟨by omega, by omega⟩ | rfl) (fun h43 => ?_) (fun h43 => ?_)
  · refine A_lv [1, 2] rfl ?_
    clear ih
    cases n with | zero => exact hK | succ n => rw [fW_s, if_neg (by omega)] at hK; exact hK
  · refine A_iconst dX11_digest_46 ?_
    refine A_istore (lv2 := [(4, _), (3, _), (1, _), (0, _)]) dX11_digest_47 (by decide) rfl ?_
    refine A_lv [0, 2, 3, 1] rfl ?_
    refine w_X11_dg49 σ i ⟨by omega, by omega⟩ hm 3 0 _ (by omega) ⟨by omega, by omega⟩ (by omega) ?_
    refine A_iinc (lv2 := [(3, _), (1, _), (0, _)]) dX11_digest_76 2 rfl (by decide) rfl ?_
    refine A_goto (tgt := 38) dX11_digest_79 (by decide) ?_
    refine ih (n - 1) (by omega) (i + 1) _ (by omega) ⟨by omega, by omega⟩ (by omega) ?_
    obtain ⟨n, rfl⟩ : ∃ q, n = q + 1 := ⟨n - 1, by omega⟩
    clear ih
    rw [fW_s, if_pos (by omega)] at hK
    simp only [Nat.add_sub_cancel]
    exact hK
set_option maxRecDepth 100000 in
set_option maxHeartbeats 4000000 in
theorem w_X11_dg95 {f : Fm} {Q : State → Prop} {xs : va_W} {kk nn rc rs : Nat} (σ : Sg) (f0 : Int) (hP : PI σ) (hf : 0 ≤ f0 ∧ f0 < σ 84 15) (hm : kk ≤ rc ∧ nn ≤ rs) : ∀ (n : Nat) (i : Int) (s : Int), 0 ≤ i → inr i → i + n = 5 → AW l G f (RX11, cX11_digest, 5, (some .long)) (5, rc, rs) Q xs kk nn 122 [(1, .long (I64 (fW (5) (fun w a => a * 31 + i32 (dT σ f0 w)) n i s))), (0, .ref (lay G 84)), (3, .int (I32 f0))] [] (σ) → AW l G f (RX11, cX11_digest, 5, (some .long)) (5, rc, rs) Q xs kk nn 95 [(4, .int (I32 i)), (1, .long (I64 s)), (0, .ref (lay G 84)), (3, .int (I32 f0))] [] (σ) := by
  intro n
  induction n using Nat.strongRecOn with | _ n ih =>
  intro i s h0 hii hn  hK
  obtain ⟨hi1, hi2⟩ := hii
  obtain ⟨hC1, hC2, hC3, hC4, hC5, hC6⟩ := id hP.1
  obtain ⟨hM1, hM2⟩ := id hP.2.2.2.1
  refine A_iload dX11_digest_95 0 rfl ?_
  refine A_iconst dX11_digest_97 ?_
  refine J_icmp_ge (tgt := 122) dX11_digest_98 (by decide) (by first | exact i32_eq ⟨by omega, by omega⟩ | rfl) (by first | exact i32_eq ⟨by omega, by omega⟩ | rfl) (fun h98 => ?_) (fun h98 => ?_)
  · refine A_lv [1, 2, 3] rfl ?_
    clear ih
    cases n with | zero => exact hK | succ n => rw [fW_s, if_neg (by omega)] at hK; exact hK
  · refine A_lload_n dX11_digest_101 rfl 1 rfl ?_
    refine A_ldc2 kc_X11_396 dX11_digest_102 ?_
    refine A_lmul dX11_digest_105 ?_
    refine A_aload_n dX11_digest_106 rfl 2 rfl ?_
    refine A_iload_n dX11_digest_107 rfl 3 rfl ?_
    refine A_iload dX11_digest_108 0 rfl ?_
    refine A_Va2 mv_X11_350 lk_84 rfl rfl (c_X11_dishTold f0 i hP hf (by exact ⟨by omega, by omega⟩)) (Nat.le_of_ble_eq_true rfl) (by omega) (by omega) dX11_digest_110 ?_
    refine J_i2l dX11_digest_113 (by first | exact i32_eq ⟨by omega, by omega⟩ | rfl) ?_
    refine A_ladd dX11_digest_114 ?_
    refine A_lstore_n (lv2 := [(1, _), (4, _), (0, _), (3, _)]) dX11_digest_115 rfl (by decide) rfl ?_
    refine A_iinc (lv2 := [(4, _), (1, _), (0, _), (3, _)]) dX11_digest_116 1 rfl (by decide) rfl ?_
    refine A_goto (tgt := 95) dX11_digest_119 (by decide) ?_
    refine A_lv [0, 1, 2, 3] rfl ?_
    refine ih (n - 1) (by omega) (i + 1) _ (by omega) ⟨by omega, by omega⟩ (by omega) ?_
    obtain ⟨n, rfl⟩ : ∃ q, n = q + 1 := ⟨n - 1, by omega⟩
    clear ih
    rw [fW_s] at hK
    simp only [Nat.add_sub_cancel]
    (repeat' split at hK) <;> first | contradiction | (exfalso; omega) | exact hK | (simp_all; done)
set_option maxRecDepth 100000 in
set_option maxHeartbeats 4000000 in
theorem w_X11_dg84 {f : Fm} {Q : State → Prop} {xs : va_W} {kk nn rc rs : Nat} (σ : Sg) (hP : PI σ) (hm : kk ≤ rc ∧ nn ≤ rs) : ∀ (n : Nat) (i : Int) (s : Int), 0 ≤ i → inr i → i + n = 16 → AW l G f (RX11, cX11_digest, 5, (some .long)) (5, rc, rs) Q xs kk nn 128 [(1, .long (I64 (fW (σ 84 15) (dgD2 σ) n i s))), (0, .ref (lay G 84))] [] (σ) → AW l G f (RX11, cX11_digest, 5, (some .long)) (5, rc, rs) Q xs kk nn 84 [(3, .int (I32 i)), (1, .long (I64 s)), (0, .ref (lay G 84))] [] (σ) := by
  intro n
  induction n using Nat.strongRecOn with | _ n ih =>
  intro i s h0 hii hn  hK
  obtain ⟨hi1, hi2⟩ := hii
  obtain ⟨hC1, hC2, hC3, hC4, hC5, hC6⟩ := id hP.1
  obtain ⟨hM1, hM2⟩ := id hP.2.2.2.1
  refine A_iload_n dX11_digest_84 rfl 0 rfl ?_
  refine A_aload_n dX11_digest_85 rfl 2 rfl ?_
  refine A_geti fl_X11_247 lk_84 rfl dX11_digest_86 ?_
  refine J_icmp_ge (tgt := 128) dX11_digest_89 (by decide) (by first | exact i32_eq ⟨by omega, by omega⟩ | rfl) (by first | exact i32_eq ⟨by omega, by omega⟩ | rfl) (fun h89 => ?_) (fun h89 => ?_)
  · refine A_lv [1, 2] rfl ?_
    clear ih
    cases n with | zero => exact hK | succ n => rw [fW_s, if_neg (by omega)] at hK; exact hK
  · refine A_iconst dX11_digest_92 ?_
    refine A_istore (lv2 := [(4, _), (3, _), (1, _), (0, _)]) dX11_digest_93 (by decide) rfl ?_
    refine A_lv [0, 2, 3, 1] rfl ?_
    refine w_X11_dg95 σ i hP ⟨by omega, by omega⟩ hm 5 0 _ (by omega) ⟨by omega, by omega⟩ (by omega) ?_
    refine A_iinc (lv2 := [(3, _), (1, _), (0, _)]) dX11_digest_122 2 rfl (by decide) rfl ?_
    refine A_goto (tgt := 84) dX11_digest_125 (by decide) ?_
    refine ih (n - 1) (by omega) (i + 1) _ (by omega) ⟨by omega, by omega⟩ (by omega) ?_
    obtain ⟨n, rfl⟩ : ∃ q, n = q + 1 := ⟨n - 1, by omega⟩
    clear ih
    rw [fW_s, if_pos (by omega)] at hK
    simp only [Nat.add_sub_cancel]
    exact hK
set_option maxRecDepth 100000 in
set_option maxHeartbeats 4000000 in
theorem w_X11_dg130 {f : Fm} {Q : State → Prop} {xs : va_W} {kk nn rc rs : Nat} (σ : Sg) (hP : PI σ) (hm : kk ≤ rc ∧ nn ≤ rs) : ∀ (n : Nat) (i : Int) (s : Int), 0 ≤ i → inr i → i + n = 8 → AW l G f (RX11, cX11_digest, 5, (some .long)) (5, rc, rs) Q xs kk nn 170 [(1, .long (I64 (fW (σ 84 25) (dgH2 σ) n i s))), (0, .ref (lay G 84))] [] (σ) → AW l G f (RX11, cX11_digest, 5, (some .long)) (5, rc, rs) Q xs kk nn 130 [(3, .int (I32 i)), (1, .long (I64 s)), (0, .ref (lay G 84))] [] (σ) := by
  intro n
  induction n using Nat.strongRecOn with | _ n ih =>
  intro i s h0 hii hn  hK
  obtain ⟨hi1, hi2⟩ := hii
  obtain ⟨hC1, hC2, hC3, hC4, hC5, hC6⟩ := id hP.1
  obtain ⟨hM1, hM2⟩ := id hP.2.2.2.1
  refine A_iload_n dX11_digest_130 rfl 0 rfl ?_
  refine A_aload_n dX11_digest_131 rfl 2 rfl ?_
  refine A_geti fl_X11_289 lk_84 rfl dX11_digest_132 ?_
  refine J_icmp_ge (tgt := 170) dX11_digest_135 (by decide) (by first | exact i32_eq ⟨by omega, by omega⟩ | rfl) (by first | exact i32_eq ⟨by omega, by omega⟩ | rfl) (fun h135 => ?_) (fun h135 => ?_)
  · refine A_lv [1, 2] rfl ?_
    clear ih
    cases n with | zero => exact hK | succ n => rw [fW_s, if_neg (by omega)] at hK; exact hK
  · refine A_lload_n dX11_digest_138 rfl 1 rfl ?_
    refine A_ldc2 kc_X11_396 dX11_digest_139 ?_
    refine A_lmul dX11_digest_142 ?_
    refine A_aload_n dX11_digest_143 rfl 2 rfl ?_
    refine A_getr fl_X11_63 lk_84 rfl dX11_digest_144 ?_
    refine A_iload_n dX11_digest_147 rfl 0 rfl ?_
    refine J_iald lk_101 (by first | exact i32_eq ⟨by omega, by omega⟩ | rfl) (by omega) (by omega) (by decide) dX11_digest_148 ?_
    refine J_i2l dX11_digest_149 (by first | exact i32_eq ⟨by omega, by omega⟩ | rfl) ?_
    refine A_ladd dX11_digest_150 ?_
    refine A_ldc2 kc_X11_396 dX11_digest_151 ?_
    refine A_lmul dX11_digest_154 ?_
    refine A_aload_n dX11_digest_155 rfl 2 rfl ?_
    refine A_getr fl_X11_66 lk_84 rfl dX11_digest_156 ?_
    refine A_iload_n dX11_digest_159 rfl 0 rfl ?_
    refine J_iald lk_102 (by first | exact i32_eq ⟨by omega, by omega⟩ | rfl) (by omega) (by omega) (by decide) dX11_digest_160 ?_
    refine J_i2l dX11_digest_161 (by first | exact i32_eq ⟨by omega, by omega⟩ | rfl) ?_
    refine A_ladd dX11_digest_162 ?_
    refine A_lstore_n (lv2 := [(1, _), (3, _), (0, _)]) dX11_digest_163 rfl (by decide) rfl ?_
    refine A_iinc (lv2 := [(3, _), (1, _), (0, _)]) dX11_digest_164 1 rfl (by decide) rfl ?_
    refine A_goto (tgt := 130) dX11_digest_167 (by decide) ?_
    refine A_lv [0, 1, 2] rfl ?_
    refine ih (n - 1) (by omega) (i + 1) _ (by omega) ⟨by omega, by omega⟩ (by omega) ?_
    obtain ⟨n, rfl⟩ : ∃ q, n = q + 1 := ⟨n - 1, by omega⟩
    clear ih
    rw [fW_s] at hK
    simp only [Nat.add_sub_cancel]
    simp only [dgH2] at hK
    (repeat' split at hK) <;> first | contradiction | (exfalso; omega) | exact hK | (simp_all; done)
set_option maxRecDepth 100000 in
set_option maxHeartbeats 4000000 in
theorem w_X11_dg183 {f : Fm} {Q : State → Prop} {xs : va_W} {kk nn rc rs : Nat} (σ : Sg) (f0 : Int) (hP : PI σ) (hf : 0 ≤ f0 ∧ f0 < σ 84 30) (hm : kk ≤ rc ∧ nn ≤ rs) : ∀ (n : Nat) (i : Int) (s : Int), 0 ≤ i → inr i → i + n = 4 → AW l G f (RX11, cX11_digest, 5, (some .long)) (5, rc, rs) Q xs kk nn 210 [(1, .long (I64 (fW (4) (fun w a => a * 31 + i32 (rT σ f0 w)) n i s))), (0, .ref (lay G 84)), (3, .int (I32 f0))] [] (σ) → AW l G f (RX11, cX11_digest, 5, (some .long)) (5, rc, rs) Q xs kk nn 183 [(4, .int (I32 i)), (1, .long (I64 s)), (0, .ref (lay G 84)), (3, .int (I32 f0))] [] (σ) := by
  intro n
  induction n using Nat.strongRecOn with | _ n ih =>
  intro i s h0 hii hn  hK
  obtain ⟨hi1, hi2⟩ := hii
  obtain ⟨hC1, hC2, hC3, hC4, hC5, hC6⟩ := id hP.1
  obtain ⟨hM1, hM2⟩ := id hP.2.2.2.1
  refine A_iload dX11_digest_183 0 rfl ?_
  refine A_iconst dX11_digest_185 ?_
  refine J_icmp_ge (tgt := 210) dX11_digest_186 (by decide) (by first | exact i32_eq ⟨by omega, by omega⟩ | rfl) (by first | exact i32_eq ⟨by omega, by omega⟩ | rfl) (fun h186 => ?_) (fun h186 => ?_)
  · refine A_lv [1, 2, 3] rfl ?_
    clear ih
    cases n with | zero => exact hK | succ n => rw [fW_s, if_neg (by omega)] at hK; exact hK
  · refine A_lload_n dX11_digest_189 rfl 1 rfl ?_
    refine A_ldc2 kc_X11_396 dX11_digest_190 ?_
    refine A_lmul dX11_digest_193 ?_
    refine A_aload_n dX11_digest_194 rfl 2 rfl ?_
    refine A_iload_n dX11_digest_195 rfl 3 rfl ?_
    refine A_iload dX11_digest_196 0 rfl ?_
    refine A_Va2 mv_X11_359 lk_84 rfl rfl (c_X11_ruleTold f0 i hP hf (by exact ⟨by omega, by omega⟩)) (Nat.le_of_ble_eq_true rfl) (by omega) (by omega) dX11_digest_198 ?_
    refine J_i2l dX11_digest_201 (by first | exact i32_eq ⟨by omega, by omega⟩ | rfl) ?_
    refine A_ladd dX11_digest_202 ?_
    refine A_lstore_n (lv2 := [(1, _), (4, _), (0, _), (3, _)]) dX11_digest_203 rfl (by decide) rfl ?_
    refine A_iinc (lv2 := [(4, _), (1, _), (0, _), (3, _)]) dX11_digest_204 1 rfl (by decide) rfl ?_
    refine A_goto (tgt := 183) dX11_digest_207 (by decide) ?_
    refine A_lv [0, 1, 2, 3] rfl ?_
    refine ih (n - 1) (by omega) (i + 1) _ (by omega) ⟨by omega, by omega⟩ (by omega) ?_
    obtain ⟨n, rfl⟩ : ∃ q, n = q + 1 := ⟨n - 1, by omega⟩
    clear ih
    rw [fW_s] at hK
    simp only [Nat.add_sub_cancel]
    (repeat' split at hK) <;> first | contradiction | (exfalso; omega) | exact hK | (simp_all; done)
set_option maxRecDepth 100000 in
set_option maxHeartbeats 4000000 in
theorem w_X11_dg172 {f : Fm} {Q : State → Prop} {xs : va_W} {kk nn rc rs : Nat} (σ : Sg) (hP : PI σ) (hm : kk ≤ rc ∧ nn ≤ rs) : ∀ (n : Nat) (i : Int) (s : Int), 0 ≤ i → inr i → i + n = 8 → AW l G f (RX11, cX11_digest, 5, (some .long)) (5, rc, rs) Q xs kk nn 216 [(1, .long (I64 (fW (σ 84 30) (dgR2 σ) n i s))), (0, .ref (lay G 84))] [] (σ) → AW l G f (RX11, cX11_digest, 5, (some .long)) (5, rc, rs) Q xs kk nn 172 [(3, .int (I32 i)), (1, .long (I64 s)), (0, .ref (lay G 84))] [] (σ) := by
  intro n
  induction n using Nat.strongRecOn with | _ n ih =>
  intro i s h0 hii hn  hK
  obtain ⟨hi1, hi2⟩ := hii
  obtain ⟨hC1, hC2, hC3, hC4, hC5, hC6⟩ := id hP.1
  obtain ⟨hM1, hM2⟩ := id hP.2.2.2.1
  refine A_iload_n dX11_digest_172 rfl 0 rfl ?_
  refine A_aload_n dX11_digest_173 rfl 2 rfl ?_
  refine A_geti fl_X11_298 lk_84 rfl dX11_digest_174 ?_
  refine J_icmp_ge (tgt := 216) dX11_digest_177 (by decide) (by first | exact i32_eq ⟨by omega, by omega⟩ | rfl) (by first | exact i32_eq ⟨by omega, by omega⟩ | rfl) (fun h177 => ?_) (fun h177 => ?_)
  · refine A_lv [1, 2] rfl ?_
    clear ih
    cases n with | zero => exact hK | succ n => rw [fW_s, if_neg (by omega)] at hK; exact hK
  · refine A_iconst dX11_digest_180 ?_
    refine A_istore (lv2 := [(4, _), (3, _), (1, _), (0, _)]) dX11_digest_181 (by decide) rfl ?_
    refine A_lv [0, 2, 3, 1] rfl ?_
    refine w_X11_dg183 σ i hP ⟨by omega, by omega⟩ hm 4 0 _ (by omega) ⟨by omega, by omega⟩ (by omega) ?_
    refine A_iinc (lv2 := [(3, _), (1, _), (0, _)]) dX11_digest_210 2 rfl (by decide) rfl ?_
    refine A_goto (tgt := 172) dX11_digest_213 (by decide) ?_
    refine ih (n - 1) (by omega) (i + 1) _ (by omega) ⟨by omega, by omega⟩ (by omega) ?_
    obtain ⟨n, rfl⟩ : ∃ q, n = q + 1 := ⟨n - 1, by omega⟩
    clear ih
    rw [fW_s, if_pos (by omega)] at hK
    simp only [Nat.add_sub_cancel]
    exact hK
set_option maxRecDepth 100000 in
set_option maxHeartbeats 4000000 in
theorem w_X11_dg229 {f : Fm} {Q : State → Prop} {xs : va_W} {kk nn rc rs : Nat} (σ : Sg) (f0 : Int) (hP : PI σ) (hf : 0 ≤ f0 ∧ f0 < σ 84 39) (hm : kk ≤ rc ∧ nn ≤ rs) : ∀ (n : Nat) (i : Int) (s : Int), 0 ≤ i → inr i → i + n = 8 → AW l G f (RX11, cX11_digest, 5, (some .long)) (5, rc, rs) Q xs kk nn 259 [(1, .long (I64 (fW (σ 84 25) (fun w a => a * 31 + i32 (dA σ f0 w)) n i s))), (0, .ref (lay G 84)), (3, .int (I32 f0))] [] (σ) → AW l G f (RX11, cX11_digest, 5, (some .long)) (5, rc, rs) Q xs kk nn 229 [(4, .int (I32 i)), (1, .long (I64 s)), (0, .ref (lay G 84)), (3, .int (I32 f0))] [] (σ) := by
  intro n
  induction n using Nat.strongRecOn with | _ n ih =>
  intro i s h0 hii hn  hK
  obtain ⟨hi1, hi2⟩ := hii
  obtain ⟨hC1, hC2, hC3, hC4, hC5, hC6⟩ := id hP.1
  obtain ⟨hM1, hM2⟩ := id hP.2.2.2.1
  refine A_iload dX11_digest_229 0 rfl ?_
  refine A_aload_n dX11_digest_231 rfl 2 rfl ?_
  refine A_geti fl_X11_289 lk_84 rfl dX11_digest_232 ?_
  refine J_icmp_ge (tgt := 259) dX11_digest_235 (by decide) (by first | exact i32_eq ⟨by omega, by omega⟩ | rfl) (by first | exact i32_eq ⟨by omega, by omega⟩ | rfl) (fun h235 => ?_) (fun h235 => ?_)
  · refine A_lv [1, 2, 3] rfl ?_
    clear ih
    cases n with | zero => exact hK | succ n => rw [fW_s, if_neg (by omega)] at hK; exact hK
  · refine A_lload_n dX11_digest_238 rfl 1 rfl ?_
    refine A_ldc2 kc_X11_396 dX11_digest_239 ?_
    refine A_lmul dX11_digest_242 ?_
    refine A_aload_n dX11_digest_243 rfl 2 rfl ?_
    refine A_iload_n dX11_digest_244 rfl 3 rfl ?_
    refine A_iload dX11_digest_245 0 rfl ?_
    refine A_Va2 mv_X11_362 lk_84 rfl rfl (c_X11_dishAt f0 i ⟨by omega, by omega⟩ ⟨by omega, by omega⟩) (Nat.le_of_ble_eq_true rfl) (by omega) (by omega) dX11_digest_247 ?_
    refine J_i2l dX11_digest_250 (by first | exact i32_eq ⟨by omega, by omega⟩ | rfl) ?_
    refine A_ladd dX11_digest_251 ?_
    refine A_lstore_n (lv2 := [(1, _), (4, _), (0, _), (3, _)]) dX11_digest_252 rfl (by decide) rfl ?_
    refine A_iinc (lv2 := [(4, _), (1, _), (0, _), (3, _)]) dX11_digest_253 1 rfl (by decide) rfl ?_
    refine A_goto (tgt := 229) dX11_digest_256 (by decide) ?_
    refine A_lv [0, 1, 2, 3] rfl ?_
    refine ih (n - 1) (by omega) (i + 1) _ (by omega) ⟨by omega, by omega⟩ (by omega) ?_
    obtain ⟨n, rfl⟩ : ∃ q, n = q + 1 := ⟨n - 1, by omega⟩
    clear ih
    rw [fW_s] at hK
    simp only [Nat.add_sub_cancel]
    (repeat' split at hK) <;> first | contradiction | (exfalso; omega) | exact hK | (simp_all; done)
set_option maxRecDepth 100000 in
set_option maxHeartbeats 4000000 in
theorem w_X11_dg218 {f : Fm} {Q : State → Prop} {xs : va_W} {kk nn rc rs : Nat} (σ : Sg) (hP : PI σ) (hm : kk ≤ rc ∧ nn ≤ rs) : ∀ (n : Nat) (i : Int) (s : Int), 0 ≤ i → inr i → i + n = 14 → AW l G f (RX11, cX11_digest, 5, (some .long)) (5, rc, rs) Q xs kk nn 265 [(1, .long (I64 (fW (σ 84 39) (dgM2 σ) n i s))), (0, .ref (lay G 84))] [] (σ) → AW l G f (RX11, cX11_digest, 5, (some .long)) (5, rc, rs) Q xs kk nn 218 [(3, .int (I32 i)), (1, .long (I64 s)), (0, .ref (lay G 84))] [] (σ) := by
  intro n
  induction n using Nat.strongRecOn with | _ n ih =>
  intro i s h0 hii hn  hK
  obtain ⟨hi1, hi2⟩ := hii
  obtain ⟨hC1, hC2, hC3, hC4, hC5, hC6⟩ := id hP.1
  obtain ⟨hM1, hM2⟩ := id hP.2.2.2.1
  refine A_iload_n dX11_digest_218 rfl 0 rfl ?_
  refine A_aload_n dX11_digest_219 rfl 2 rfl ?_
  refine A_geti fl_X11_320 lk_84 rfl dX11_digest_220 ?_
  refine J_icmp_ge (tgt := 265) dX11_digest_223 (by decide) (by first | exact i32_eq ⟨by omega, by omega⟩ | rfl) (by first | exact i32_eq ⟨by omega, by omega⟩ | rfl) (fun h223 => ?_) (fun h223 => ?_)
  · refine A_lv [1, 2] rfl ?_
    clear ih
    cases n with | zero => exact hK | succ n => rw [fW_s, if_neg (by omega)] at hK; exact hK
  · refine A_iconst dX11_digest_226 ?_
    refine A_istore (lv2 := [(4, _), (3, _), (1, _), (0, _)]) dX11_digest_227 (by decide) rfl ?_
    refine A_lv [0, 2, 3, 1] rfl ?_
    refine w_X11_dg229 σ i hP ⟨by omega, by omega⟩ hm 8 0 _ (by omega) ⟨by omega, by omega⟩ (by omega) ?_
    refine A_iinc (lv2 := [(3, _), (1, _), (0, _)]) dX11_digest_259 2 rfl (by decide) rfl ?_
    refine A_goto (tgt := 218) dX11_digest_262 (by decide) ?_
    refine ih (n - 1) (by omega) (i + 1) _ (by omega) ⟨by omega, by omega⟩ (by omega) ?_
    obtain ⟨n, rfl⟩ : ∃ q, n = q + 1 := ⟨n - 1, by omega⟩
    clear ih
    rw [fW_s, if_pos (by omega)] at hK
    simp only [Nat.add_sub_cancel]
    exact hK
set_option maxRecDepth 100000 in
set_option maxHeartbeats 4000000 in
theorem c_X11_digest  (hP : PI σ) : Ct l G yX11_digest cX11_digest 5 (some .long) 5 8 64 [.ref (lay G 84)] σ (some (.long (I64 (dgT2 (up σ 84 0 0))))) (up σ 84 0 0) := by
  have hP0 : PI (up σ 84 0 0) := hP
  obtain ⟨hC1, hC2, hC3, hC4, hC5, hC6⟩ := id hP.1
  obtain ⟨hM1, hM2⟩ := id hP.2.2.2.1
  refine Ct.of (by decide +kernel) (Nat.le_of_ble_eq_true rfl) (fun f => ?_)
  show AW _ _ _ _ _ _ _ _ _ _ [(0, _)] _ _
  refine A_aload_n dX11_digest_0 rfl 0 rfl ?_
  refine A_iconst dX11_digest_1 ?_
  refine A_puti fl_X11_96 lk_84 rfl dX11_digest_2 ?_
  refine A_ldc2 kc_X11_394 dX11_digest_5 ?_
  refine A_lstore_n (lv2 := [(1, _), (0, _)]) dX11_digest_8 rfl (by decide) rfl ?_
  refine A_iconst dX11_digest_9 ?_
  refine A_istore_n (lv2 := [(3, _), (1, _), (0, _)]) dX11_digest_10 rfl (by decide) rfl ?_
  refine A_lv [0, 1, 2] rfl ?_
  refine w_X11_dg11 (up σ 84 0 0) 8 0 359 rfl ?_
  refine A_iconst dX11_digest_36 ?_
  refine A_istore_n (lv2 := [(3, _), (1, _), (0, _)]) dX11_digest_37 rfl (by decide) rfl ?_
  refine A_lv [0, 1, 2] rfl ?_
  refine w_X11_dg38 (up σ 84 0 0) hP (by omega) 16 0 _ (by omega) ⟨by omega, by omega⟩ (by omega) ?_
  refine A_iconst dX11_digest_82 ?_
  refine A_istore_n (lv2 := [(3, _), (1, _), (0, _)]) dX11_digest_83 rfl (by decide) rfl ?_
  refine A_lv [0, 1, 2] rfl ?_
  refine w_X11_dg84 (up σ 84 0 0) hP (by omega) 16 0 _ (by omega) ⟨by omega, by omega⟩ (by omega) ?_
  refine A_iconst dX11_digest_128 ?_
  refine A_istore_n (lv2 := [(3, _), (1, _), (0, _)]) dX11_digest_129 rfl (by decide) rfl ?_
  refine A_lv [0, 1, 2] rfl ?_
  refine w_X11_dg130 (up σ 84 0 0) hP (by omega) 8 0 _ (by omega) ⟨by omega, by omega⟩ (by omega) ?_
  refine A_iconst dX11_digest_170 ?_
  refine A_istore_n (lv2 := [(3, _), (1, _), (0, _)]) dX11_digest_171 rfl (by decide) rfl ?_
  refine A_lv [0, 1, 2] rfl ?_
  refine w_X11_dg172 (up σ 84 0 0) hP (by omega) 8 0 _ (by omega) ⟨by omega, by omega⟩ (by omega) ?_
  refine A_iconst dX11_digest_216 ?_
  refine A_istore_n (lv2 := [(3, _), (1, _), (0, _)]) dX11_digest_217 rfl (by decide) rfl ?_
  refine A_lv [0, 1, 2] rfl ?_
  refine w_X11_dg218 (up σ 84 0 0) hP (by omega) 14 0 _ (by omega) ⟨by omega, by omega⟩ (by omega) ?_
  refine A_lload_n dX11_digest_265 rfl 0 rfl ?_
  refine A_ldc2 kc_X11_396 dX11_digest_266 ?_
  refine A_lmul dX11_digest_269 ?_
  refine A_aload_n dX11_digest_270 rfl 1 rfl ?_
  refine A_Va0 mv_X11_388 lk_84 rfl rfl (c_X11_allFaults hP0) (Nat.le_of_ble_eq_true rfl) (by omega) (by omega) dX11_digest_271 ?_
  refine J_i2l dX11_digest_274 (by first | exact i32_eq ⟨by omega, by omega⟩ | rfl) ?_
  refine A_ladd dX11_digest_275 ?_
  refine A_wid (k2 := 8) (n2 := 64) (by decide) (by decide) ?_
  exact A_lret dX11_digest_276 (by rfl) (by rfl)
end S51
