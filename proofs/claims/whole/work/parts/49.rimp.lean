/-! the reference: what is asked of it, the rest -/
section S49
variable {l : Launch} {G : Gx}
variable {σ : Sg}
theorem imG_a {σ : Sg} {d c x : Int} {q : I3} (h : iand (ishr (σ 102 c.toNat) x) 1 = 0) : imG σ d c x q = q := if_pos h
theorem imG_b {σ : Sg} {d c x s1 s2 s3 : Int} (h : ¬ iand (ishr (σ 102 c.toNat) x) 1 = 0) (h2 : afV (up σ 111 (8 * d + c).toNat x) < s1) : imG σ d c x (s1, s2, s3) = (afV (up σ 111 (8 * d + c).toNat x), 8 * d + c, x) := (if_neg h).trans (if_pos (h2 : afV (mp σ d c x) < s1))
theorem imG_c {σ : Sg} {d c x s1 s2 s3 : Int} (h : ¬ iand (ishr (σ 102 c.toNat) x) 1 = 0) (h2 : s1 ≤ afV (up σ 111 (8 * d + c).toNat x)) : imG σ d c x (s1, s2, s3) = (s1, s2, s3) := (if_neg h).trans (if_neg (fun z : afV (up σ 111 (8 * d + c).toNat x) < s1 => by omega))
theorem dA_i32 (h : PI σ) {d c : Int} (hd : 0 ≤ d ∧ d < σ 84 39) (hc : 0 ≤ c ∧ c < σ 84 25) : i32 (dA σ d c) = dA σ d c := i32_n _ (by have := h.dA hd hc; have := h.1.2.1; omega)
set_option maxRecDepth 100000 in
set_option maxHeartbeats 4000000 in
theorem w_X11_im41 {f : Fm} {Q : State → Prop} {xs : va_W} {kk nn rc rs : Nat} (σ : Sg) (d c : Int) (hP : PI σ) (hd : 0 ≤ d ∧ d < σ 84 39) (hc : 0 ≤ c ∧ c < σ 84 25) (hm : kk ≤ rc ∧ nn ≤ rs) : ∀ (n : Nat) (i : Int) (s1 s2 s3 : Int), 0 ≤ i → inr i → i + n = 16 → (IMQ σ (s1, s2, s3)) → AW l G f (RX11, cX11_improve, 9, (some .int)) (5, rc, rs) Q xs kk nn 144 [(1, .int (I32 (fW (σ 84 15) (imG σ d c) n i (s1, s2, s3)).1)), (2, .int (I32 (fW (σ 84 15) (imG σ d c) n i (s1, s2, s3)).2.1)), (3, .int (I32 (fW (σ 84 15) (imG σ d c) n i (s1, s2, s3)).2.2)), (0, .ref (lay G 84)), (4, .int (I32 d)), (5, .int (I32 c))] [] (σ) → AW l G f (RX11, cX11_improve, 9, (some .int)) (5, rc, rs) Q xs kk nn 41 [(6, .int (I32 i)), (1, .int (I32 s1)), (2, .int (I32 s2)), (3, .int (I32 s3)), (0, .ref (lay G 84)), (4, .int (I32 d)), (5, .int (I32 c))] [] (σ) := by
  intro n
  induction n using Nat.strongRecOn with | _ n ih =>
  intro i s1 s2 s3 h0 hii hn hv0 hK
  obtain ⟨hi1, hi2⟩ := hii
  obtain ⟨hC1, hC2, hC3, hC4, hC5, hC6⟩ := id hP.1
  obtain ⟨hM1, hM2⟩ := id hP.2.2.2.1
  have hdA := hP.dA hd hc
  obtain ⟨hvA, hvB⟩ := id hv0.1
  refine A_iload dX11_improve_41 0 rfl ?_
  refine A_aload_n dX11_improve_43 rfl 4 rfl ?_
  refine A_geti fl_X11_247 lk_84 rfl dX11_improve_44 ?_
  refine J_icmp_ge (tgt := 144) dX11_improve_47 (by decide) (by first | exact i32_eq (by assumption) | with_reducible exact hfV_i32 _ | with_reducible exact afV_i32 _ | with_reducible exact mnIn_i32 _ _ _ | with_reducible exact tiV_i32 _ | exact i32_eq ⟨by omega, by omega⟩ | with_reducible exact i32_i32 _ | with_reducible exact i32_eq (b2i_inr _) | with_reducible exact iand_i32 _ _ | rfl) (by first | exact i32_eq (by assumption) | with_reducible exact hfV_i32 _ | with_reducible exact afV_i32 _ | with_reducible exact mnIn_i32 _ _ _ | with_reducible exact tiV_i32 _ | exact i32_eq ⟨by omega, by omega⟩ | with_reducible exact i32_i32 _ | with_reducible exact i32_eq (b2i_inr _) | with_reducible exact iand_i32 _ _ | rfl) (fun h47 => ?_) (fun h47 => ?_)
  · refine A_lv [1, 2, 3, 4, 5, 6] rfl ?_
    clear ih
    cases n with | zero => exact hK | succ n => rw [fW_s, if_neg (by omega)] at hK; exact hK
  · refine A_aload_n dX11_improve_50 rfl 4 rfl ?_
    refine A_getr fl_X11_66 lk_84 rfl dX11_improve_51 ?_
    refine A_iload dX11_improve_54 6 rfl ?_
    refine J_iald lk_102 (by first | exact i32_eq (by assumption) | with_reducible exact hfV_i32 _ | with_reducible exact afV_i32 _ | with_reducible exact mnIn_i32 _ _ _ | with_reducible exact tiV_i32 _ | exact i32_eq ⟨by omega, by omega⟩ | with_reducible exact i32_i32 _ | with_reducible exact i32_eq (b2i_inr _) | with_reducible exact iand_i32 _ _ | rfl) (by omega) (by omega) (by decide) dX11_improve_56 ?_
    refine A_iload dX11_improve_57 0 rfl ?_
    refine A_ishr dX11_improve_59 ?_
    refine A_iconst dX11_improve_60 ?_
    refine A_iand dX11_improve_61 ?_
    refine J_if_ne (tgt := 68) dX11_improve_62 (by decide) (by first | exact i32_eq (by assumption) | with_reducible exact hfV_i32 _ | with_reducible exact afV_i32 _ | with_reducible exact mnIn_i32 _ _ _ | with_reducible exact tiV_i32 _ | exact i32_eq ⟨by omega, by omega⟩ | with_reducible exact i32_i32 _ | with_reducible exact i32_eq (b2i_inr _) | with_reducible exact iand_i32 _ _ | rfl) (fun h62 => ?_) (fun h62 => ?_)
    · refine A_aload_n dX11_improve_68 rfl 4 rfl ?_
      refine A_iload dX11_improve_69 5 rfl ?_
      refine A_iload dX11_improve_71 6 rfl ?_
      refine A_Va2 mv_X11_362 lk_84 rfl rfl (c_X11_dishAt d c ⟨by omega, by omega⟩ ⟨by omega, by omega⟩) (Nat.le_of_ble_eq_true rfl) (by omega) (by omega) dX11_improve_73 ?_
      refine A_istore (lv2 := [(7, _), (6, _), (1, _), (2, _), (3, _), (0, _), (4, _), (5, _)]) dX11_improve_76 (by decide) rfl ?_
      refine A_aload_n dX11_improve_78 rfl 5 rfl ?_
      refine A_getr fl_X11_93 lk_84 rfl dX11_improve_79 ?_
      refine A_bipush dX11_improve_82 (by decide +kernel) ?_
      refine A_iload dX11_improve_84 6 rfl ?_
      refine A_imul dX11_improve_86 ?_
      refine A_iload dX11_improve_87 7 rfl ?_
      refine A_iadd dX11_improve_89 ?_
      refine A_iload dX11_improve_90 1 rfl ?_
      refine J_iast lk_111 (by first | exact i32_eq (by assumption) | with_reducible exact hfV_i32 _ | with_reducible exact afV_i32 _ | with_reducible exact mnIn_i32 _ _ _ | with_reducible exact tiV_i32 _ | exact i32_eq ⟨by omega, by omega⟩ | with_reducible exact i32_i32 _ | with_reducible exact i32_eq (b2i_inr _) | with_reducible exact iand_i32 _ _ | rfl) (by omega) (by omega) (by decide) dX11_improve_92 ?_
      refine A_aload_n dX11_improve_93 rfl 5 rfl ?_
      refine A_Va0 mv_X11_388 lk_84 rfl rfl (c_X11_allFaults (PI_mp2 hP ⟨by omega, by omega⟩)) (Nat.le_of_ble_eq_true rfl) (by omega) (by omega) dX11_improve_94 ?_
      refine A_istore (lv2 := [(8, _), (7, _), (6, _), (1, _), (2, _), (3, _), (0, _), (4, _), (5, _)]) dX11_improve_97 (by decide) rfl ?_
      refine A_aload_n dX11_improve_99 rfl 6 rfl ?_
      refine A_getr fl_X11_93 lk_84 rfl dX11_improve_100 ?_
      refine A_bipush dX11_improve_103 (by decide +kernel) ?_
      refine A_iload dX11_improve_105 7 rfl ?_
      refine A_imul dX11_improve_107 ?_
      refine A_iload dX11_improve_108 8 rfl ?_
      refine A_iadd dX11_improve_110 ?_
      refine A_iload dX11_improve_111 1 rfl ?_
      refine J_iast lk_111 (by first | exact i32_eq (by assumption) | with_reducible exact hfV_i32 _ | with_reducible exact afV_i32 _ | with_reducible exact mnIn_i32 _ _ _ | with_reducible exact tiV_i32 _ | exact i32_eq ⟨by omega, by omega⟩ | with_reducible exact i32_i32 _ | with_reducible exact i32_eq (b2i_inr _) | with_reducible exact iand_i32 _ _ | rfl) (by omega) (by omega) (by decide) dX11_improve_113 ?_
      rw [up_up, show dA σ d c = σ 111 (8 * d + c).toNat from rfl, up_self]
      refine A_iload dX11_improve_114 0 rfl ?_
      refine A_iload_n dX11_improve_116 rfl 3 rfl ?_
      refine J_icmp_lt (tgt := 123) dX11_improve_117 (by decide) (by first | exact i32_eq (by assumption) | with_reducible exact hfV_i32 _ | with_reducible exact afV_i32 _ | with_reducible exact mnIn_i32 _ _ _ | with_reducible exact tiV_i32 _ | exact i32_eq ⟨by omega, by omega⟩ | with_reducible exact i32_i32 _ | with_reducible exact i32_eq (b2i_inr _) | with_reducible exact iand_i32 _ _ | rfl) (by first | exact i32_eq (by assumption) | with_reducible exact hfV_i32 _ | with_reducible exact afV_i32 _ | with_reducible exact mnIn_i32 _ _ _ | with_reducible exact tiV_i32 _ | exact i32_eq ⟨by omega, by omega⟩ | with_reducible exact i32_i32 _ | with_reducible exact i32_eq (b2i_inr _) | with_reducible exact iand_i32 _ _ | rfl) (fun h117 => ?_) (fun h117 => ?_)
      · refine A_iload dX11_improve_123 0 rfl ?_
        refine A_istore_n (lv2 := [(1, _), (8, _), (7, _), (6, _), (2, _), (3, _), (0, _), (4, _), (5, _)]) dX11_improve_125 rfl (by decide) rfl ?_
        refine A_bipush dX11_improve_126 (by decide +kernel) ?_
        refine A_iload dX11_improve_128 7 rfl ?_
        refine A_imul dX11_improve_130 ?_
        refine A_iload dX11_improve_131 8 rfl ?_
        refine A_iadd dX11_improve_133 ?_
        refine A_istore_n (lv2 := [(2, _), (1, _), (8, _), (7, _), (6, _), (3, _), (0, _), (4, _), (5, _)]) dX11_improve_134 rfl (by decide) rfl ?_
        refine A_iload dX11_improve_135 4 rfl ?_
        refine A_istore_n (lv2 := [(3, _), (2, _), (1, _), (8, _), (7, _), (6, _), (0, _), (4, _), (5, _)]) dX11_improve_137 rfl (by decide) rfl ?_
        refine A_iinc (lv2 := [(6, _), (3, _), (2, _), (1, _), (8, _), (7, _), (0, _), (4, _), (5, _)]) dX11_improve_138 5 rfl (by decide) rfl ?_
        refine A_goto (tgt := 41) dX11_improve_141 (by decide) ?_
        refine A_lv [0, 3, 2, 1, 6, 7, 8] rfl ?_
        refine ih (n - 1) (by omega) (i + 1) _ _ _ (by omega) ⟨by omega, by omega⟩ (by omega) (by have hg := IMQ_G hP hd hc (x := i) ⟨h0, by omega⟩ hv0; first | (rw [imG_a h62] at hg; exact hg) | (rw [imG_b h62 h117] at hg; exact hg) | (rw [imG_c h62 h117] at hg; exact hg)) ?_
        obtain ⟨n, rfl⟩ : ∃ q, n = q + 1 := ⟨n - 1, by omega⟩
        clear ih
        rw [fW_s] at hK
        simp only [Nat.add_sub_cancel]
        rw [if_pos (by omega)] at hK
        first | (rw [imG_a h62] at hK; exact hK) | (rw [imG_b h62 h117] at hK; exact hK) | (rw [imG_c h62 h117] at hK; exact hK)
      · refine A_goto (tgt := 138) dX11_improve_120 (by decide) ?_
        refine A_iinc (lv2 := [(6, _), (8, _), (7, _), (1, _), (2, _), (3, _), (0, _), (4, _), (5, _)]) dX11_improve_138 2 rfl (by decide) rfl ?_
        refine A_goto (tgt := 41) dX11_improve_141 (by decide) ?_
        refine A_lv [0, 3, 4, 5, 6, 7, 8] rfl ?_
        refine ih (n - 1) (by omega) (i + 1) _ _ _ (by omega) ⟨by omega, by omega⟩ (by omega) (by have hg := IMQ_G hP hd hc (x := i) ⟨h0, by omega⟩ hv0; first | (rw [imG_a h62] at hg; exact hg) | (rw [imG_b h62 h117] at hg; exact hg) | (rw [imG_c h62 h117] at hg; exact hg)) ?_
        obtain ⟨n, rfl⟩ : ∃ q, n = q + 1 := ⟨n - 1, by omega⟩
        clear ih
        rw [fW_s] at hK
        simp only [Nat.add_sub_cancel]
        rw [if_pos (by omega)] at hK
        first | (rw [imG_a h62] at hK; exact hK) | (rw [imG_b h62 h117] at hK; exact hK) | (rw [imG_c h62 h117] at hK; exact hK)
    · refine A_goto (tgt := 138) dX11_improve_65 (by decide) ?_
      refine A_iinc (lv2 := [(6, _), (1, _), (2, _), (3, _), (0, _), (4, _), (5, _)]) dX11_improve_138 0 rfl (by decide) rfl ?_
      refine A_goto (tgt := 41) dX11_improve_141 (by decide) ?_
      refine A_lv [0, 1, 2, 3, 4, 5, 6] rfl ?_
      refine ih (n - 1) (by omega) (i + 1) _ _ _ (by omega) ⟨by omega, by omega⟩ (by omega) (by have hg := IMQ_G hP hd hc (x := i) ⟨h0, by omega⟩ hv0; first | (rw [imG_a h62] at hg; exact hg) | (rw [imG_b h62 h117] at hg; exact hg) | (rw [imG_c h62 h117] at hg; exact hg)) ?_
      obtain ⟨n, rfl⟩ : ∃ q, n = q + 1 := ⟨n - 1, by omega⟩
      clear ih
      rw [fW_s] at hK
      simp only [Nat.add_sub_cancel]
      rw [if_pos (by omega)] at hK
      first | (rw [imG_a h62] at hK; exact hK) | (rw [imG_b h62 h117] at hK; exact hK) | (rw [imG_c h62 h117] at hK; exact hK)
set_option maxRecDepth 100000 in
set_option maxHeartbeats 4000000 in
theorem w_X11_im29 {f : Fm} {Q : State → Prop} {xs : va_W} {kk nn rc rs : Nat} (σ : Sg) (d : Int) (hP : PI σ) (hd : 0 ≤ d ∧ d < σ 84 39) (hm : kk ≤ rc ∧ nn ≤ rs) : ∀ (n : Nat) (i : Int) (s1 s2 s3 : Int), 0 ≤ i → inr i → i + n = 8 → (IMQ σ (s1, s2, s3)) → AW l G f (RX11, cX11_improve, 9, (some .int)) (5, rc, rs) Q xs kk nn 150 [(1, .int (I32 (fW (σ 84 25) (imH σ d) n i (s1, s2, s3)).1)), (2, .int (I32 (fW (σ 84 25) (imH σ d) n i (s1, s2, s3)).2.1)), (3, .int (I32 (fW (σ 84 25) (imH σ d) n i (s1, s2, s3)).2.2)), (0, .ref (lay G 84)), (4, .int (I32 d))] [] (σ) → AW l G f (RX11, cX11_improve, 9, (some .int)) (5, rc, rs) Q xs kk nn 29 [(5, .int (I32 i)), (1, .int (I32 s1)), (2, .int (I32 s2)), (3, .int (I32 s3)), (0, .ref (lay G 84)), (4, .int (I32 d))] [] (σ) := by
  intro n
  induction n using Nat.strongRecOn with | _ n ih =>
  intro i s1 s2 s3 h0 hii hn hv0 hK
  obtain ⟨hi1, hi2⟩ := hii
  obtain ⟨hC1, hC2, hC3, hC4, hC5, hC6⟩ := id hP.1
  obtain ⟨hM1, hM2⟩ := id hP.2.2.2.1
  refine A_iload dX11_improve_29 0 rfl ?_
  refine A_aload_n dX11_improve_31 rfl 4 rfl ?_
  refine A_geti fl_X11_289 lk_84 rfl dX11_improve_32 ?_
  refine J_icmp_ge (tgt := 150) dX11_improve_35 (by decide) (by first | exact i32_eq (by assumption) | with_reducible exact hfV_i32 _ | with_reducible exact afV_i32 _ | with_reducible exact mnIn_i32 _ _ _ | with_reducible exact tiV_i32 _ | exact i32_eq ⟨by omega, by omega⟩ | with_reducible exact i32_i32 _ | with_reducible exact i32_eq (b2i_inr _) | with_reducible exact iand_i32 _ _ | rfl) (by first | exact i32_eq (by assumption) | with_reducible exact hfV_i32 _ | with_reducible exact afV_i32 _ | with_reducible exact mnIn_i32 _ _ _ | with_reducible exact tiV_i32 _ | exact i32_eq ⟨by omega, by omega⟩ | with_reducible exact i32_i32 _ | with_reducible exact i32_eq (b2i_inr _) | with_reducible exact iand_i32 _ _ | rfl) (fun h35 => ?_) (fun h35 => ?_)
  · refine A_lv [1, 2, 3, 4, 5] rfl ?_
    clear ih
    cases n with | zero => exact hK | succ n => rw [fW_s, if_neg (by omega)] at hK; exact hK
  · refine A_iconst dX11_improve_38 ?_
    refine A_istore (lv2 := [(6, _), (5, _), (1, _), (2, _), (3, _), (0, _), (4, _)]) dX11_improve_39 (by decide) rfl ?_
    refine A_lv [0, 2, 3, 4, 5, 6, 1] rfl ?_
    refine w_X11_im41 σ d i hP hd ⟨by omega, by omega⟩ hm 16 0 _ _ _ (by omega) ⟨by omega, by omega⟩ (by omega) hv0 ?_
    refine A_iinc (lv2 := [(5, _), (1, _), (2, _), (3, _), (0, _), (4, _)]) dX11_improve_144 5 rfl (by decide) rfl ?_
    refine A_goto (tgt := 29) dX11_improve_147 (by decide) ?_
    refine ih (n - 1) (by omega) (i + 1) _ _ _ (by omega) ⟨by omega, by omega⟩ (by omega) (IMQ_H hP hd ⟨by omega, by omega⟩ hv0) ?_
    obtain ⟨n, rfl⟩ : ∃ q, n = q + 1 := ⟨n - 1, by omega⟩
    clear ih
    rw [fW_s, if_pos (by omega)] at hK
    simp only [Nat.add_sub_cancel]
    exact hK
set_option maxRecDepth 100000 in
set_option maxHeartbeats 4000000 in
theorem w_X11_im17 {f : Fm} {Q : State → Prop} {xs : va_W} {kk nn rc rs : Nat} (σ : Sg) (hP : PI σ) (hm : kk ≤ rc ∧ nn ≤ rs) : ∀ (n : Nat) (i : Int) (s1 s2 s3 : Int), 0 ≤ i → inr i → i + n = 14 → (IMQ σ (s1, s2, s3)) → AW l G f (RX11, cX11_improve, 9, (some .int)) (5, rc, rs) Q xs kk nn 156 [(1, .int (I32 (fW (σ 84 39) (imJ σ) n i (s1, s2, s3)).1)), (2, .int (I32 (fW (σ 84 39) (imJ σ) n i (s1, s2, s3)).2.1)), (3, .int (I32 (fW (σ 84 39) (imJ σ) n i (s1, s2, s3)).2.2)), (0, .ref (lay G 84))] [] (σ) → AW l G f (RX11, cX11_improve, 9, (some .int)) (5, rc, rs) Q xs kk nn 17 [(4, .int (I32 i)), (1, .int (I32 s1)), (2, .int (I32 s2)), (3, .int (I32 s3)), (0, .ref (lay G 84))] [] (σ) := by
  intro n
  induction n using Nat.strongRecOn with | _ n ih =>
  intro i s1 s2 s3 h0 hii hn hv0 hK
  obtain ⟨hi1, hi2⟩ := hii
  obtain ⟨hC1, hC2, hC3, hC4, hC5, hC6⟩ := id hP.1
  obtain ⟨hM1, hM2⟩ := id hP.2.2.2.1
  refine A_iload dX11_improve_17 0 rfl ?_
  refine A_aload_n dX11_improve_19 rfl 4 rfl ?_
  refine A_geti fl_X11_320 lk_84 rfl dX11_improve_20 ?_
  refine J_icmp_ge (tgt := 156) dX11_improve_23 (by decide) (by first | exact i32_eq (by assumption) | with_reducible exact hfV_i32 _ | with_reducible exact afV_i32 _ | with_reducible exact mnIn_i32 _ _ _ | with_reducible exact tiV_i32 _ | exact i32_eq ⟨by omega, by omega⟩ | with_reducible exact i32_i32 _ | with_reducible exact i32_eq (b2i_inr _) | with_reducible exact iand_i32 _ _ | rfl) (by first | exact i32_eq (by assumption) | with_reducible exact hfV_i32 _ | with_reducible exact afV_i32 _ | with_reducible exact mnIn_i32 _ _ _ | with_reducible exact tiV_i32 _ | exact i32_eq ⟨by omega, by omega⟩ | with_reducible exact i32_i32 _ | with_reducible exact i32_eq (b2i_inr _) | with_reducible exact iand_i32 _ _ | rfl) (fun h23 => ?_) (fun h23 => ?_)
  · refine A_lv [1, 2, 3, 4] rfl ?_
    clear ih
    cases n with | zero => exact hK | succ n => rw [fW_s, if_neg (by omega)] at hK; exact hK
  · refine A_iconst dX11_improve_26 ?_
    refine A_istore (lv2 := [(5, _), (4, _), (1, _), (2, _), (3, _), (0, _)]) dX11_improve_27 (by decide) rfl ?_
    refine A_lv [0, 2, 3, 4, 5, 1] rfl ?_
    refine w_X11_im29 σ i hP ⟨by omega, by omega⟩ hm 8 0 _ _ _ (by omega) ⟨by omega, by omega⟩ (by omega) hv0 ?_
    refine A_iinc (lv2 := [(4, _), (1, _), (2, _), (3, _), (0, _)]) dX11_improve_150 4 rfl (by decide) rfl ?_
    refine A_goto (tgt := 17) dX11_improve_153 (by decide) ?_
    refine ih (n - 1) (by omega) (i + 1) _ _ _ (by omega) ⟨by omega, by omega⟩ (by omega) (IMQ_J hP ⟨by omega, by omega⟩ hv0) ?_
    obtain ⟨n, rfl⟩ : ∃ q, n = q + 1 := ⟨n - 1, by omega⟩
    clear ih
    rw [fW_s, if_pos (by omega)] at hK
    simp only [Nat.add_sub_cancel]
    exact hK
set_option maxRecDepth 100000 in
set_option maxHeartbeats 4000000 in
theorem c_X11_improve  (hP : PI σ) : Ct l G yX11_improve cX11_improve 9 (some .int) 5 0 0 [.ref (lay G 84)] σ (some (.int (I32 (imRV σ)))) (imRS σ) := by
  have hP0 : PI (up σ 84 0 0) := hP
  obtain ⟨hC1, hC2, hC3, hC4, hC5, hC6⟩ := id hP.1
  obtain ⟨hM1, hM2⟩ := id hP.2.2.2.1
  have hQ := IMQ_T hP0
  obtain ⟨hQ1, hQ2⟩ := id hQ
  have hz15 : up σ 84 0 0 84 15 = σ 84 15 := rfl
  refine Ct.of (by decide +kernel) (Nat.le_of_ble_eq_true rfl) (fun f => ?_)
  show AW _ _ _ _ _ _ _ _ _ _ [(0, _)] _ _
  refine A_aload_n dX11_improve_0 rfl 0 rfl ?_
  refine A_iconst dX11_improve_1 ?_
  refine A_puti fl_X11_96 lk_84 rfl dX11_improve_2 ?_
  refine A_aload_n dX11_improve_5 rfl 0 rfl ?_
  refine A_Va0 mv_X11_388 lk_84 rfl rfl (c_X11_allFaults hP0) (Nat.le_of_ble_eq_true rfl) (by omega) (by omega) dX11_improve_6 ?_
  refine A_istore_n (lv2 := [(1, _), (0, _)]) dX11_improve_9 rfl (by decide) rfl ?_
  refine A_iconst dX11_improve_10 ?_
  refine A_istore_n (lv2 := [(2, _), (1, _), (0, _)]) dX11_improve_11 rfl (by decide) rfl ?_
  refine A_iconst dX11_improve_12 ?_
  refine A_istore_n (lv2 := [(3, _), (2, _), (1, _), (0, _)]) dX11_improve_13 rfl (by decide) rfl ?_
  refine A_iconst dX11_improve_14 ?_
  refine A_istore (lv2 := [(4, _), (3, _), (2, _), (1, _), (0, _)]) dX11_improve_15 (by decide) rfl ?_
  refine A_lv [0, 3, 2, 1, 4] rfl ?_
  refine w_X11_im17 (up σ 84 0 0) hP0 (by omega) 14 0 _ _ _ (by omega) ⟨by omega, by omega⟩ (by omega) ⟨afV_bd, Or.inl ⟨rfl, rfl⟩⟩ ?_
  show AW _ _ _ _ _ _ _ _ _ _ [(_, .int (I32 (imT (up σ 84 0 0)).1)), (_, .int (I32 (imT (up σ 84 0 0)).2.1)), (_, .int (I32 (imT (up σ 84 0 0)).2.2)), _] _ _
  refine A_iload_n dX11_improve_156 rfl 1 rfl ?_
  refine A_iconst dX11_improve_157 ?_
  refine J_icmp_eq (tgt := 168) dX11_improve_158 (by decide) (by first | exact i32_eq (by assumption) | with_reducible exact hfV_i32 _ | with_reducible exact afV_i32 _ | with_reducible exact mnIn_i32 _ _ _ | with_reducible exact tiV_i32 _ | exact i32_eq ⟨by omega, by omega⟩ | with_reducible exact i32_i32 _ | with_reducible exact i32_eq (b2i_inr _) | with_reducible exact iand_i32 _ _ | rfl) (by first | exact i32_eq (by assumption) | with_reducible exact hfV_i32 _ | with_reducible exact afV_i32 _ | with_reducible exact mnIn_i32 _ _ _ | with_reducible exact tiV_i32 _ | exact i32_eq ⟨by omega, by omega⟩ | with_reducible exact i32_i32 _ | with_reducible exact i32_eq (b2i_inr _) | with_reducible exact iand_i32 _ _ | rfl) (fun h158 => ?_) (fun h158 => ?_)
  · refine A_iload_n dX11_improve_168 rfl 0 rfl ?_
    exact A_iret dX11_improve_169 (by rfl) (by unfold imRS; first | (rw [if_pos h158]; done) | (rw [if_neg h158]; done))
  · refine A_aload_n dX11_improve_161 rfl 3 rfl ?_
    refine A_getr fl_X11_93 lk_84 rfl dX11_improve_162 ?_
    refine A_iload_n dX11_improve_165 rfl 1 rfl ?_
    refine A_iload_n dX11_improve_166 rfl 2 rfl ?_
    refine J_iast lk_111 (by first | exact i32_eq (by assumption) | with_reducible exact hfV_i32 _ | with_reducible exact afV_i32 _ | with_reducible exact mnIn_i32 _ _ _ | with_reducible exact tiV_i32 _ | exact i32_eq ⟨by omega, by omega⟩ | with_reducible exact i32_i32 _ | with_reducible exact i32_eq (b2i_inr _) | with_reducible exact iand_i32 _ _ | rfl) (by omega) (by omega) (by decide) dX11_improve_167 ?_
    refine A_iload_n dX11_improve_168 rfl 0 rfl ?_
    exact A_iret dX11_improve_169 (by rfl) (by unfold imRS; first | (rw [if_pos h158]; done) | (rw [if_neg h158]; done))
set_option maxRecDepth 100000 in
set_option maxHeartbeats 4000000 in
theorem c_X11_isChoice (c : Int)  : Ct l G yX11_isChoice cX11_isChoice 2 (some .boolean) 1 0 0 [.ref (lay G 84), .int (I32 c)] σ (some (.int (I32 (b2i (isC σ c))))) (σ) := by
  refine Ct.of (by decide +kernel) (Nat.le_of_ble_eq_true rfl) (fun f => ?_)
  show AW _ _ _ _ _ _ _ _ _ _ [(0, _), (1, _)] _ _
  refine A_iload_n dX11_isChoice_0 rfl 1 rfl ?_
  refine A_iconst dX11_isChoice_1 ?_
  refine A_aload_n dX11_isChoice_2 rfl 0 rfl ?_
  refine A_geti fl_X11_289 lk_84 rfl dX11_isChoice_3 ?_
  refine A_iconst dX11_isChoice_6 ?_
  refine A_isub dX11_isChoice_7 ?_
  refine A_Sa3 ms_X11_106 (c_X11_isIn _ _ _ _) (Nat.le_of_ble_eq_true rfl) (by omega) (by omega) dX11_isChoice_8 ?_
  exact A_zret dX11_isChoice_11 (by rfl) (by rfl)
set_option maxRecDepth 100000 in
set_option maxHeartbeats 4000000 in
theorem c_X11_isDay (d : Int)  : Ct l G yX11_isDay cX11_isDay 2 (some .boolean) 1 0 0 [.ref (lay G 84), .int (I32 d)] σ (some (.int (I32 (b2i (isD σ d))))) (σ) := by
  refine Ct.of (by decide +kernel) (Nat.le_of_ble_eq_true rfl) (fun f => ?_)
  show AW _ _ _ _ _ _ _ _ _ _ [(0, _), (1, _)] _ _
  refine A_iload_n dX11_isDay_0 rfl 1 rfl ?_
  refine A_iconst dX11_isDay_1 ?_
  refine A_aload_n dX11_isDay_2 rfl 0 rfl ?_
  refine A_geti fl_X11_320 lk_84 rfl dX11_isDay_3 ?_
  refine A_iconst dX11_isDay_6 ?_
  refine A_isub dX11_isDay_7 ?_
  refine A_Sa3 ms_X11_106 (c_X11_isIn _ _ _ _) (Nat.le_of_ble_eq_true rfl) (by omega) (by omega) dX11_isDay_8 ?_
  exact A_zret dX11_isDay_11 (by rfl) (by rfl)
set_option maxRecDepth 100000 in
set_option maxHeartbeats 4000000 in
theorem w_X11_ex40 {f : Fm} {Q : State → Prop} {xs : va_W} {kk nn rc rs : Nat} (C D a0 b : Int) (ha : 0 ≤ a0 ∧ a0 < D) (hb : 0 ≤ b ∧ b < D) (hm : kk ≤ rc ∧ nn ≤ rs) : ∀ (n : Nat) (i : Int) (a : Sg), 0 ≤ i → inr i → i + n = 8 → (PX C D a) → AW l G f (RX11, cX11_exchange, 5, (some .int)) (5, rc, rs) Q xs kk nn 92 [(0, .ref (lay G 84)), (1, .int (I32 a0)), (2, .int (I32 b))] [] ((fW (C) (exG a0 b) n i a)) → AW l G f (RX11, cX11_exchange, 5, (some .int)) (5, rc, rs) Q xs kk nn 40 [(3, .int (I32 i)), (0, .ref (lay G 84)), (1, .int (I32 a0)), (2, .int (I32 b))] [] (a) := by
  intro n
  induction n using Nat.strongRecOn with | _ n ih =>
  intro i a h0 hii hn hv0 hK
  obtain ⟨hi1, hi2⟩ := hii
  obtain ⟨hP, hJC, hJD⟩ := id hv0
  obtain ⟨hC1, hC2, hC3, hC4, hC5, hC6⟩ := id hP.1
  obtain ⟨hM1, hM2⟩ := id hP.2.2.2.1
  refine A_iload_n dX11_exchange_40 rfl 0 rfl ?_
  refine A_aload_n dX11_exchange_41 rfl 1 rfl ?_
  refine A_geti fl_X11_289 lk_84 rfl dX11_exchange_42 ?_
  try simp (disch := omega) only [up_k, up_j, up_s]
  refine J_icmp_ge (tgt := 92) dX11_exchange_45 (by decide) (by first | exact i32_eq (by assumption) | with_reducible exact hfV_i32 _ | with_reducible exact afV_i32 _ | with_reducible exact mnIn_i32 _ _ _ | with_reducible exact tiV_i32 _ | exact i32_eq ⟨by omega, by omega⟩ | with_reducible exact i32_i32 _ | with_reducible exact i32_eq (b2i_inr _) | with_reducible exact iand_i32 _ _ | rfl) (by first | exact i32_eq (by assumption) | with_reducible exact hfV_i32 _ | with_reducible exact afV_i32 _ | with_reducible exact mnIn_i32 _ _ _ | with_reducible exact tiV_i32 _ | exact i32_eq ⟨by omega, by omega⟩ | with_reducible exact i32_i32 _ | with_reducible exact i32_eq (b2i_inr _) | with_reducible exact iand_i32 _ _ | rfl) (fun h45 => ?_) (fun h45 => ?_)
  · refine A_lv [1, 2, 3] rfl ?_
    clear ih
    cases n with | zero => exact hK | succ n => rw [fW_s, if_neg (by omega)] at hK; exact hK
  · refine A_aload_n dX11_exchange_48 rfl 1 rfl ?_
    refine A_iload_n dX11_exchange_49 rfl 2 rfl ?_
    refine A_iload_n dX11_exchange_50 rfl 0 rfl ?_
    refine A_Va2 mv_X11_362 lk_84 rfl rfl (c_X11_dishAt a0 i ⟨by omega, by omega⟩ ⟨by omega, by omega⟩) (Nat.le_of_ble_eq_true rfl) (by omega) (by omega) dX11_exchange_51 ?_
    refine A_istore (lv2 := [(4, _), (3, _), (0, _), (1, _), (2, _)]) dX11_exchange_54 (by decide) rfl ?_
    refine A_aload_n dX11_exchange_56 rfl 2 rfl ?_
    refine A_getr fl_X11_93 lk_84 rfl dX11_exchange_57 ?_
    refine A_bipush dX11_exchange_60 (by decide +kernel) ?_
    refine A_iload_n dX11_exchange_62 rfl 3 rfl ?_
    refine A_imul dX11_exchange_63 ?_
    refine A_iload_n dX11_exchange_64 rfl 1 rfl ?_
    refine A_iadd dX11_exchange_65 ?_
    refine A_aload_n dX11_exchange_66 rfl 2 rfl ?_
    refine A_iload_n dX11_exchange_67 rfl 4 rfl ?_
    refine A_iload_n dX11_exchange_68 rfl 1 rfl ?_
    refine A_Va2 mv_X11_362 lk_84 rfl rfl (c_X11_dishAt b i ⟨by omega, by omega⟩ ⟨by omega, by omega⟩) (Nat.le_of_ble_eq_true rfl) (by omega) (by omega) dX11_exchange_69 ?_
    refine J_iast lk_111 (by first | exact i32_eq (by assumption) | with_reducible exact hfV_i32 _ | with_reducible exact afV_i32 _ | with_reducible exact mnIn_i32 _ _ _ | with_reducible exact tiV_i32 _ | exact i32_eq ⟨by omega, by omega⟩ | with_reducible exact i32_i32 _ | with_reducible exact i32_eq (b2i_inr _) | with_reducible exact iand_i32 _ _ | rfl) (by omega) (by omega) (by decide) dX11_exchange_72 ?_
    refine A_aload_n dX11_exchange_73 rfl 2 rfl ?_
    refine A_getr fl_X11_93 lk_84 rfl dX11_exchange_74 ?_
    refine A_bipush dX11_exchange_77 (by decide +kernel) ?_
    refine A_iload_n dX11_exchange_79 rfl 4 rfl ?_
    refine A_imul dX11_exchange_80 ?_
    refine A_iload_n dX11_exchange_81 rfl 1 rfl ?_
    refine A_iadd dX11_exchange_82 ?_
    refine A_iload dX11_exchange_83 0 rfl ?_
    refine J_iast lk_111 (by first | exact i32_eq (by assumption) | with_reducible exact hfV_i32 _ | with_reducible exact afV_i32 _ | with_reducible exact mnIn_i32 _ _ _ | with_reducible exact tiV_i32 _ | exact i32_eq ⟨by omega, by omega⟩ | with_reducible exact i32_i32 _ | with_reducible exact i32_eq (b2i_inr _) | with_reducible exact iand_i32 _ _ | rfl) (by omega) (by omega) (by decide) dX11_exchange_85 ?_
    refine A_iinc (lv2 := [(3, _), (4, _), (0, _), (1, _), (2, _)]) dX11_exchange_86 1 rfl (by decide) rfl ?_
    refine A_goto (tgt := 40) dX11_exchange_89 (by decide) ?_
    refine A_lv [0, 2, 3, 4] rfl ?_
    refine ih (n - 1) (by omega) (i + 1) _ (by omega) ⟨by omega, by omega⟩ (by omega) (PX_G hv0 ha hb ⟨by omega, by omega⟩) ?_
    obtain ⟨n, rfl⟩ : ∃ q, n = q + 1 := ⟨n - 1, by omega⟩
    clear ih
    rw [fW_s] at hK
    simp only [Nat.add_sub_cancel]
    (repeat' split at hK) <;> first | contradiction | (exfalso; omega) | exact hK | (simp_all; done)
set_option maxRecDepth 100000 in
set_option maxHeartbeats 4000000 in
theorem c_X11_exchange (a b : Int) (hP : PI σ) (hx : inr a) (hy : inr b) : Ct l G yX11_exchange cX11_exchange 5 (some .int) 5 0 0 [.ref (lay G 84), .int (I32 a), .int (I32 b)] σ (some (.int (I32 (exRV σ a b)))) (exRS σ a b) := by
  have hP0 : PI (up σ 84 0 0) := hP
  obtain ⟨hC1, hC2, hC3, hC4, hC5, hC6⟩ := id hP.1
  obtain ⟨hM1, hM2⟩ := id hP.2.2.2.1
  have hz39 : up σ 84 0 0 84 39 = σ 84 39 := rfl
  refine Ct.of (by decide +kernel) (Nat.le_of_ble_eq_true rfl) (fun f => ?_)
  show AW _ _ _ _ _ _ _ _ _ _ [(0, _), (1, _), (2, _)] _ _
  refine A_aload_n dX11_exchange_0 rfl 0 rfl ?_
  refine A_iconst dX11_exchange_1 ?_
  refine A_puti fl_X11_96 lk_84 rfl dX11_exchange_2 ?_
  refine A_aload_n dX11_exchange_5 rfl 0 rfl ?_
  refine A_iload_n dX11_exchange_6 rfl 1 rfl ?_
  refine A_Va1 mv_X11_391 lk_84 rfl rfl (c_X11_isDay _) (Nat.le_of_ble_eq_true rfl) (by omega) (by omega) dX11_exchange_7 ?_
  refine A_ifeq_b (tgt := 21) dX11_exchange_10 (by decide) (fun h10 => ?_) (fun h10 => ?_)
  · refine A_aload_n dX11_exchange_21 rfl 0 rfl ?_
    refine A_iconst dX11_exchange_22 ?_
    refine A_Va1 mv_X11_102 lk_84 rfl rfl (c_X11_no _ _) (Nat.le_of_ble_eq_true rfl) (by omega) (by omega) dX11_exchange_23 ?_
    exact A_iret dX11_exchange_26 (by unfold exRV; first | (rw [if_pos ⟨h10, h18⟩, if_pos h29]; done) | (rw [if_pos ⟨h10, h18⟩, if_neg h29]; rfl) | (rw [if_neg (fun z => absurd (z.1.symm.trans h10) (by decide))]; done) | (rw [if_neg (fun z => absurd (z.2.symm.trans h18) (by decide))]; done)) (by unfold exRS; first | (rw [if_pos ⟨h10, h18⟩, if_pos h29]; done) | (rw [if_pos ⟨h10, h18⟩, if_neg h29]; rfl) | (rw [if_neg (fun z => absurd (z.1.symm.trans h10) (by decide))]; done) | (rw [if_neg (fun z => absurd (z.2.symm.trans h18) (by decide))]; done))
  · have hb10 := inR_t hx inr_0 ⟨by omega, by omega⟩ (h10 : inR _ 0 _ = true)
    refine A_aload_n dX11_exchange_13 rfl 0 rfl ?_
    refine A_iload_n dX11_exchange_14 rfl 2 rfl ?_
    refine A_Va1 mv_X11_391 lk_84 rfl rfl (c_X11_isDay _) (Nat.le_of_ble_eq_true rfl) (by omega) (by omega) dX11_exchange_15 ?_
    refine A_ifne_b (tgt := 27) dX11_exchange_18 (by decide) (fun h18 => ?_) (fun h18 => ?_)
    · have hb18 := inR_t hy inr_0 ⟨by omega, by omega⟩ (h18 : inR _ 0 _ = true)
      refine A_iload_n dX11_exchange_27 rfl 1 rfl ?_
      refine A_iload_n dX11_exchange_28 rfl 2 rfl ?_
      refine J_icmp_ne (tgt := 38) dX11_exchange_29 (by decide) (by first | exact i32_eq (by assumption) | with_reducible exact hfV_i32 _ | with_reducible exact afV_i32 _ | with_reducible exact mnIn_i32 _ _ _ | with_reducible exact tiV_i32 _ | exact i32_eq ⟨by omega, by omega⟩ | with_reducible exact i32_i32 _ | with_reducible exact i32_eq (b2i_inr _) | with_reducible exact iand_i32 _ _ | rfl) (by first | exact i32_eq (by assumption) | with_reducible exact hfV_i32 _ | with_reducible exact afV_i32 _ | with_reducible exact mnIn_i32 _ _ _ | with_reducible exact tiV_i32 _ | exact i32_eq ⟨by omega, by omega⟩ | with_reducible exact i32_i32 _ | with_reducible exact i32_eq (b2i_inr _) | with_reducible exact iand_i32 _ _ | rfl) (fun h29 => ?_) (fun h29 => ?_)
      · refine A_iconst dX11_exchange_38 ?_
        refine A_istore_n (lv2 := [(3, _), (0, _), (1, _), (2, _)]) dX11_exchange_39 rfl (by decide) rfl ?_
        refine A_lv [0, 1, 2, 3] rfl ?_
        refine w_X11_ex40 (σ 84 25) (σ 84 39) a b ⟨by omega, by omega⟩ ⟨by omega, by omega⟩ (by omega) 8 0 _ (by omega) ⟨by omega, by omega⟩ (by omega) ⟨hP, rfl, rfl⟩ ?_
        refine A_aload_n dX11_exchange_92 rfl 0 rfl ?_
        refine A_Va0 mv_X11_388 lk_84 rfl rfl (c_X11_allFaults (PX_T hP (a := a) (b := b) ⟨by omega, by omega⟩ ⟨by omega, by omega⟩).1) (Nat.le_of_ble_eq_true rfl) (by omega) (by omega) dX11_exchange_93 ?_
        exact A_iret dX11_exchange_96 (by unfold exRV; first | (rw [if_pos ⟨h10, h18⟩, if_pos h29]; done) | (rw [if_pos ⟨h10, h18⟩, if_neg h29]; rfl) | (rw [if_neg (fun z => absurd (z.1.symm.trans h10) (by decide))]; done) | (rw [if_neg (fun z => absurd (z.2.symm.trans h18) (by decide))]; done)) (by unfold exRS; first | (rw [if_pos ⟨h10, h18⟩, if_pos h29]; done) | (rw [if_pos ⟨h10, h18⟩, if_neg h29]; rfl) | (rw [if_neg (fun z => absurd (z.1.symm.trans h10) (by decide))]; done) | (rw [if_neg (fun z => absurd (z.2.symm.trans h18) (by decide))]; done))
      · refine A_aload_n dX11_exchange_32 rfl 0 rfl ?_
        refine A_iconst dX11_exchange_33 ?_
        refine A_Va1 mv_X11_102 lk_84 rfl rfl (c_X11_no _ _) (Nat.le_of_ble_eq_true rfl) (by omega) (by omega) dX11_exchange_34 ?_
        exact A_iret dX11_exchange_37 (by unfold exRV; first | (rw [if_pos ⟨h10, h18⟩, if_pos h29]; done) | (rw [if_pos ⟨h10, h18⟩, if_neg h29]; rfl) | (rw [if_neg (fun z => absurd (z.1.symm.trans h10) (by decide))]; done) | (rw [if_neg (fun z => absurd (z.2.symm.trans h18) (by decide))]; done)) (by unfold exRS; first | (rw [if_pos ⟨h10, h18⟩, if_pos h29]; done) | (rw [if_pos ⟨h10, h18⟩, if_neg h29]; rfl) | (rw [if_neg (fun z => absurd (z.1.symm.trans h10) (by decide))]; done) | (rw [if_neg (fun z => absurd (z.2.symm.trans h18) (by decide))]; done))
    · refine A_aload_n dX11_exchange_21 rfl 0 rfl ?_
      refine A_iconst dX11_exchange_22 ?_
      refine A_Va1 mv_X11_102 lk_84 rfl rfl (c_X11_no _ _) (Nat.le_of_ble_eq_true rfl) (by omega) (by omega) dX11_exchange_23 ?_
      exact A_iret dX11_exchange_26 (by unfold exRV; first | (rw [if_pos ⟨h10, h18⟩, if_pos h29]; done) | (rw [if_pos ⟨h10, h18⟩, if_neg h29]; rfl) | (rw [if_neg (fun z => absurd (z.1.symm.trans h10) (by decide))]; done) | (rw [if_neg (fun z => absurd (z.2.symm.trans h18) (by decide))]; done)) (by unfold exRS; first | (rw [if_pos ⟨h10, h18⟩, if_pos h29]; done) | (rw [if_pos ⟨h10, h18⟩, if_neg h29]; rfl) | (rw [if_neg (fun z => absurd (z.1.symm.trans h10) (by decide))]; done) | (rw [if_neg (fun z => absurd (z.2.symm.trans h18) (by decide))]; done))
end S49
