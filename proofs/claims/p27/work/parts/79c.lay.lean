/-! the law lays its row on the tape -/
section S79c
variable {l : Launch} {G : Gx} {f : Fm} {Q : State → Prop} {σ τ : Sg}
set_option maxRecDepth 100000 in
set_option maxHeartbeats 4000000 in
theorem w_L_lay_in (hk : (lkG G)[86]? = some (.inr (1, 1400, 0))) {s k : Nat} (hs : s ≤ 1399) (hks : k < s) {B : Nat → Int} (hB : ∀ j, B j = if j < s then σ 86 (1 + j) else 32) {a : Nat} {cA : ClassId} (hKA : KA G f cA) {kk nn : Nat} : ∀ (n i : Nat), i + n = 20 → AW l G f (RL, cL_lay, 7, some .boolean) (7, 150, 900) Q [tmA cA a 5 (wQ B k 20)] kk nn 82 [(5, .ref a), (0, .ref (lay G 0)), (1, .ref (lay G 86)), (2, .int (I32 0)), (3, .int (I32 (s : Int))), (4, .int (I32 (k : Int)))] [] σ → AW l G f (RL, cL_lay, 7, some .boolean) (7, 150, 900) Q [tmA cA a 5 (wQ B k i)] kk nn 28 [(6, .int (I32 (i : Int))), (5, .ref a), (0, .ref (lay G 0)), (1, .ref (lay G 86)), (2, .int (I32 0)), (3, .int (I32 (s : Int))), (4, .int (I32 (k : Int)))] [] σ := by
  intro n
  induction n using Nat.strongRecOn with | _ n ih =>
    intro i hn K
    refine A_iload dL_lay_28 0 rfl ?_
    refine A_bipush dL_lay_30 (by decide +kernel) ?_
    refine J_icmp_ge (tgt := 82) dL_lay_32 (by decide) (by first | exact i32_eq (by assumption) | exact i32_eq ⟨by omega, by omega⟩ | with_reducible exact i32_i32 _ | with_reducible exact i32_eq (b2i_inr _) | rfl) (by first | exact i32_eq (by assumption) | exact i32_eq ⟨by omega, by omega⟩ | with_reducible exact i32_i32 _ | with_reducible exact i32_eq (b2i_inr _) | rfl) (fun h32 => ?_) (fun h32 => ?_)
    · obtain rfl : i = 20 := by omega
      refine A_lv [1, 2, 3, 4, 5, 6] rfl ?_
      exact K
    · refine A_aload dL_lay_35 1 rfl ?_
      refine A_iload dL_lay_37 0 rfl ?_
      refine A_iconst dL_lay_39 ?_
      refine J_idiv dL_lay_40 (by first | exact i32_eq (by assumption) | exact i32_eq ⟨by omega, by omega⟩ | with_reducible exact i32_i32 _ | with_reducible exact i32_eq (b2i_inr _) | rfl) (by first | exact i32_eq (by assumption) | exact i32_eq ⟨by omega, by omega⟩ | with_reducible exact i32_i32 _ | with_reducible exact i32_eq (b2i_inr _) | rfl) (by omega) ?_
      rw [show ((i : Int).tdiv 4) = ((i / 4 : Nat) : Int) from by rw [Int.tdiv_eq_ediv_of_nonneg (by omega)]; omega]
      refine A_aload dL_lay_41 1 rfl ?_
      refine A_iload dL_lay_43 0 rfl ?_
      refine A_iconst dL_lay_45 ?_
      refine J_idiv dL_lay_46 (by first | exact i32_eq (by assumption) | exact i32_eq ⟨by omega, by omega⟩ | with_reducible exact i32_i32 _ | with_reducible exact i32_eq (b2i_inr _) | rfl) (by first | exact i32_eq (by assumption) | exact i32_eq ⟨by omega, by omega⟩ | with_reducible exact i32_i32 _ | with_reducible exact i32_eq (b2i_inr _) | rfl) (by omega) ?_
      rw [show ((i : Int).tdiv 4) = ((i / 4 : Nat) : Int) from by rw [Int.tdiv_eq_ediv_of_nonneg (by omega)]; omega]
      refine A_ialdT (q := 0) rfl hKA (by first | exact i32_eq (by assumption) | exact i32_eq ⟨by omega, by omega⟩ | with_reducible exact i32_i32 _ | with_reducible exact i32_eq (b2i_inr _) | rfl) (by omega) (by omega) (by decide) dL_lay_47 ?_
      rw [Int.toNat_natCast]
      refine A_bipush dL_lay_48 (by decide +kernel) ?_
      refine A_ishl dL_lay_50 ?_
      refine A_iload dL_lay_51 6 rfl ?_
      refine A_iload dL_lay_53 0 rfl ?_
      refine A_iadd dL_lay_55 ?_
      refine A_iload_n dL_lay_56 rfl 5 rfl ?_
      refine J_icmp_ge (tgt := 72) dL_lay_57 (by decide) (by first | exact i32_eq (by assumption) | exact i32_eq ⟨by omega, by omega⟩ | with_reducible exact i32_i32 _ | with_reducible exact i32_eq (b2i_inr _) | rfl) (by first | exact i32_eq (by assumption) | exact i32_eq ⟨by omega, by omega⟩ | with_reducible exact i32_i32 _ | with_reducible exact i32_eq (b2i_inr _) | rfl) (fun h57 => ?_) (fun h57 => ?_)
      · refine A_bipush dL_lay_72 (by decide +kernel) ?_
        refine A_ior dL_lay_74 ?_
        refine A_iastT (q := 0) rfl hKA (by first | exact i32_eq (by assumption) | exact i32_eq ⟨by omega, by omega⟩ | with_reducible exact i32_i32 _ | with_reducible exact i32_eq (b2i_inr _) | rfl) (by omega) (by omega) (by decide) dL_lay_75 ?_
        rw [show upT (wQ B k i) ((i / 4 : Nat) : Int).toNat (ior (ishl (wQ B k i (i / 4)) 8) 32) = wQ B k (i + 1) from by
          show _ = upT (wQ B k i) (i / 4) (ior (ishl (wQ B k i (i / 4)) 8) (B (k + i)))
          rw [Int.toNat_natCast, (hB (k + i)).trans (if_neg (by omega))]]
        refine A_iinc (lv2 := [(6, _), (5, _), (0, _), (1, _), (2, _), (3, _), (4, _)]) dL_lay_76 0 rfl (by decide) rfl ?_
        refine A_goto (tgt := 28) dL_lay_79 (by decide) ?_
        refine A_lv [0, 1, 2, 3, 4, 5, 6] rfl ?_
        rw [show ((i : Int) + 1) = ((i + 1 : Nat) : Int) from by omega]
        exact ih (n - 1) (by omega) (i + 1) (by omega) K
      · refine A_aload_n dL_lay_60 rfl 3 rfl ?_
        refine A_iconst dL_lay_61 ?_
        refine A_iload dL_lay_62 6 rfl ?_
        refine A_iadd dL_lay_64 ?_
        refine A_iload dL_lay_65 0 rfl ?_
        refine A_iadd dL_lay_67 ?_
        refine J_iald hk (by first | exact i32_eq (by assumption) | exact i32_eq ⟨by omega, by omega⟩ | with_reducible exact i32_i32 _ | with_reducible exact i32_eq (b2i_inr _) | rfl) (by omega) (by omega) (by decide) dL_lay_68 ?_
        rw [show ((1 : Int) + k + i).toNat = 1 + (k + i) from by omega]
        refine A_goto (tgt := 74) dL_lay_69 (by decide) ?_
        refine A_ior dL_lay_74 ?_
        refine A_iastT (q := 0) rfl hKA (by first | exact i32_eq (by assumption) | exact i32_eq ⟨by omega, by omega⟩ | with_reducible exact i32_i32 _ | with_reducible exact i32_eq (b2i_inr _) | rfl) (by omega) (by omega) (by decide) dL_lay_75 ?_
        rw [show upT (wQ B k i) ((i / 4 : Nat) : Int).toNat (ior (ishl (wQ B k i (i / 4)) 8) (σ 86 (1 + (k + i)))) = wQ B k (i + 1) from by
          show _ = upT (wQ B k i) (i / 4) (ior (ishl (wQ B k i (i / 4)) 8) (B (k + i)))
          rw [Int.toNat_natCast, (hB (k + i)).trans (if_pos (by omega))]]
        refine A_iinc (lv2 := [(6, _), (5, _), (0, _), (1, _), (2, _), (3, _), (4, _)]) dL_lay_76 0 rfl (by decide) rfl ?_
        refine A_goto (tgt := 28) dL_lay_79 (by decide) ?_
        refine A_lv [0, 1, 2, 3, 4, 5, 6] rfl ?_
        rw [show ((i : Int) + 1) = ((i + 1 : Nat) : Int) from by omega]
        exact ih (n - 1) (by omega) (i + 1) (by omega) K
set_option maxRecDepth 100000 in
set_option maxHeartbeats 4000000 in
theorem w_L_lay (hlt : l.stackTraces = false) (hk : (lkG G)[86]? = some (.inr (1, 1400, 0))) {s : Nat} (hs : s ≤ 1399) {B : Nat → Int} (hb : ∀ j, 0 ≤ B j ∧ B j < 128) : ∀ (m k : Nat) (σ τ : Sg) (kk nn : Nat), Rel σ τ → Tp τ B k → (∀ j, B j = if j < s then σ 86 (1 + j) else 32) → s ≤ k + 20 * m → k + 20 * m < s + 20 → kk + 2 * m + 1 ≤ 150 → nn + 11 * m + 6 ≤ 900 → AW l G f (RL, cL_lay, 7, some .boolean) (7, 150, 900) (QT G f 150 900 (some (.int (I32 1))) (trS (lyS B m k σ) s)) [] kk nn 14 [(4, .int (I32 (k : Int))), (0, .ref (lay G 0)), (1, .ref (lay G 86)), (2, .int (I32 0)), (3, .int (I32 (s : Int)))] [] σ := by
  intro m
  induction m using Nat.strongRecOn with | _ m ih =>
  intro k σ τ kk nn hR hT hB h1 h2 h3 h4
  refine A_iload dL_lay_14 0 rfl ?_
  refine A_iload_n dL_lay_16 rfl 4 rfl ?_
  refine J_icmp_ge (tgt := 113) dL_lay_17 (by decide) (by first | exact i32_eq (by assumption) | exact i32_eq ⟨by omega, by omega⟩ | with_reducible exact i32_i32 _ | with_reducible exact i32_eq (b2i_inr _) | rfl) (by first | exact i32_eq (by assumption) | exact i32_eq ⟨by omega, by omega⟩ | with_reducible exact i32_i32 _ | with_reducible exact i32_eq (b2i_inr _) | rfl) (fun h17 => ?_) (fun h17 => ?_)
  · obtain rfl : m = 0 := by omega
    have hct := c_X10_trim (l := l) (G := G) σ (s : Int) hlt
    rw [(ly_t hR hT (show s ≤ k by omega) (by omega)).1] at hct
    refine A_aload_n dL_lay_113 rfl 1 rfl ?_
    refine A_iload_n dL_lay_114 rfl 3 rfl ?_
    refine A_iload_n dL_lay_115 rfl 4 rfl ?_
    refine A_iadd dL_lay_116 ?_
    rw [show (0 : Int) + (s : Int) = (s : Int) from by omega]
    refine A_Vm1 (k2 := _) (n2 := _) mv_L_35 lk_0 rfl rfl hct.ct (Nat.le_of_ble_eq_true rfl) (by omega) (by omega) rfl rfl dL_lay_117 ?_
    refine A_iload_n dL_lay_120 rfl 3 rfl ?_
    refine A_iload_n dL_lay_121 rfl 4 rfl ?_
    refine A_iadd dL_lay_122 ?_
    rw [show (0 : Int) + (s : Int) = (s : Int) from by omega]
    refine J_icmp_ne (tgt := 130) dL_lay_123 (by decide) (by first | exact i32_eq (by assumption) | exact i32_eq ⟨by omega, by omega⟩ | with_reducible exact i32_i32 _ | with_reducible exact i32_eq (b2i_inr _) | rfl) (by first | exact i32_eq (by assumption) | exact i32_eq ⟨by omega, by omega⟩ | with_reducible exact i32_i32 _ | with_reducible exact i32_eq (b2i_inr _) | rfl) (fun h123 => ?_) (fun h123 => ?_)
    · exact absurd rfl h123
    · refine A_iconst dL_lay_126 ?_
      refine A_goto (tgt := 131) dL_lay_127 (by decide) ?_
      refine A_wid (k2 := 150) (n2 := 900) (by omega) (by omega) ?_
      exact A_zret2 dL_lay_131 (by decide) rfl rfl
  · refine A_iconst dL_lay_20 ?_
    refine A_newaT (N := 5) (by decide) (by decide) (by decide) (by omega) dL_lay_21 (fun a21 c21 hKA21 => ?_)
    refine A_astore (lv2 := [(5, _), (4, _), (0, _), (1, _), (2, _), (3, _)]) dL_lay_23 (by decide) rfl ?_
    refine A_iconst dL_lay_25 ?_
    refine A_istore (lv2 := [(6, _), (5, _), (4, _), (0, _), (1, _), (2, _), (3, _)]) dL_lay_26 (by decide) rfl ?_
    refine A_lv [0, 1, 3, 4, 5, 6, 2] rfl ?_
    obtain ⟨m, rfl⟩ : ∃ q, m = q + 1 := ⟨m - 1, by omega⟩
    obtain ⟨⟨x, hx⟩, y, hy, hty⟩ := ly_1 hb hR hT (by omega)
    have hct := c_X10_feed (l := l) (G := G) σ (wQ B k 20 0) (wQ B k 20 1) (wQ B k 20 2) (wQ B k 20 3) (wQ B k 20 4) hlt
    rw [hx] at hct
    refine w_L_lay_in hk hs (by omega) hB hKA21 20 0 rfl ?_
    refine A_aload_n dL_lay_82 rfl 1 rfl ?_
    refine A_aload dL_lay_83 0 rfl ?_
    refine A_iconst dL_lay_85 ?_
    refine A_ialdT (q := 0) rfl hKA21 (by first | exact i32_eq (by assumption) | exact i32_eq ⟨by omega, by omega⟩ | with_reducible exact i32_i32 _ | with_reducible exact i32_eq (b2i_inr _) | rfl) (by omega) (by omega) (by decide) dL_lay_86 ?_
    refine A_aload dL_lay_87 0 rfl ?_
    refine A_iconst dL_lay_89 ?_
    refine A_ialdT (q := 0) rfl hKA21 (by first | exact i32_eq (by assumption) | exact i32_eq ⟨by omega, by omega⟩ | with_reducible exact i32_i32 _ | with_reducible exact i32_eq (b2i_inr _) | rfl) (by omega) (by omega) (by decide) dL_lay_90 ?_
    refine A_aload dL_lay_91 0 rfl ?_
    refine A_iconst dL_lay_93 ?_
    refine A_ialdT (q := 0) rfl hKA21 (by first | exact i32_eq (by assumption) | exact i32_eq ⟨by omega, by omega⟩ | with_reducible exact i32_i32 _ | with_reducible exact i32_eq (b2i_inr _) | rfl) (by omega) (by omega) (by decide) dL_lay_94 ?_
    refine A_aload dL_lay_95 0 rfl ?_
    refine A_iconst dL_lay_97 ?_
    refine A_ialdT (q := 0) rfl hKA21 (by first | exact i32_eq (by assumption) | exact i32_eq ⟨by omega, by omega⟩ | with_reducible exact i32_i32 _ | with_reducible exact i32_eq (b2i_inr _) | rfl) (by omega) (by omega) (by decide) dL_lay_98 ?_
    refine A_aload dL_lay_99 0 rfl ?_
    refine A_iconst dL_lay_101 ?_
    refine A_ialdT (q := 0) rfl hKA21 (by first | exact i32_eq (by assumption) | exact i32_eq ⟨by omega, by omega⟩ | with_reducible exact i32_i32 _ | with_reducible exact i32_eq (b2i_inr _) | rfl) (by omega) (by omega) (by decide) dL_lay_102 ?_
    refine A_Vm5 (k2 := _) (n2 := _) mv_L_31 lk_0 rfl rfl hct.ct (Nat.le_of_ble_eq_true rfl) (by omega) (by omega) rfl rfl dL_lay_103 ?_
    refine A_dropx ?_
    refine A_pop dL_lay_106 rfl ?_
    refine A_iinc (lv2 := [(4, _), (5, _), (0, _), (1, _), (2, _), (3, _)]) dL_lay_107 5 rfl (by decide) rfl ?_
    refine A_goto (tgt := 14) dL_lay_110 (by decide) ?_
    refine A_lv [0, 2, 3, 4, 5] rfl ?_
    rw [show ((k : Int) + 20) = ((k + 20 : Nat) : Int) from by omega]
    exact ih m (by omega) (k + 20) (lyE B k σ) y _ _ hy hty (fun q => by rw [hB q]; unfold lyE; rw [feS_c (by decide)]) (by omega) (by omega) (by omega) (by omega)
set_option maxRecDepth 100000 in
set_option maxHeartbeats 4000000 in
theorem c_L_lay (hlt : l.stackTraces = false) (hk : (lkG G)[86]? = some (.inr (1, 1400, 0))) {tx : List Int} (hRel : Rel σ τ) (hz : σ 1 1 = 0) (hrow : Row σ tx) (hs : tx.length ≤ 1399) (hb : ∀ j, j < tx.length → 0 ≤ tx.getD j 0 ∧ tx.getD j 0 < 128) : ∃ σ', Ct l G yL_lay cL_lay 7 (some .boolean) 7 150 900 [.ref (lay G 0), .ref (lay G 86)] σ (some (.int (I32 1))) σ' ∧ (∃ y, Rel σ' y) ∧ σ' 1 1 = (tx.length : Int) ∧ (∀ j : Nat, j < tx.length → byteC σ' j = tx.getD j 0) ∧ ∀ q, 84 ≤ q → σ' q = σ q := by
  have hBB : ∀ j, (fun j => if j < tx.length then σ 86 (1 + j) else 32) j = if j < tx.length then σ 86 (1 + j) else 32 := fun j => rfl
  have hbb : ∀ j, 0 ≤ (fun j => if j < tx.length then σ 86 (1 + j) else 32) j ∧ (fun j => if j < tx.length then σ 86 (1 + j) else 32) j < 128 := fun j => by
    show 0 ≤ (if j < tx.length then σ 86 (1 + j) else 32) ∧ (if j < tx.length then σ 86 (1 + j) else 32) < 128
    by_cases c : j < tx.length
    · rw [if_pos c, hrow.2 j c]; exact hb j c
    · rw [if_neg c]; decide
  generalize (fun j => if j < tx.length then σ 86 (1 + j) else 32) = B at hBB hbb
  have hT : Tp τ B 0 := ⟨by rw [← hRel.2.2.2.2.2.2.2.1.1, hz]; rfl, fun j hj => absurd hj (Nat.not_lt_zero j)⟩
  refine ⟨trS (lyS B ((tx.length + 19) / 20) 0 σ) tx.length, ?_, ?_⟩
  · have hct := c_X10_count (l := l) (G := G) σ 7 hlt
    rw [show coO σ 7 = .inl (some (.int (I32 0))) from by
      unfold coO coV
      rw [i32_n 7 (by decide), if_neg (by decide), if_neg (by decide), if_neg (by decide), if_neg (by decide), if_neg (by decide), if_neg (by decide), if_neg (by decide), if_neg (by decide), hz]] at hct
    refine Ct.of (by decide +kernel) (Nat.le_of_ble_eq_true rfl) (fun f => ?_)
    show AW _ _ _ _ _ _ _ _ _ _ [(0, _), (1, _)] _ _
    refine A_aload_n dL_lay_0 rfl 0 rfl ?_
    refine A_bipush dL_lay_1 (by decide +kernel) ?_
    refine A_Vm1 (k2 := _) (n2 := _) mv_L_25 lk_0 rfl rfl hct.ct (Nat.le_of_ble_eq_true rfl) (by omega) (by omega) rfl rfl dL_lay_3 ?_
    refine A_istore_n (lv2 := [(2, _), (0, _), (1, _)]) dL_lay_6 rfl (by decide) rfl ?_
    refine A_aload_n dL_lay_7 rfl 2 rfl ?_
    refine A_iconst dL_lay_8 ?_
    refine J_iald hk (by first | exact i32_eq (by assumption) | exact i32_eq ⟨by omega, by omega⟩ | with_reducible exact i32_i32 _ | with_reducible exact i32_eq (b2i_inr _) | rfl) (by omega) (by omega) (by decide) dL_lay_9 ?_
    try simp (disch := omega) only [up_k, up_j, up_s]
    rw [show σ 86 (Int.toNat 0) = ((tx.length : Nat) : Int) from hrow.1]
    refine A_istore_n (lv2 := [(3, _), (2, _), (0, _), (1, _)]) dL_lay_10 rfl (by decide) rfl ?_
    refine A_iconst dL_lay_11 ?_
    refine A_istore (lv2 := [(4, _), (3, _), (2, _), (0, _), (1, _)]) dL_lay_12 (by decide) rfl ?_
    refine A_lv [0, 3, 4, 2, 1] rfl ?_
    exact w_L_lay hlt hk hs hbb ((tx.length + 19) / 20) 0 σ τ _ _ hRel hT hBB (by omega) (by omega) (by omega) (by omega)
  · obtain ⟨y, h1, h2⟩ := ly_n hbb ((tx.length + 19) / 20) 0 σ τ hRel hT (by omega)
    obtain ⟨-, z, h3, h4⟩ := ly_t (s := tx.length) h1 h2 (by omega) (by omega)
    obtain ⟨h5, h6⟩ := tp_by h3 h4 (by omega)
    refine ⟨⟨z, h3⟩, h5, fun j hj => ?_, fun q hq => ?_⟩
    · rw [h6 j hj, hBB j, if_pos hj]; exact hrow.2 j hj
    · rw [trS_c hq, ly_r hq]
end S79c
