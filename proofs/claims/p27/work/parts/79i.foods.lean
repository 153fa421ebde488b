/-! the law's menu: the foods and dishes -/
section S79i
variable {l : Launch} {G : Gx} {f : Fm} {Q : State → Prop} {bA L : Nat} {X : Nat → Int32}
set_option maxRecDepth 100000 in
set_option maxHeartbeats 4000000 in
theorem w_menu_A (hX : Scr f bA L X (G.2.2.2.1 25) (G.2.2.2.2.1 25)) (hL : L ≤ 2147483647) (h84 : (lkG G)[84]? = some (.inr (1, 6, 0))) (h85 : (lkG G)[85]? = some (.inr (1, 24, 0))) (hk : (lkG G)[86]? = some (.inr (1, 1400, 0))) {D : Nat} (hD : 2 ≤ D ∧ D ≤ 6) : ∀ (n k : Nat) (σ : Sg) (tx : List Int) (tg : Int) (kk nn : Nat), k + n = D → Row σ tx → tx.length + 41 * n ≤ 300 → kk + 6 * n ≤ 200 → nn + 30 * n ≤ 2000 → (∀ (σ' : Sg) (tx' : List Int) (tg' : Int), Row σ' tx' → tx' = tx ++ byL (flat (fdR (eV L X) (tV L X) k n)) → tx'.length ≤ tx.length + 41 * n → (∀ q, q ≠ 84 ∧ q ≠ 86 → σ' q = σ q) → AW l G f (RL, cL_menu, 16, some .int) (26, 210, 2600) Q [] (kk + 6 * n) (nn + 30 * n) 190 [(6, .int (I32 tg')), (0, .ref (lay G 0)), (1, .ref bA), (2, .int (I32 (D : Int))), (3, .ref (lay G 84)), (4, .ref (lay G 85)), (5, .ref (lay G 86))] [] σ') → AW l G f (RL, cL_menu, 16, some .int) (26, 210, 2600) Q [] kk nn 13 [(7, .int (I32 (k : Int))), (6, .int (I32 tg)), (0, .ref (lay G 0)), (1, .ref bA), (2, .int (I32 (D : Int))), (3, .ref (lay G 84)), (4, .ref (lay G 85)), (5, .ref (lay G 86))] [] σ := by
  intro n
  induction n using Nat.strongRecOn with | _ n ih =>
  intro k σ tx tg kk nn hkn hr hb1 hb2 hb3 K
  refine A_iload dL_menu_13 0 rfl ?_
  refine A_iload_n dL_menu_15 rfl 4 rfl ?_
  refine J_icmp_ge (tgt := 190) dL_menu_16 (by decide) (by first | exact i32_eq (by assumption) | exact i32_eq ⟨by omega, by omega⟩ | with_reducible exact i32_i32 _ | with_reducible exact i32_eq (b2i_inr _) | rfl) (by first | exact i32_eq (by assumption) | exact i32_eq ⟨by omega, by omega⟩ | with_reducible exact i32_i32 _ | with_reducible exact i32_eq (b2i_inr _) | rfl) (fun h16 => ?_) (fun h16 => ?_)
  · obtain rfl : n = 0 := by omega
    refine A_lv [1, 2, 3, 4, 5, 6, 7] rfl ?_
    exact K σ tx tg hr (List.append_nil _).symm (by omega) (fun _ _ => rfl)
  · have hk6 : k < 6 := by omega
    have hev := eV_bd L X k
    refine A_aload_n dL_menu_19 rfl 5 rfl ?_
    refine A_iload dL_menu_20 0 rfl ?_
    refine A_aload_n dL_menu_22 rfl 3 rfl ?_
    refine A_iconst dL_menu_23 ?_
    refine A_cell hX hL ⟨by omega, by omega⟩ (Nat.le_of_ble_eq_true rfl) (by omega) (by omega) dL_menu_24 ?_
    refine A_iconst dL_menu_27 ?_
    refine A_iload dL_menu_28 0 rfl ?_
    refine A_imul dL_menu_30 ?_
    refine A_ishr dL_menu_31 ?_
    refine A_sipush dL_menu_32 (by decide +kernel) ?_
    refine A_below (by omega) (Nat.le_of_ble_eq_true rfl) (by omega) (by omega) dL_menu_35 ?_
    refine J_iast h84 (by first | exact i32_eq (by assumption) | exact i32_eq ⟨by omega, by omega⟩ | with_reducible exact i32_i32 _ | with_reducible exact i32_eq (b2i_inr _) | rfl) (by omega) (by omega) (by decide) dL_menu_38 ?_
    change AW _ _ _ _ _ _ _ _ _ _ _ _ (up σ 84 ((k : Int)).toNat (eV L X k))
    have hr0 := row_up (j := ((k : Int)).toNat) (v := eV L X k) (show (84 : Nat) ≠ 86 by decide) hr
    have hv0 : up σ 84 ((k : Int)).toNat (eV L X k) 84 ((k : Int)).toNat = eV L X k := up_s _ _ _ _
    have hc0 : ∀ q, q ≠ 84 → up σ 84 ((k : Int)).toNat (eV L X k) q = σ q := fun q hq => up_r _ _ _ hq
    generalize up σ 84 ((k : Int)).toNat (eV L X k) = σ0 at hr0 hv0 hc0 ⊢
    refine A_aload dL_menu_39 7 rfl ?_
    refine A_ldcs (i := 24) (by decide +kernel) dL_menu_41 ?_
    refine A_putk (m := 6) (oi_c ⟨by decide, by decide⟩) hk hr0 (by decide +kernel) (by omega) (Nat.le_of_ble_eq_true rfl) (by omega) (by omega) dL_menu_43 (fun σ1 tx1 hr1 he1 hn1 hq1 => ?_)
    refine A_aload dL_menu_46 7 rfl ?_
    refine A_ldcs (i := 25) (by decide +kernel) dL_menu_48 ?_
    refine A_iload dL_menu_50 0 rfl ?_
    refine A_iload dL_menu_52 0 rfl ?_
    refine A_iconst dL_menu_54 ?_
    refine A_iadd dL_menu_55 ?_
    refine A_putL hk6 hX hk hr1 (by omega) (Nat.le_of_ble_eq_true rfl) (by omega) (by omega) dL_menu_56 dL_menu_59 (fun σ2 tx2 hr2 he2 hn2 hq2 => ?_)
    refine A_aload dL_menu_62 7 rfl ?_
    refine A_ldcs (i := 26) (by decide +kernel) dL_menu_64 ?_
    refine A_putk (m := 1) (oi_c ⟨by decide, by decide⟩) hk hr2 (by decide +kernel) (by omega) (Nat.le_of_ble_eq_true rfl) (by omega) (by omega) dL_menu_66 (fun σ3 tx3 hr3 he3 hn3 hq3 => ?_)
    refine A_aload dL_menu_69 7 rfl ?_
    refine A_aload_n dL_menu_71 rfl 5 rfl ?_
    refine A_iload dL_menu_72 0 rfl ?_
    refine J_iald h84 (by first | exact i32_eq (by assumption) | exact i32_eq ⟨by omega, by omega⟩ | with_reducible exact i32_i32 _ | with_reducible exact i32_eq (b2i_inr _) | rfl) (by omega) (by omega) (by decide) dL_menu_74 ?_
    try simp (disch := omega) only [up_k, up_j, up_s]
    rw [show σ3 84 ((k : Int)).toNat = eV L X k from by rw [hq3 84 (by decide), hq2 84 (by decide), hq1 84 (by decide)]; exact hv0]
    refine A_putn hk hr3 ⟨hev.1, by omega⟩ (by omega) (Nat.le_of_ble_eq_true rfl) (by omega) (by omega) dL_menu_75 (fun σ4 tx4 hr4 he4 hn4 hq4 => ?_)
    refine A_aload dL_menu_78 7 rfl ?_
    refine A_ldcs (i := 27) (by decide +kernel) dL_menu_80 ?_
    refine A_putk (m := 8) (oi_c ⟨by decide, by decide⟩) hk hr4 (by decide +kernel) (by omega) (Nat.le_of_ble_eq_true rfl) (by omega) (by omega) dL_menu_82 (fun σ5 tx5 hr5 he5 hn5 hq5 => ?_)
    refine A_aload dL_menu_85 7 rfl ?_
    refine A_ldcs (i := 25) (by decide +kernel) dL_menu_87 ?_
    refine A_iload dL_menu_89 0 rfl ?_
    refine A_iload dL_menu_91 0 rfl ?_
    refine A_iconst dL_menu_93 ?_
    refine A_iadd dL_menu_94 ?_
    refine A_putL hk6 hX hk hr5 (by omega) (Nat.le_of_ble_eq_true rfl) (by omega) (by omega) dL_menu_95 dL_menu_98 (fun σ6 tx6 hr6 he6 hn6 hq6 => ?_)
    refine A_aload dL_menu_101 7 rfl ?_
    refine A_ldcs (i := 28) (by decide +kernel) dL_menu_103 ?_
    refine A_putk (m := 13) (oi_c ⟨by decide, by decide⟩) hk hr6 (by decide +kernel) (by omega) (Nat.le_of_ble_eq_true rfl) (by omega) (by omega) dL_menu_105 (fun σ7 tx7 hr7 he7 hn7 hq7 => ?_)
    refine A_aload dL_menu_108 7 rfl ?_
    refine A_ldcs (i := 25) (by decide +kernel) dL_menu_110 ?_
    refine A_iload dL_menu_112 0 rfl ?_
    refine A_iload dL_menu_114 0 rfl ?_
    refine A_iconst dL_menu_116 ?_
    refine A_iadd dL_menu_117 ?_
    refine A_putL hk6 hX hk hr7 (by omega) (Nat.le_of_ble_eq_true rfl) (by omega) (by omega) dL_menu_118 dL_menu_121 (fun σ8 tx8 hr8 he8 hn8 hq8 => ?_)
    refine A_iload dL_menu_124 0 rfl ?_
    refine J_if_eq (tgt := 146) dL_menu_126 (by decide) (by first | exact i32_eq (by assumption) | exact i32_eq ⟨by omega, by omega⟩ | with_reducible exact i32_i32 _ | with_reducible exact i32_eq (b2i_inr _) | rfl) (fun h126 => ?_) (fun h126 => ?_)
    · refine A_iconst dL_menu_146 ?_
      refine A_goto (tgt := 151) dL_menu_147 (by decide) ?_
      refine A_istore (lv2 := [(8, _), (7, _), (6, _), (0, _), (1, _), (2, _), (3, _), (4, _), (5, _)]) dL_menu_151 (by decide) rfl ?_
      refine A_iload dL_menu_153 0 rfl ?_
      refine A_if_eq (tgt := 167) dL_menu_155 (by decide) ⟨by decide, by decide⟩ (fun h => absurd h (by decide)) (fun _ => ?_)
      refine A_iload dL_menu_158 2 rfl ?_
      refine A_iconst dL_menu_160 ?_
      refine A_iload dL_menu_161 1 rfl ?_
      refine A_ishl dL_menu_163 ?_
      refine A_ior dL_menu_164 ?_
      refine A_istore (lv2 := [(6, _), (8, _), (7, _), (0, _), (1, _), (2, _), (3, _), (4, _), (5, _)]) dL_menu_165 (by decide) rfl ?_
      refine A_aload dL_menu_167 8 rfl ?_
      refine A_iload dL_menu_169 1 rfl ?_
      refine A_if_eq (tgt := 179) dL_menu_171 (by decide) ⟨by decide, by decide⟩ (fun h => absurd h (by decide)) (fun _ => ?_)
      refine A_ldcs (i := 29) (by decide +kernel) dL_menu_174 ?_
      refine A_goto (tgt := 181) dL_menu_176 (by decide) ?_
      refine A_putk (m := 6) (oi_c ⟨by decide, by decide⟩) hk hr8 (by decide +kernel) (by omega) (Nat.le_of_ble_eq_true rfl) (by omega) (by omega) dL_menu_181 (fun σ9 tx9 hr9 he9 hn9 hq9 => ?_)
      refine A_iinc (lv2 := [(7, _), (6, _), (8, _), (0, _), (1, _), (2, _), (3, _), (4, _), (5, _)]) dL_menu_184 2 rfl (by decide) rfl ?_
      refine A_goto (tgt := 13) dL_menu_187 (by decide) ?_
      refine A_lv [0, 1, 3, 4, 5, 6, 7, 8] rfl ?_
      have ht : tV L X k = true := decide_eq_true (Or.inl (by omega))
      rw [show ((k : Int) + 1) = ((k + 1 : Nat) : Int) from by omega]
      obtain ⟨n, rfl⟩ : ∃ q, n = q + 1 := ⟨n - 1, by omega⟩
      refine ih n (by omega) (k + 1) σ9 tx9 _ _ _ (by omega) hr9 (by omega) (by omega) (by omega) (fun σ' tx' tg' a b c d => ?_)
      have K2 := K σ' tx' tg' a (by
        rw [b, he9, he8, he7, he6, he5, he4, he3, he2, he1]
        show _ = tx ++ byL (foodL k (eV L X k) ++ (dishL k (tV L X k) ++ flat (fdR (eV L X) (tV L X) (k + 1) n)))
        rw [← List.append_assoc (foodL k _), by_app, by_food, ht]
        simp only [List.append_assoc, ↓reduceIte, Bool.false_eq_true]) (by omega) (fun q hq => by rw [d q hq, hq9 _ hq.2, hq8 _ hq.2, hq7 _ hq.2, hq6 _ hq.2, hq5 _ hq.2, hq4 _ hq.2, hq3 _ hq.2, hq2 _ hq.2, hq1 _ hq.2, hc0 q hq.1])
      rw [show kk + 2 + 2 + 2 + 6 * n = kk + 6 * (n + 1) from by omega, show nn + 10 + 10 + 10 + 30 * n = nn + 30 * (n + 1) from by omega]
      exact K2
    · refine A_aload_n dL_menu_129 rfl 3 rfl ?_
      refine A_iconst dL_menu_130 ?_
      refine A_cell hX hL ⟨by omega, by omega⟩ (Nat.le_of_ble_eq_true rfl) (by omega) (by omega) dL_menu_131 ?_
      refine A_iconst dL_menu_134 ?_
      refine A_iload dL_menu_135 0 rfl ?_
      refine A_imul dL_menu_137 ?_
      refine A_ishr dL_menu_138 ?_
      refine A_iconst dL_menu_139 ?_
      refine A_below (by omega) (Nat.le_of_ble_eq_true rfl) (by omega) (by omega) dL_menu_140 ?_
      refine J_if_ne (tgt := 150) dL_menu_143 (by decide) (by first | exact i32_eq (by assumption) | exact i32_eq ⟨by omega, by omega⟩ | with_reducible exact i32_i32 _ | with_reducible exact i32_eq (b2i_inr _) | rfl) (fun h143 => ?_) (fun h143 => ?_)
      · have hb2 := blV_bd (ishr (clV L X 2) (2 * (k : Int))) (n := 2) (by decide)
        rw [i32_n _ (by omega)] at h143
        refine A_iconst dL_menu_150 ?_
        refine A_istore (lv2 := [(8, _), (7, _), (6, _), (0, _), (1, _), (2, _), (3, _), (4, _), (5, _)]) dL_menu_151 (by decide) rfl ?_
        refine A_iload dL_menu_153 0 rfl ?_
        refine A_if_eq (tgt := 167) dL_menu_155 (by decide) ⟨by decide, by decide⟩ (fun _ => ?_) (fun h => absurd h (by decide))
        refine A_aload dL_menu_167 8 rfl ?_
        refine A_iload dL_menu_169 0 rfl ?_
        refine A_if_eq (tgt := 179) dL_menu_171 (by decide) ⟨by decide, by decide⟩ (fun _ => ?_) (fun h => absurd h (by decide))
        refine A_ldcs (i := 30) (by decide +kernel) dL_menu_179 ?_
        refine A_putk (m := 1) (oi_c ⟨by decide, by decide⟩) hk hr8 (by decide +kernel) (by omega) (Nat.le_of_ble_eq_true rfl) (by omega) (by omega) dL_menu_181 (fun σ9 tx9 hr9 he9 hn9 hq9 => ?_)
        refine A_iinc (lv2 := [(7, _), (8, _), (6, _), (0, _), (1, _), (2, _), (3, _), (4, _), (5, _)]) dL_menu_184 1 rfl (by decide) rfl ?_
        refine A_goto (tgt := 13) dL_menu_187 (by decide) ?_
        refine A_lv [0, 2, 3, 4, 5, 6, 7, 8] rfl ?_
        have ht : tV L X k = false := decide_eq_false (by omega)
        rw [show ((k : Int) + 1) = ((k + 1 : Nat) : Int) from by omega]
        obtain ⟨n, rfl⟩ : ∃ q, n = q + 1 := ⟨n - 1, by omega⟩
        refine ih n (by omega) (k + 1) σ9 tx9 _ _ _ (by omega) hr9 (by omega) (by omega) (by omega) (fun σ' tx' tg' a b c d => ?_)
        have K2 := K σ' tx' tg' a (by
          rw [b, he9, he8, he7, he6, he5, he4, he3, he2, he1]
          show _ = tx ++ byL (foodL k (eV L X k) ++ (dishL k (tV L X k) ++ flat (fdR (eV L X) (tV L X) (k + 1) n)))
          rw [← List.append_assoc (foodL k _), by_app, by_food, ht]
          simp only [List.append_assoc, ↓reduceIte, Bool.false_eq_true]) (by omega) (fun q hq => by rw [d q hq, hq9 _ hq.2, hq8 _ hq.2, hq7 _ hq.2, hq6 _ hq.2, hq5 _ hq.2, hq4 _ hq.2, hq3 _ hq.2, hq2 _ hq.2, hq1 _ hq.2, hc0 q hq.1])
        rw [show kk + 2 + 2 + 2 + 6 * n = kk + 6 * (n + 1) from by omega, show nn + 10 + 10 + 10 + 30 * n = nn + 30 * (n + 1) from by omega]
        exact K2
      · have hb2 := blV_bd (ishr (clV L X 2) (2 * (k : Int))) (n := 2) (by decide)
        rw [i32_n _ (by omega)] at h143
        refine A_iconst dL_menu_146 ?_
        refine A_goto (tgt := 151) dL_menu_147 (by decide) ?_
        refine A_istore (lv2 := [(8, _), (7, _), (6, _), (0, _), (1, _), (2, _), (3, _), (4, _), (5, _)]) dL_menu_151 (by decide) rfl ?_
        refine A_iload dL_menu_153 0 rfl ?_
        refine A_if_eq (tgt := 167) dL_menu_155 (by decide) ⟨by decide, by decide⟩ (fun h => absurd h (by decide)) (fun _ => ?_)
        refine A_iload dL_menu_158 2 rfl ?_
        refine A_iconst dL_menu_160 ?_
        refine A_iload dL_menu_161 1 rfl ?_
        refine A_ishl dL_menu_163 ?_
        refine A_ior dL_menu_164 ?_
        refine A_istore (lv2 := [(6, _), (8, _), (7, _), (0, _), (1, _), (2, _), (3, _), (4, _), (5, _)]) dL_menu_165 (by decide) rfl ?_
        refine A_aload dL_menu_167 8 rfl ?_
        refine A_iload dL_menu_169 1 rfl ?_
        refine A_if_eq (tgt := 179) dL_menu_171 (by decide) ⟨by decide, by decide⟩ (fun h => absurd h (by decide)) (fun _ => ?_)
        refine A_ldcs (i := 29) (by decide +kernel) dL_menu_174 ?_
        refine A_goto (tgt := 181) dL_menu_176 (by decide) ?_
        refine A_putk (m := 6) (oi_c ⟨by decide, by decide⟩) hk hr8 (by decide +kernel) (by omega) (Nat.le_of_ble_eq_true rfl) (by omega) (by omega) dL_menu_181 (fun σ9 tx9 hr9 he9 hn9 hq9 => ?_)
        refine A_iinc (lv2 := [(7, _), (6, _), (8, _), (0, _), (1, _), (2, _), (3, _), (4, _), (5, _)]) dL_menu_184 2 rfl (by decide) rfl ?_
        refine A_goto (tgt := 13) dL_menu_187 (by decide) ?_
        refine A_lv [0, 1, 3, 4, 5, 6, 7, 8] rfl ?_
        have ht : tV L X k = true := decide_eq_true (Or.inr h143)
        rw [show ((k : Int) + 1) = ((k + 1 : Nat) : Int) from by omega]
        obtain ⟨n, rfl⟩ : ∃ q, n = q + 1 := ⟨n - 1, by omega⟩
        refine ih n (by omega) (k + 1) σ9 tx9 _ _ _ (by omega) hr9 (by omega) (by omega) (by omega) (fun σ' tx' tg' a b c d => ?_)
        have K2 := K σ' tx' tg' a (by
          rw [b, he9, he8, he7, he6, he5, he4, he3, he2, he1]
          show _ = tx ++ byL (foodL k (eV L X k) ++ (dishL k (tV L X k) ++ flat (fdR (eV L X) (tV L X) (k + 1) n)))
          rw [← List.append_assoc (foodL k _), by_app, by_food, ht]
          simp only [List.append_assoc, ↓reduceIte, Bool.false_eq_true]) (by omega) (fun q hq => by rw [d q hq, hq9 _ hq.2, hq8 _ hq.2, hq7 _ hq.2, hq6 _ hq.2, hq5 _ hq.2, hq4 _ hq.2, hq3 _ hq.2, hq2 _ hq.2, hq1 _ hq.2, hc0 q hq.1])
        rw [show kk + 2 + 2 + 2 + 6 * n = kk + 6 * (n + 1) from by omega, show nn + 10 + 10 + 10 + 30 * n = nn + 30 * (n + 1) from by omega]
        exact K2
end S79i
