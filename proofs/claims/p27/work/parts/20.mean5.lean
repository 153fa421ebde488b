/-! MeaningReader: readFood, readDish, readProgram, findMeantDishes -/
section S20
variable {l : Launch} {G : Gx}
theorem nxM_at (σ : Sg) : nxM σ 51 6 = σ 51 6 + 1 := up_s _ _ _ _
theorem VC_nx (σ : Sg) : VC (nxM σ) = VC σ := VC_up (by decide) (by decide)
theorem KC_nx (σ : Sg) : KC (nxM σ) = KC σ := KC_up (by decide) (by decide)
set_option maxRecDepth 100000 in
set_option maxHeartbeats 4000000 in
theorem c_X2_readFood (σ : Sg)  : Ct l G yX2_readFood cX2_readFood 4 (some .boolean) 4 0 0 [.ref (lay G 51)] σ (some (.int (I32 (b2i (rfM σ).1)))) ((rfM σ).2) := by
  refine Ct.of (by decide +kernel) (Nat.le_of_ble_eq_true rfl) (fun f => ?_)
  show AW _ _ _ _ _ _ _ _ _ _ [(0, _)] _ _
  refine A_aload_n dX2_readFood_0 rfl 0 rfl ?_
  refine A_getr fl_X2_25 lk_51 rfl dX2_readFood_1 ?_
  refine A_getr fl_X2_86 lk_9 rfl dX2_readFood_4 ?_
  refine A_geti fl_X2_74 lk_10 rfl dX2_readFood_7 ?_
  rw [← I32_i32 (σ 10 2)]
  refine A_istore_n (lv2 := [(1, _), (0, _)]) dX2_readFood_10 rfl (by decide) rfl ?_
  refine A_aload_n dX2_readFood_11 rfl 1 rfl ?_
  refine A_getr fl_X2_25 lk_51 rfl dX2_readFood_12 ?_
  refine A_getr fl_X2_86 lk_9 rfl dX2_readFood_15 ?_
  refine A_Va0 mv_X2_89 lk_10 rfl rfl (c_X4_isFull_10 _) (Nat.le_of_ble_eq_true rfl) (by omega) (by omega) dX2_readFood_18 ?_
  try simp (disch := omega) only [nxM_at, VC_nx, KC_nx, up_k, up_j, up_s]
  refine A_ifne_b (tgt := 34) dX2_readFood_21 (by decide) (fun h21 => ?_) (fun h21 => ?_)
  · have hA : fullC σ 10 = true ∨ i32 (σ 10 2) < 0 ∨ 16 ≤ i32 (σ 10 2) := by first | exact Or.inl h21 | exact Or.inr (by omega)
    refine A_aload_n dX2_readFood_34 rfl 1 rfl ?_
    refine A_iconst dX2_readFood_35 ?_
    refine A_aload_n dX2_readFood_36 rfl 1 rfl ?_
    refine A_geti fl_X2_33 lk_51 rfl dX2_readFood_37 ?_
    try simp (disch := omega) only [up_k, up_j, up_s, nxM_at, VC_nx, KC_nx, up_k, up_j, up_s]
    refine A_Va2 mv_X2_82 lk_51 rfl rfl (c_X2_fail _ _ _) (Nat.le_of_ble_eq_true rfl) (by omega) (by omega) dX2_readFood_40 ?_
    try simp (disch := omega) only [nxM_at, VC_nx, KC_nx, up_k, up_j, up_s]
    exact A_zret dX2_readFood_43 (by (first | rw [rfM, if_neg hA] | rw [rfM, if_pos hA]) <;> (try clear hA) <;> (try simp only [rfEM, b2i_t, b2i_f, *, if_true, if_false, Bool.false_eq_true])) (by (first | rw [rfM, if_neg hA] | rw [rfM, if_pos hA]) <;> (try clear hA) <;> (try simp only [rfEM, b2i_t, b2i_f, *, if_true, if_false, Bool.false_eq_true]))
  · refine A_iload_n dX2_readFood_24 rfl 0 rfl ?_
    refine J_if_lt (tgt := 34) dX2_readFood_25 (by decide) (by first | with_reducible exact i32_eq (KC_inr _ _) | with_reducible exact idxC_i32 _ _ _ | exact i32_eq (by assumption) | exact i32_eq ⟨by omega, by omega⟩ | with_reducible exact i32_i32 _ | rfl) (fun h25 => ?_) (fun h25 => ?_)
    · have hA : fullC σ 10 = true ∨ i32 (σ 10 2) < 0 ∨ 16 ≤ i32 (σ 10 2) := by first | exact Or.inl h21 | exact Or.inr (by omega)
      refine A_aload_n dX2_readFood_34 rfl 1 rfl ?_
      refine A_iconst dX2_readFood_35 ?_
      refine A_aload_n dX2_readFood_36 rfl 1 rfl ?_
      refine A_geti fl_X2_33 lk_51 rfl dX2_readFood_37 ?_
      try simp (disch := omega) only [up_k, up_j, up_s, nxM_at, VC_nx, KC_nx, up_k, up_j, up_s]
      refine A_Va2 mv_X2_82 lk_51 rfl rfl (c_X2_fail _ _ _) (Nat.le_of_ble_eq_true rfl) (by omega) (by omega) dX2_readFood_40 ?_
      try simp (disch := omega) only [nxM_at, VC_nx, KC_nx, up_k, up_j, up_s]
      exact A_zret dX2_readFood_43 (by (first | rw [rfM, if_neg hA] | rw [rfM, if_pos hA]) <;> (try clear hA) <;> (try simp only [rfEM, b2i_t, b2i_f, *, if_true, if_false, Bool.false_eq_true])) (by (first | rw [rfM, if_neg hA] | rw [rfM, if_pos hA]) <;> (try clear hA) <;> (try simp only [rfEM, b2i_t, b2i_f, *, if_true, if_false, Bool.false_eq_true]))
    · refine A_iload_n dX2_readFood_28 rfl 0 rfl ?_
      refine A_bipush dX2_readFood_29 (by decide +kernel) ?_
      refine J_icmp_lt (tgt := 44) dX2_readFood_31 (by decide) (by first | with_reducible exact i32_eq (KC_inr _ _) | with_reducible exact idxC_i32 _ _ _ | exact i32_eq (by assumption) | exact i32_eq ⟨by omega, by omega⟩ | with_reducible exact i32_i32 _ | rfl) (by first | with_reducible exact i32_eq (KC_inr _ _) | with_reducible exact idxC_i32 _ _ _ | exact i32_eq (by assumption) | exact i32_eq ⟨by omega, by omega⟩ | with_reducible exact i32_i32 _ | rfl) (fun h31 => ?_) (fun h31 => ?_)
      · have hA : ¬ (fullC σ 10 = true ∨ i32 (σ 10 2) < 0 ∨ 16 ≤ i32 (σ 10 2)) := by rw [h21]; simp only [Bool.false_eq_true, false_or]; omega
        refine A_aload_n dX2_readFood_44 rfl 1 rfl ?_
        refine A_dup dX2_readFood_45 rfl ?_
        refine A_geti fl_X2_33 lk_51 rfl dX2_readFood_46 ?_
        try simp (disch := omega) only [up_k, up_j, up_s, nxM_at, VC_nx, KC_nx, up_k, up_j, up_s]
        refine A_iconst dX2_readFood_49 ?_
        refine A_iadd dX2_readFood_50 ?_
        refine A_puti fl_X2_33 lk_51 rfl dX2_readFood_51 ?_
        show AW _ _ _ _ _ _ _ _ _ _ _ _ (nxM σ)
        refine A_aload_n dX2_readFood_54 rfl 1 rfl ?_
        refine A_getr fl_X2_21 lk_51 rfl dX2_readFood_55 ?_
        refine A_aload_n dX2_readFood_58 rfl 1 rfl ?_
        refine A_geti fl_X2_33 lk_51 rfl dX2_readFood_59 ?_
        try simp (disch := omega) only [up_k, up_j, up_s, nxM_at, VC_nx, KC_nx, up_k, up_j, up_s]
        refine A_Va1 mv_X2_92 lk_3 rfl rfl (c_X9_valueOf _ _) (Nat.le_of_ble_eq_true rfl) (by omega) (by omega) dX2_readFood_62 ?_
        try simp (disch := omega) only [nxM_at, VC_nx, KC_nx, up_k, up_j, up_s]
        refine A_lstore_n (lv2 := [(2, _), (1, _), (0, _)]) dX2_readFood_65 rfl (by decide) rfl ?_
        refine A_aload_n dX2_readFood_66 rfl 2 rfl ?_
        refine A_Va0 mv_X2_96 lk_51 rfl rfl (c_X2_takeNewName _) (Nat.le_of_ble_eq_true rfl) (by omega) (by omega) dX2_readFood_67 ?_
        try simp (disch := omega) only [nxM_at, VC_nx, KC_nx, up_k, up_j, up_s]
        show AW _ _ _ _ _ _ _ _ _ _ _ (.int (I32 (b2i (rf1M σ).1)) :: _) (rf1M σ).2
        refine A_ifeq_b (tgt := 84) dX2_readFood_70 (by decide) (fun h70 => ?_) (fun h70 => ?_)
        · refine A_iconst dX2_readFood_84 ?_
          exact A_zret2 dX2_readFood_85 (by decide) (by (first | rw [rfM, if_neg hA] | rw [rfM, if_pos hA]) <;> (try clear hA) <;> (try simp only [rfEM, b2i_t, b2i_f, *, if_true, if_false, Bool.false_eq_true])) (by (first | rw [rfM, if_neg hA] | rw [rfM, if_pos hA]) <;> (try clear hA) <;> (try simp only [rfEM, b2i_t, b2i_f, *, if_true, if_false, Bool.false_eq_true]))
        · refine A_aload_n dX2_readFood_73 rfl 2 rfl ?_
          refine A_iconst dX2_readFood_74 ?_
          refine A_sipush dX2_readFood_75 (by decide +kernel) ?_
          refine A_Va2 mv_X2_99 lk_51 rfl rfl (c_X2_takeNumber _ _ _) (Nat.le_of_ble_eq_true rfl) (by omega) (by omega) dX2_readFood_78 ?_
          try simp (disch := omega) only [nxM_at, VC_nx, KC_nx, up_k, up_j, up_s]
          show AW _ _ _ _ _ _ _ _ _ _ _ (.int (I32 (b2i (rf2M σ).1)) :: _) (rf2M σ).2
          refine A_ifne_b (tgt := 86) dX2_readFood_81 (by decide) (fun h81 => ?_) (fun h81 => ?_)
          · refine A_aload_n dX2_readFood_86 rfl 2 rfl ?_
            refine A_getr fl_X2_25 lk_51 rfl dX2_readFood_87 ?_
            refine A_getr fl_X2_102 lk_9 rfl dX2_readFood_90 ?_
            refine A_iload_n dX2_readFood_93 rfl 1 rfl ?_
            refine A_aload_n dX2_readFood_94 rfl 2 rfl ?_
            refine A_geti fl_X2_105 lk_51 rfl dX2_readFood_95 ?_
            try simp (disch := omega) only [up_k, up_j, up_s, nxM_at, VC_nx, KC_nx, up_k, up_j, up_s]
            refine J_iast lk_23 (by first | with_reducible exact i32_eq (KC_inr _ _) | with_reducible exact idxC_i32 _ _ _ | exact i32_eq (by assumption) | exact i32_eq ⟨by omega, by omega⟩ | with_reducible exact i32_i32 _ | rfl) (by omega) (by omega) (by decide) dX2_readFood_98 ?_
            refine A_aload_n dX2_readFood_99 rfl 2 rfl ?_
            refine A_getr fl_X2_25 lk_51 rfl dX2_readFood_100 ?_
            refine A_getr fl_X2_108 lk_9 rfl dX2_readFood_103 ?_
            refine A_iload_n dX2_readFood_106 rfl 1 rfl ?_
            refine A_iconst dX2_readFood_107 ?_
            refine J_iast lk_24 (by first | with_reducible exact i32_eq (KC_inr _ _) | with_reducible exact idxC_i32 _ _ _ | exact i32_eq (by assumption) | exact i32_eq ⟨by omega, by omega⟩ | with_reducible exact i32_i32 _ | rfl) (by omega) (by omega) (by decide) dX2_readFood_108 ?_
            show AW _ _ _ _ _ _ _ _ _ _ _ _ (rf3M σ)
            refine A_aload_n dX2_readFood_109 rfl 2 rfl ?_
            refine A_bipush dX2_readFood_110 (by decide +kernel) ?_
            refine A_Va1 mv_X2_47 lk_51 rfl rfl (c_X2_isKind _ _ ⟨by decide, by decide⟩) (Nat.le_of_ble_eq_true rfl) (by omega) (by omega) dX2_readFood_112 ?_
            try simp (disch := omega) only [nxM_at, VC_nx, KC_nx, up_k, up_j, up_s]
            refine A_ifeq_b (tgt := 154) dX2_readFood_115 (by decide) (fun h115 => ?_) (fun h115 => ?_)
            · have e5 : rf5M σ = (true, rf3M σ) := by simp only [rf5M]; rw [if_neg (of_decide_eq_false h115)]
              refine A_aload_n dX2_readFood_154 rfl 2 rfl ?_
              refine A_iconst dX2_readFood_155 ?_
              refine A_puti fl_X2_111 lk_51 rfl dX2_readFood_156 ?_
              refine A_aload_n dX2_readFood_159 rfl 2 rfl ?_
              refine A_Va0 mv_X2_114 lk_51 rfl rfl (c_X2_takeTags _) (Nat.le_of_ble_eq_true rfl) (by omega) (by omega) dX2_readFood_160 ?_
              try simp (disch := omega) only [nxM_at, VC_nx, KC_nx, up_k, up_j, up_s]
              show AW _ _ _ _ _ _ _ _ _ _ _ (.int (I32 (b2i (rf6M _).1)) :: _) (rf6M _).2
              refine A_ifne_b (tgt := 168) dX2_readFood_163 (by decide) (fun h163 => ?_) (fun h163 => ?_)
              · refine A_aload_n dX2_readFood_168 rfl 2 rfl ?_
                refine A_getr fl_X2_25 lk_51 rfl dX2_readFood_169 ?_
                refine A_getr fl_X2_117 lk_9 rfl dX2_readFood_172 ?_
                refine A_iload_n dX2_readFood_175 rfl 1 rfl ?_
                refine A_aload_n dX2_readFood_176 rfl 2 rfl ?_
                refine A_geti fl_X2_111 lk_51 rfl dX2_readFood_177 ?_
                try simp (disch := omega) only [up_k, up_j, up_s, nxM_at, VC_nx, KC_nx, up_k, up_j, up_s]
                refine J_iast lk_25 (by first | with_reducible exact i32_eq (KC_inr _ _) | with_reducible exact idxC_i32 _ _ _ | exact i32_eq (by assumption) | exact i32_eq ⟨by omega, by omega⟩ | with_reducible exact i32_i32 _ | rfl) (by omega) (by omega) (by decide) dX2_readFood_180 ?_
                refine A_aload_n dX2_readFood_181 rfl 2 rfl ?_
                refine A_getr fl_X2_25 lk_51 rfl dX2_readFood_182 ?_
                refine A_getr fl_X2_86 lk_9 rfl dX2_readFood_185 ?_
                refine A_lload_n dX2_readFood_188 rfl 0 rfl ?_
                refine A_Vv1 mv_X2_120 lk_10 rfl rfl (c_X4_add_10 _ _) (Nat.le_of_ble_eq_true rfl) (by omega) (by omega) dX2_readFood_189 ?_
                try simp (disch := omega) only [nxM_at, VC_nx, KC_nx, up_k, up_j, up_s]
                refine A_aload_n dX2_readFood_192 rfl 2 rfl ?_
                refine A_dup dX2_readFood_193 rfl ?_
                refine A_geti fl_X2_33 lk_51 rfl dX2_readFood_194 ?_
                try simp (disch := omega) only [up_k, up_j, up_s, nxM_at, VC_nx, KC_nx, up_k, up_j, up_s]
                refine A_iconst dX2_readFood_197 ?_
                refine A_iadd dX2_readFood_198 ?_
                refine A_puti fl_X2_33 lk_51 rfl dX2_readFood_199 ?_
                show AW _ _ _ _ _ _ _ _ _ _ _ _ (nxM _)
                refine A_iconst dX2_readFood_202 ?_
                exact A_zret2 dX2_readFood_203 (by decide) (by (first | rw [rfM, if_neg hA] | rw [rfM, if_pos hA]) <;> (try clear hA) <;> (try simp only [rfEM, b2i_t, b2i_f, *, if_true, if_false, Bool.false_eq_true])) (by (first | rw [rfM, if_neg hA] | rw [rfM, if_pos hA]) <;> (try clear hA) <;> (try simp only [rfEM, b2i_t, b2i_f, *, if_true, if_false, Bool.false_eq_true]))
              · refine A_iconst dX2_readFood_166 ?_
                exact A_zret2 dX2_readFood_167 (by decide) (by (first | rw [rfM, if_neg hA] | rw [rfM, if_pos hA]) <;> (try clear hA) <;> (try simp only [rfEM, b2i_t, b2i_f, *, if_true, if_false, Bool.false_eq_true])) (by (first | rw [rfM, if_neg hA] | rw [rfM, if_pos hA]) <;> (try clear hA) <;> (try simp only [rfEM, b2i_t, b2i_f, *, if_true, if_false, Bool.false_eq_true]))
            · refine A_aload_n dX2_readFood_118 rfl 2 rfl ?_
              refine A_dup dX2_readFood_119 rfl ?_
              refine A_geti fl_X2_33 lk_51 rfl dX2_readFood_120 ?_
              try simp (disch := omega) only [up_k, up_j, up_s, nxM_at, VC_nx, KC_nx, up_k, up_j, up_s]
              refine A_iconst dX2_readFood_123 ?_
              refine A_iadd dX2_readFood_124 ?_
              refine A_puti fl_X2_33 lk_51 rfl dX2_readFood_125 ?_
              show AW _ _ _ _ _ _ _ _ _ _ _ _ (nxM (rf3M σ))
              refine A_aload_n dX2_readFood_128 rfl 2 rfl ?_
              refine A_iconst dX2_readFood_129 ?_
              refine A_sipush dX2_readFood_130 (by decide +kernel) ?_
              refine A_Va2 mv_X2_99 lk_51 rfl rfl (c_X2_takeNumber _ _ _) (Nat.le_of_ble_eq_true rfl) (by omega) (by omega) dX2_readFood_133 ?_
              try simp (disch := omega) only [nxM_at, VC_nx, KC_nx, up_k, up_j, up_s]
              show AW _ _ _ _ _ _ _ _ _ _ _ (.int (I32 (b2i (rf4M σ).1)) :: _) (rf4M σ).2
              refine A_ifne_b (tgt := 141) dX2_readFood_136 (by decide) (fun h136 => ?_) (fun h136 => ?_)
              · have e5 : rf5M σ = (true, up (rf4M σ).2 24 (i32 (σ 10 2)).toNat ((rf4M σ).2 51 9)) := by simp only [rf5M]; rw [if_pos (of_decide_eq_true h115), if_pos h136]
                refine A_aload_n dX2_readFood_141 rfl 2 rfl ?_
                refine A_getr fl_X2_25 lk_51 rfl dX2_readFood_142 ?_
                refine A_getr fl_X2_108 lk_9 rfl dX2_readFood_145 ?_
                refine A_iload_n dX2_readFood_148 rfl 1 rfl ?_
                refine A_aload_n dX2_readFood_149 rfl 2 rfl ?_
                refine A_geti fl_X2_105 lk_51 rfl dX2_readFood_150 ?_
                try simp (disch := omega) only [up_k, up_j, up_s, nxM_at, VC_nx, KC_nx, up_k, up_j, up_s]
                refine J_iast lk_24 (by first | with_reducible exact i32_eq (KC_inr _ _) | with_reducible exact idxC_i32 _ _ _ | exact i32_eq (by assumption) | exact i32_eq ⟨by omega, by omega⟩ | with_reducible exact i32_i32 _ | rfl) (by omega) (by omega) (by decide) dX2_readFood_153 ?_
                refine A_aload_n dX2_readFood_154 rfl 2 rfl ?_
                refine A_iconst dX2_readFood_155 ?_
                refine A_puti fl_X2_111 lk_51 rfl dX2_readFood_156 ?_
                refine A_aload_n dX2_readFood_159 rfl 2 rfl ?_
                refine A_Va0 mv_X2_114 lk_51 rfl rfl (c_X2_takeTags _) (Nat.le_of_ble_eq_true rfl) (by omega) (by omega) dX2_readFood_160 ?_
                try simp (disch := omega) only [nxM_at, VC_nx, KC_nx, up_k, up_j, up_s]
                show AW _ _ _ _ _ _ _ _ _ _ _ (.int (I32 (b2i (rf6M _).1)) :: _) (rf6M _).2
                refine A_ifne_b (tgt := 168) dX2_readFood_163 (by decide) (fun h163 => ?_) (fun h163 => ?_)
                · refine A_aload_n dX2_readFood_168 rfl 2 rfl ?_
                  refine A_getr fl_X2_25 lk_51 rfl dX2_readFood_169 ?_
                  refine A_getr fl_X2_117 lk_9 rfl dX2_readFood_172 ?_
                  refine A_iload_n dX2_readFood_175 rfl 1 rfl ?_
                  refine A_aload_n dX2_readFood_176 rfl 2 rfl ?_
                  refine A_geti fl_X2_111 lk_51 rfl dX2_readFood_177 ?_
                  try simp (disch := omega) only [up_k, up_j, up_s, nxM_at, VC_nx, KC_nx, up_k, up_j, up_s]
                  refine J_iast lk_25 (by first | with_reducible exact i32_eq (KC_inr _ _) | with_reducible exact idxC_i32 _ _ _ | exact i32_eq (by assumption) | exact i32_eq ⟨by omega, by omega⟩ | with_reducible exact i32_i32 _ | rfl) (by omega) (by omega) (by decide) dX2_readFood_180 ?_
                  refine A_aload_n dX2_readFood_181 rfl 2 rfl ?_
                  refine A_getr fl_X2_25 lk_51 rfl dX2_readFood_182 ?_
                  refine A_getr fl_X2_86 lk_9 rfl dX2_readFood_185 ?_
                  refine A_lload_n dX2_readFood_188 rfl 0 rfl ?_
                  refine A_Vv1 mv_X2_120 lk_10 rfl rfl (c_X4_add_10 _ _) (Nat.le_of_ble_eq_true rfl) (by omega) (by omega) dX2_readFood_189 ?_
                  try simp (disch := omega) only [nxM_at, VC_nx, KC_nx, up_k, up_j, up_s]
                  refine A_aload_n dX2_readFood_192 rfl 2 rfl ?_
                  refine A_dup dX2_readFood_193 rfl ?_
                  refine A_geti fl_X2_33 lk_51 rfl dX2_readFood_194 ?_
                  try simp (disch := omega) only [up_k, up_j, up_s, nxM_at, VC_nx, KC_nx, up_k, up_j, up_s]
                  refine A_iconst dX2_readFood_197 ?_
                  refine A_iadd dX2_readFood_198 ?_
                  refine A_puti fl_X2_33 lk_51 rfl dX2_readFood_199 ?_
                  show AW _ _ _ _ _ _ _ _ _ _ _ _ (nxM _)
                  refine A_iconst dX2_readFood_202 ?_
                  exact A_zret2 dX2_readFood_203 (by decide) (by (first | rw [rfM, if_neg hA] | rw [rfM, if_pos hA]) <;> (try clear hA) <;> (try simp only [rfEM, b2i_t, b2i_f, *, if_true, if_false, Bool.false_eq_true])) (by (first | rw [rfM, if_neg hA] | rw [rfM, if_pos hA]) <;> (try clear hA) <;> (try simp only [rfEM, b2i_t, b2i_f, *, if_true, if_false, Bool.false_eq_true]))
                · refine A_iconst dX2_readFood_166 ?_
                  exact A_zret2 dX2_readFood_167 (by decide) (by (first | rw [rfM, if_neg hA] | rw [rfM, if_pos hA]) <;> (try clear hA) <;> (try simp only [rfEM, b2i_t, b2i_f, *, if_true, if_false, Bool.false_eq_true])) (by (first | rw [rfM, if_neg hA] | rw [rfM, if_pos hA]) <;> (try clear hA) <;> (try simp only [rfEM, b2i_t, b2i_f, *, if_true, if_false, Bool.false_eq_true]))
              · have e5 : rf5M σ = (false, (rf4M σ).2) := by simp only [rf5M]; rw [if_pos (of_decide_eq_true h115), if_neg (by rw [h136]; decide)]
                refine A_iconst dX2_readFood_139 ?_
                exact A_zret2 dX2_readFood_140 (by decide) (by (first | rw [rfM, if_neg hA] | rw [rfM, if_pos hA]) <;> (try clear hA) <;> (try simp only [rfEM, b2i_t, b2i_f, *, if_true, if_false, Bool.false_eq_true])) (by (first | rw [rfM, if_neg hA] | rw [rfM, if_pos hA]) <;> (try clear hA) <;> (try simp only [rfEM, b2i_t, b2i_f, *, if_true, if_false, Bool.false_eq_true]))
          · refine A_iconst dX2_readFood_84 ?_
            exact A_zret2 dX2_readFood_85 (by decide) (by (first | rw [rfM, if_neg hA] | rw [rfM, if_pos hA]) <;> (try clear hA) <;> (try simp only [rfEM, b2i_t, b2i_f, *, if_true, if_false, Bool.false_eq_true])) (by (first | rw [rfM, if_neg hA] | rw [rfM, if_pos hA]) <;> (try clear hA) <;> (try simp only [rfEM, b2i_t, b2i_f, *, if_true, if_false, Bool.false_eq_true]))
      · have hA : fullC σ 10 = true ∨ i32 (σ 10 2) < 0 ∨ 16 ≤ i32 (σ 10 2) := by first | exact Or.inl h21 | exact Or.inr (by omega)
        refine A_aload_n dX2_readFood_34 rfl 1 rfl ?_
        refine A_iconst dX2_readFood_35 ?_
        refine A_aload_n dX2_readFood_36 rfl 1 rfl ?_
        refine A_geti fl_X2_33 lk_51 rfl dX2_readFood_37 ?_
        try simp (disch := omega) only [up_k, up_j, up_s, nxM_at, VC_nx, KC_nx, up_k, up_j, up_s]
        refine A_Va2 mv_X2_82 lk_51 rfl rfl (c_X2_fail _ _ _) (Nat.le_of_ble_eq_true rfl) (by omega) (by omega) dX2_readFood_40 ?_
        try simp (disch := omega) only [nxM_at, VC_nx, KC_nx, up_k, up_j, up_s]
        exact A_zret dX2_readFood_43 (by (first | rw [rfM, if_neg hA] | rw [rfM, if_pos hA]) <;> (try clear hA) <;> (try simp only [rfEM, b2i_t, b2i_f, *, if_true, if_false, Bool.false_eq_true])) (by (first | rw [rfM, if_neg hA] | rw [rfM, if_pos hA]) <;> (try clear hA) <;> (try simp only [rfEM, b2i_t, b2i_f, *, if_true, if_false, Bool.false_eq_true]))
set_option maxRecDepth 100000 in
set_option maxHeartbeats 4000000 in
theorem c_X2_readDish (σ : Sg) (hz : i32 (σ 10 2) ≤ 16) : Ct l G yX2_readDish cX2_readDish 3 (some .boolean) 4 0 0 [.ref (lay G 51)] σ (some (.int (I32 (b2i (rdM σ).1)))) ((rdM σ).2) := by
  refine Ct.of (by decide +kernel) (Nat.le_of_ble_eq_true rfl) (fun f => ?_)
  show AW _ _ _ _ _ _ _ _ _ _ [(0, _)] _ _
  refine A_aload_n dX2_readDish_0 rfl 0 rfl ?_
  refine A_getr fl_X2_25 lk_51 rfl dX2_readDish_1 ?_
  refine A_getr fl_X2_68 lk_9 rfl dX2_readDish_4 ?_
  refine A_geti fl_X2_74 lk_12 rfl dX2_readDish_7 ?_
  rw [← I32_i32 (σ 12 2)]
  refine A_istore_n (lv2 := [(1, _), (0, _)]) dX2_readDish_10 rfl (by decide) rfl ?_
  refine A_aload_n dX2_readDish_11 rfl 1 rfl ?_
  refine A_getr fl_X2_25 lk_51 rfl dX2_readDish_12 ?_
  refine A_getr fl_X2_68 lk_9 rfl dX2_readDish_15 ?_
  refine A_Va0 mv_X2_89 lk_12 rfl rfl (c_X4_isFull_12 _) (Nat.le_of_ble_eq_true rfl) (by omega) (by omega) dX2_readDish_18 ?_
  try simp (disch := omega) only [nxM_at, VC_nx, KC_nx, up_k, up_j, up_s]
  refine A_ifne_b (tgt := 34) dX2_readDish_21 (by decide) (fun h21 => ?_) (fun h21 => ?_)
  · have hA : fullC σ 12 = true ∨ i32 (σ 12 2) < 0 ∨ 16 ≤ i32 (σ 12 2) := by first | exact Or.inl h21 | exact Or.inr (by omega)
    refine A_aload_n dX2_readDish_34 rfl 1 rfl ?_
    refine A_iconst dX2_readDish_35 ?_
    refine A_aload_n dX2_readDish_36 rfl 1 rfl ?_
    refine A_geti fl_X2_33 lk_51 rfl dX2_readDish_37 ?_
    try simp (disch := omega) only [up_k, up_j, up_s, nxM_at, VC_nx, KC_nx, up_k, up_j, up_s]
    refine A_Va2 mv_X2_82 lk_51 rfl rfl (c_X2_fail _ _ _) (Nat.le_of_ble_eq_true rfl) (by omega) (by omega) dX2_readDish_40 ?_
    try simp (disch := omega) only [nxM_at, VC_nx, KC_nx, up_k, up_j, up_s]
    exact A_zret dX2_readDish_43 (by (first | rw [rdM, if_neg hA] | rw [rdM, if_pos hA]) <;> (try clear hA) <;> (try simp only [rdEM, b2i_t, b2i_f, *, if_true, if_false, Bool.false_eq_true])) (by (first | rw [rdM, if_neg hA] | rw [rdM, if_pos hA]) <;> (try clear hA) <;> (try simp only [rdEM, b2i_t, b2i_f, *, if_true, if_false, Bool.false_eq_true]))
  · refine A_iload_n dX2_readDish_24 rfl 0 rfl ?_
    refine J_if_lt (tgt := 34) dX2_readDish_25 (by decide) (by first | with_reducible exact i32_eq (KC_inr _ _) | with_reducible exact idxC_i32 _ _ _ | exact i32_eq (by assumption) | exact i32_eq ⟨by omega, by omega⟩ | with_reducible exact i32_i32 _ | rfl) (fun h25 => ?_) (fun h25 => ?_)
    · have hA : fullC σ 12 = true ∨ i32 (σ 12 2) < 0 ∨ 16 ≤ i32 (σ 12 2) := by first | exact Or.inl h21 | exact Or.inr (by omega)
      refine A_aload_n dX2_readDish_34 rfl 1 rfl ?_
      refine A_iconst dX2_readDish_35 ?_
      refine A_aload_n dX2_readDish_36 rfl 1 rfl ?_
      refine A_geti fl_X2_33 lk_51 rfl dX2_readDish_37 ?_
      try simp (disch := omega) only [up_k, up_j, up_s, nxM_at, VC_nx, KC_nx, up_k, up_j, up_s]
      refine A_Va2 mv_X2_82 lk_51 rfl rfl (c_X2_fail _ _ _) (Nat.le_of_ble_eq_true rfl) (by omega) (by omega) dX2_readDish_40 ?_
      try simp (disch := omega) only [nxM_at, VC_nx, KC_nx, up_k, up_j, up_s]
      exact A_zret dX2_readDish_43 (by (first | rw [rdM, if_neg hA] | rw [rdM, if_pos hA]) <;> (try clear hA) <;> (try simp only [rdEM, b2i_t, b2i_f, *, if_true, if_false, Bool.false_eq_true])) (by (first | rw [rdM, if_neg hA] | rw [rdM, if_pos hA]) <;> (try clear hA) <;> (try simp only [rdEM, b2i_t, b2i_f, *, if_true, if_false, Bool.false_eq_true]))
    · refine A_iload_n dX2_readDish_28 rfl 0 rfl ?_
      refine A_bipush dX2_readDish_29 (by decide +kernel) ?_
      refine J_icmp_lt (tgt := 44) dX2_readDish_31 (by decide) (by first | with_reducible exact i32_eq (KC_inr _ _) | with_reducible exact idxC_i32 _ _ _ | exact i32_eq (by assumption) | exact i32_eq ⟨by omega, by omega⟩ | with_reducible exact i32_i32 _ | rfl) (by first | with_reducible exact i32_eq (KC_inr _ _) | with_reducible exact idxC_i32 _ _ _ | exact i32_eq (by assumption) | exact i32_eq ⟨by omega, by omega⟩ | with_reducible exact i32_i32 _ | rfl) (fun h31 => ?_) (fun h31 => ?_)
      · have hA : ¬ (fullC σ 12 = true ∨ i32 (σ 12 2) < 0 ∨ 16 ≤ i32 (σ 12 2)) := by rw [h21]; simp only [Bool.false_eq_true, false_or]; omega
        refine A_aload_n dX2_readDish_44 rfl 1 rfl ?_
        refine A_dup dX2_readDish_45 rfl ?_
        refine A_geti fl_X2_33 lk_51 rfl dX2_readDish_46 ?_
        try simp (disch := omega) only [up_k, up_j, up_s, nxM_at, VC_nx, KC_nx, up_k, up_j, up_s]
        refine A_iconst dX2_readDish_49 ?_
        refine A_iadd dX2_readDish_50 ?_
        refine A_puti fl_X2_33 lk_51 rfl dX2_readDish_51 ?_
        show AW _ _ _ _ _ _ _ _ _ _ _ _ (nxM σ)
        refine A_aload_n dX2_readDish_54 rfl 1 rfl ?_
        refine A_geti fl_X2_33 lk_51 rfl dX2_readDish_55 ?_
        try simp (disch := omega) only [up_k, up_j, up_s, nxM_at, VC_nx, KC_nx, up_k, up_j, up_s]
        refine A_istore_n (lv2 := [(2, _), (1, _), (0, _)]) dX2_readDish_58 rfl (by decide) rfl ?_
        refine A_aload_n dX2_readDish_59 rfl 2 rfl ?_
        refine A_Va0 mv_X2_96 lk_51 rfl rfl (c_X2_takeNewName _) (Nat.le_of_ble_eq_true rfl) (by omega) (by omega) dX2_readDish_60 ?_
        try simp (disch := omega) only [nxM_at, VC_nx, KC_nx, up_k, up_j, up_s]
        show AW _ _ _ _ _ _ _ _ _ _ _ (.int (I32 (b2i (rd1M σ).1)) :: _) (rd1M σ).2
        refine A_ifne_b (tgt := 68) dX2_readDish_63 (by decide) (fun h63 => ?_) (fun h63 => ?_)
        · refine A_aload_n dX2_readDish_68 rfl 2 rfl ?_
          refine A_dup dX2_readDish_69 rfl ?_
          refine A_geti fl_X2_33 lk_51 rfl dX2_readDish_70 ?_
          try simp (disch := omega) only [up_k, up_j, up_s, nxM_at, VC_nx, KC_nx, up_k, up_j, up_s]
          refine A_iconst dX2_readDish_73 ?_
          refine A_iadd dX2_readDish_74 ?_
          refine A_puti fl_X2_33 lk_51 rfl dX2_readDish_75 ?_
          show AW _ _ _ _ _ _ _ _ _ _ _ _ (nxM (rd1M σ).2)
          refine A_aload_n dX2_readDish_78 rfl 2 rfl ?_
          refine A_iconst dX2_readDish_79 ?_
          refine A_bipush dX2_readDish_80 (by decide +kernel) ?_
          refine A_Va2 mv_X2_99 lk_51 rfl rfl (c_X2_takeNumber _ _ _) (Nat.le_of_ble_eq_true rfl) (by omega) (by omega) dX2_readDish_82 ?_
          try simp (disch := omega) only [nxM_at, VC_nx, KC_nx, up_k, up_j, up_s]
          show AW _ _ _ _ _ _ _ _ _ _ _ (.int (I32 (b2i (rd2M σ).1)) :: _) (rd2M σ).2
          refine A_ifne_b (tgt := 90) dX2_readDish_85 (by decide) (fun h85 => ?_) (fun h85 => ?_)
          · refine A_aload_n dX2_readDish_90 rfl 2 rfl ?_
            refine A_getr fl_X2_25 lk_51 rfl dX2_readDish_91 ?_
            refine A_getr fl_X2_124 lk_9 rfl dX2_readDish_94 ?_
            refine A_iload_n dX2_readDish_97 rfl 1 rfl ?_
            refine A_aload_n dX2_readDish_98 rfl 2 rfl ?_
            refine A_geti fl_X2_105 lk_51 rfl dX2_readDish_99 ?_
            try simp (disch := omega) only [up_k, up_j, up_s, nxM_at, VC_nx, KC_nx, up_k, up_j, up_s]
            refine J_iast lk_26 (by first | with_reducible exact i32_eq (KC_inr _ _) | with_reducible exact idxC_i32 _ _ _ | exact i32_eq (by assumption) | exact i32_eq ⟨by omega, by omega⟩ | with_reducible exact i32_i32 _ | rfl) (by omega) (by omega) (by decide) dX2_readDish_102 ?_
            refine A_aload_n dX2_readDish_103 rfl 2 rfl ?_
            refine A_iconst dX2_readDish_104 ?_
            refine A_puti fl_X2_111 lk_51 rfl dX2_readDish_105 ?_
            show AW _ _ _ _ _ _ _ _ _ _ _ _ (rd3M σ)
            refine A_aload_n dX2_readDish_108 rfl 2 rfl ?_
            refine A_iload_n dX2_readDish_109 rfl 1 rfl ?_
            refine A_Va1 mv_X2_127 lk_51 rfl rfl (c_X2_takeParts _ _ (by omega) (by simp (disch := omega) only [up_k, tnM_10, nnM_10, nxM_10, rd3M, rd2M, rd1M]; exact hz)) (Nat.le_of_ble_eq_true rfl) (by omega) (by omega) dX2_readDish_110 ?_
            try simp (disch := omega) only [nxM_at, VC_nx, KC_nx, up_k, up_j, up_s]
            show AW _ _ _ _ _ _ _ _ _ _ _ (.int (I32 (b2i (rd4M σ).1)) :: _) (rd4M σ).2
            refine A_ifeq_b (tgt := 123) dX2_readDish_113 (by decide) (fun h113 => ?_) (fun h113 => ?_)
            · refine A_iconst dX2_readDish_123 ?_
              exact A_zret2 dX2_readDish_124 (by decide) (by (first | rw [rdM, if_neg hA] | rw [rdM, if_pos hA]) <;> (try clear hA) <;> (try simp only [rdEM, b2i_t, b2i_f, *, if_true, if_false, Bool.false_eq_true])) (by (first | rw [rdM, if_neg hA] | rw [rdM, if_pos hA]) <;> (try clear hA) <;> (try simp only [rdEM, b2i_t, b2i_f, *, if_true, if_false, Bool.false_eq_true]))
            · refine A_aload_n dX2_readDish_116 rfl 2 rfl ?_
              refine A_Va0 mv_X2_114 lk_51 rfl rfl (c_X2_takeTags _) (Nat.le_of_ble_eq_true rfl) (by omega) (by omega) dX2_readDish_117 ?_
              try simp (disch := omega) only [nxM_at, VC_nx, KC_nx, up_k, up_j, up_s]
              show AW _ _ _ _ _ _ _ _ _ _ _ (.int (I32 (b2i (rd5M σ).1)) :: _) (rd5M σ).2
              refine A_ifne_b (tgt := 125) dX2_readDish_120 (by decide) (fun h120 => ?_) (fun h120 => ?_)
              · refine A_aload_n dX2_readDish_125 rfl 2 rfl ?_
                refine A_iload_n dX2_readDish_126 rfl 1 rfl ?_
                refine A_Va1 mv_X2_130 lk_51 rfl rfl (c_X2_isTooMuch _ _ (by omega)) (Nat.le_of_ble_eq_true rfl) (by omega) (by omega) dX2_readDish_127 ?_
                try simp (disch := omega) only [nxM_at, VC_nx, KC_nx, up_k, up_j, up_s]
                refine A_ifeq_b (tgt := 140) dX2_readDish_130 (by decide) (fun h130 => ?_) (fun h130 => ?_)
                · refine A_aload_n dX2_readDish_140 rfl 2 rfl ?_
                  refine A_iload_n dX2_readDish_141 rfl 1 rfl ?_
                  refine A_Vv1 mv_X2_133 lk_51 rfl rfl (c_X2_tellDish _ _ (by omega)) (Nat.le_of_ble_eq_true rfl) (by omega) (by omega) dX2_readDish_142 ?_
                  try simp (disch := omega) only [nxM_at, VC_nx, KC_nx, up_k, up_j, up_s]
                  refine A_aload_n dX2_readDish_145 rfl 2 rfl ?_
                  refine A_getr fl_X2_25 lk_51 rfl dX2_readDish_146 ?_
                  refine A_getr fl_X2_68 lk_9 rfl dX2_readDish_149 ?_
                  refine A_aload_n dX2_readDish_152 rfl 2 rfl ?_
                  refine A_getr fl_X2_21 lk_51 rfl dX2_readDish_153 ?_
                  refine A_iload_n dX2_readDish_156 rfl 0 rfl ?_
                  refine A_Va1 mv_X2_92 lk_3 rfl rfl (c_X9_valueOf _ _) (Nat.le_of_ble_eq_true rfl) (by omega) (by omega) dX2_readDish_157 ?_
                  try simp (disch := omega) only [nxM_at, VC_nx, KC_nx, up_k, up_j, up_s]
                  refine A_Vv1 mv_X2_120 lk_12 rfl rfl (c_X4_add_12 _ _) (Nat.le_of_ble_eq_true rfl) (by omega) (by omega) dX2_readDish_160 ?_
                  try simp (disch := omega) only [nxM_at, VC_nx, KC_nx, up_k, up_j, up_s]
                  refine A_aload_n dX2_readDish_163 rfl 2 rfl ?_
                  refine A_dup dX2_readDish_164 rfl ?_
                  refine A_geti fl_X2_33 lk_51 rfl dX2_readDish_165 ?_
                  try simp (disch := omega) only [up_k, up_j, up_s, nxM_at, VC_nx, KC_nx, up_k, up_j, up_s]
                  refine A_iconst dX2_readDish_168 ?_
                  refine A_iadd dX2_readDish_169 ?_
                  refine A_puti fl_X2_33 lk_51 rfl dX2_readDish_170 ?_
                  show AW _ _ _ _ _ _ _ _ _ _ _ _ (nxM _)
                  refine A_iconst dX2_readDish_173 ?_
                  exact A_zret2 dX2_readDish_174 (by decide) (by (first | rw [rdM, if_neg hA] | rw [rdM, if_pos hA]) <;> (try clear hA) <;> (try simp only [rdEM, b2i_t, b2i_f, *, if_true, if_false, Bool.false_eq_true])) (by (first | rw [rdM, if_neg hA] | rw [rdM, if_pos hA]) <;> (try clear hA) <;> (try simp only [rdEM, b2i_t, b2i_f, *, if_true, if_false, Bool.false_eq_true]))
                · refine A_aload_n dX2_readDish_133 rfl 2 rfl ?_
                  refine A_iconst dX2_readDish_134 ?_
                  refine A_iload_n dX2_readDish_135 rfl 0 rfl ?_
                  refine A_Va2 mv_X2_82 lk_51 rfl rfl (c_X2_fail _ _ _) (Nat.le_of_ble_eq_true rfl) (by omega) (by omega) dX2_readDish_136 ?_
                  try simp (disch := omega) only [nxM_at, VC_nx, KC_nx, up_k, up_j, up_s]
                  exact A_zret dX2_readDish_139 (by (first | rw [rdM, if_neg hA] | rw [rdM, if_pos hA]) <;> (try clear hA) <;> (try simp only [rdEM, b2i_t, b2i_f, *, if_true, if_false, Bool.false_eq_true])) (by (first | rw [rdM, if_neg hA] | rw [rdM, if_pos hA]) <;> (try clear hA) <;> (try simp only [rdEM, b2i_t, b2i_f, *, if_true, if_false, Bool.false_eq_true]))
              · refine A_iconst dX2_readDish_123 ?_
                exact A_zret2 dX2_readDish_124 (by decide) (by (first | rw [rdM, if_neg hA] | rw [rdM, if_pos hA]) <;> (try clear hA) <;> (try simp only [rdEM, b2i_t, b2i_f, *, if_true, if_false, Bool.false_eq_true])) (by (first | rw [rdM, if_neg hA] | rw [rdM, if_pos hA]) <;> (try clear hA) <;> (try simp only [rdEM, b2i_t, b2i_f, *, if_true, if_false, Bool.false_eq_true]))
          · refine A_iconst dX2_readDish_88 ?_
            exact A_zret2 dX2_readDish_89 (by decide) (by (first | rw [rdM, if_neg hA] | rw [rdM, if_pos hA]) <;> (try clear hA) <;> (try simp only [rdEM, b2i_t, b2i_f, *, if_true, if_false, Bool.false_eq_true])) (by (first | rw [rdM, if_neg hA] | rw [rdM, if_pos hA]) <;> (try clear hA) <;> (try simp only [rdEM, b2i_t, b2i_f, *, if_true, if_false, Bool.false_eq_true]))
        · refine A_iconst dX2_readDish_66 ?_
          exact A_zret2 dX2_readDish_67 (by decide) (by (first | rw [rdM, if_neg hA] | rw [rdM, if_pos hA]) <;> (try clear hA) <;> (try simp only [rdEM, b2i_t, b2i_f, *, if_true, if_false, Bool.false_eq_true])) (by (first | rw [rdM, if_neg hA] | rw [rdM, if_pos hA]) <;> (try clear hA) <;> (try simp only [rdEM, b2i_t, b2i_f, *, if_true, if_false, Bool.false_eq_true]))
      · have hA : fullC σ 12 = true ∨ i32 (σ 12 2) < 0 ∨ 16 ≤ i32 (σ 12 2) := by first | exact Or.inl h21 | exact Or.inr (by omega)
        refine A_aload_n dX2_readDish_34 rfl 1 rfl ?_
        refine A_iconst dX2_readDish_35 ?_
        refine A_aload_n dX2_readDish_36 rfl 1 rfl ?_
        refine A_geti fl_X2_33 lk_51 rfl dX2_readDish_37 ?_
        try simp (disch := omega) only [up_k, up_j, up_s, nxM_at, VC_nx, KC_nx, up_k, up_j, up_s]
        refine A_Va2 mv_X2_82 lk_51 rfl rfl (c_X2_fail _ _ _) (Nat.le_of_ble_eq_true rfl) (by omega) (by omega) dX2_readDish_40 ?_
        try simp (disch := omega) only [nxM_at, VC_nx, KC_nx, up_k, up_j, up_s]
        exact A_zret dX2_readDish_43 (by (first | rw [rdM, if_neg hA] | rw [rdM, if_pos hA]) <;> (try clear hA) <;> (try simp only [rdEM, b2i_t, b2i_f, *, if_true, if_false, Bool.false_eq_true])) (by (first | rw [rdM, if_neg hA] | rw [rdM, if_pos hA]) <;> (try clear hA) <;> (try simp only [rdEM, b2i_t, b2i_f, *, if_true, if_false, Bool.false_eq_true]))
end S20
