/-! the reference: meaning: rules -/
section S40
variable {l : Launch} {G : Gx}
variable {σ : Sg} {e : Int} {K V N S : Int → Int}
theorem knR_inc {j : Nat} (h : 15 ≠ j ∧ 36 ≠ j) (v : Int) : knR (incS j σ) v = knR σ v := by unfold knR; rw [fnC_inc (by decide), fnC_inc (by decide), incS_j _ h.1, incS_j _ h.2]
theorem knR_up {k j : Nat} {x : Int} (h : 84 ≠ k ∧ 93 ≠ k ∧ 110 ≠ k) (v : Int) : knR (up σ k j x) v = knR σ v := by unfold knR; rw [fnC_up h.2.1, fnC_up h.2.2, up_k _ _ h.1, up_k _ _ h.1]
def ru1 (σ : Sg) (so : Int) : Sg := incS 8 (up σ 105 (σ 84 30).toNat so)
def ru2 (N : Int → Int) (σ : Sg) (so : Int) : Sg := incS 8 (up (up (up (up (ru1 σ so) 106 (σ 84 30).toNat (N (σ 84 8 + 1))) 107 (σ 84 30).toNat 0) 108 (σ 84 30).toNat (-1)) 109 (σ 84 30).toNat (-1))
def ru3 (V N : Int → Int) (σ : Sg) (so : Int) : Sg := incS 8 (up (up (ru2 N σ so) 108 (σ 84 30).toNat (fnC σ 93 (σ 84 15) (V (σ 84 8 + 2)))) 109 (σ 84 30).toNat (fnC σ 110 (σ 84 36) (V (σ 84 8 + 2))))
def ruE (N S : Int → Int) (r : Nat) (X : Sg) (p lo hi : Int) : Int × Sg := if lo ≤ N p ∧ N p ≤ hi then (0, incS 30 (incS 8 (up (incS 8 X) 107 r (N p)))) else (5, up (incS 8 X) 84 4 (S p))
def ruB (V N S : Int → Int) (σ : Sg) (so lo hi : Int) : Int × Sg := if lo ≤ N (σ 84 8 + 1) ∧ N (σ 84 8 + 1) ≤ hi then (if so = 3 then ruE N S (σ 84 30).toNat (ru2 N σ so) (σ 84 8 + 3) (N (σ 84 8 + 1)) 9999 else if knR σ (V (σ 84 8 + 2)) = true then (if so = 0 then (0, incS 30 (ru3 V N σ so)) else ruE N S (σ 84 30).toNat (ru3 V N σ so) (σ 84 8 + 4) 1 14) else (2, up (ru2 N σ so) 84 4 (S (σ 84 8 + 2)))) else (5, up (ru1 σ so) 84 4 (S (σ 84 8 + 1)))
def ruM (K V N S : Int → Int) (first : Int) (σ : Sg) : Int × Sg :=
  if σ 84 30 = 8 then (4, up σ 84 4 (S first))
  else if K (σ 84 8) = 7 then ruB V N S σ 0 1 9 else if K (σ 84 8) = 8 then ruB V N S σ 1 0 9 else if K (σ 84 8) = 9 then ruB V N S σ 2 1 9 else ruB V N S σ 3 0 9999
set_option maxRecDepth 100000 in
set_option maxHeartbeats 4000000 in
theorem c_X11_rule (first b : Int) (hT : Tk σ e K V N S) (hC : Cn σ) (hfi : 0 ≤ first ∧ first ≤ e) (hg : RlO K (σ 84 8) b) : Ct l G yX11_rule cX11_rule 6 (some .int) 6 2 8 [.ref (lay G 84), .int (I32 first)] σ (some (.int (I32 (ruM K V N S first σ).1))) ((ruM K V N S first σ).2) := by
  obtain ⟨hC1, hC2, hC3, hC4, hC5, hC6⟩ := id hC
  have ha : 0 ≤ σ 84 8 ∧ σ 84 8 ≤ e := by
    rcases hg.1 with z | z | z
    · have := hT.in z.1 (by decide); omega
    · have := hT.in z.1 (by decide); omega
    · rcases z.1 with y | y
      · have := hT.in y (by decide); omega
      · have := hT.in y (by decide); omega
  refine Ct.of (by decide +kernel) (Nat.le_of_ble_eq_true rfl) (fun f => ?_)
  show AW _ _ _ _ _ _ _ _ _ _ [(0, _), (1, _)] _ _
  refine A_aload_n dX11_rule_0 rfl 0 rfl ?_
  refine A_geti fl_X11_298 lk_84 rfl dX11_rule_1 ?_
  try simp (disch := omega) only [up_k, up_j, up_s, incS_s, incS_k, incS_j, thC_keep, ad11, ad21, ad31, ad41, ad12, nc0, nc1, nc2, nc3, nc4, nc5, nc6, nc7, nc8, nc9, nc10, nc11, nc12, nc13, nc14, nc15, nc16, nc17, nc18, nc19, nc20, nc21, fnC_inc, fnC_up, dsZ_j, dsZ_8, dsT_k, loM_j, meT_j, knR_inc, knR_up]
  refine A_bipush dX11_rule_4 (by decide +kernel) ?_
  refine J_icmp_ne (tgt := 16) dX11_rule_6 (by decide) (by first | exact i32_eq (by assumption) | exact i32_eq ⟨by omega, by omega⟩ | with_reducible exact i32_i32 _ | with_reducible exact i32_eq (b2i_inr _) | rfl) (by first | exact i32_eq (by assumption) | exact i32_eq ⟨by omega, by omega⟩ | with_reducible exact i32_i32 _ | with_reducible exact i32_eq (b2i_inr _) | rfl) (fun h6 => ?_) (fun h6 => ?_)
  · refine A_aload_n dX11_rule_16 rfl 0 rfl ?_
    refine A_geti fl_X11_298 lk_84 rfl dX11_rule_17 ?_
    try simp (disch := omega) only [up_k, up_j, up_s, incS_s, incS_k, incS_j, thC_keep, ad11, ad21, ad31, ad41, ad12, nc0, nc1, nc2, nc3, nc4, nc5, nc6, nc7, nc8, nc9, nc10, nc11, nc12, nc13, nc14, nc15, nc16, nc17, nc18, nc19, nc20, nc21, fnC_inc, fnC_up, dsZ_j, dsZ_8, dsT_k, loM_j, meT_j, knR_inc, knR_up]
    refine A_istore_n (lv2 := [(2, _), (0, _), (1, _)]) dX11_rule_20 rfl (by decide) rfl ?_
    refine A_aload_n dX11_rule_21 rfl 1 rfl ?_
    refine A_getr fl_X11_75 lk_84 rfl dX11_rule_22 ?_
    refine A_iload_n dX11_rule_25 rfl 0 rfl ?_
    refine A_aload_n dX11_rule_26 rfl 1 rfl ?_
    refine A_ldcs (i := 7) (by decide +kernel) dX11_rule_27 ?_
    refine A_Va1 mv_X11_147 lk_84 rfl rfl (c_seesT hT 7 ha (by decide)) (Nat.le_of_ble_eq_true rfl) (by omega) (by omega) dX11_rule_29 ?_
    try simp (disch := omega) only [incS_s, incS_k, incS_j, thC_keep, ad11, ad21, ad31, ad41, ad12, nc0, nc1, nc2, nc3, nc4, nc5, nc6, nc7, nc8, nc9, nc10, nc11, nc12, nc13, nc14, nc15, nc16, nc17, nc18, nc19, nc20, nc21, fnC_inc, fnC_up, dsZ_j, dsZ_8, dsT_k, loM_j, meT_j, knR_inc, knR_up]
    refine A_ifeq_b (tgt := 39) dX11_rule_32 (by decide) (fun h32 => ?_) (fun h32 => ?_)
    · have n7 := of_decide_eq_false h32
      refine A_aload_n dX11_rule_39 rfl 1 rfl ?_
      refine A_ldcs (i := 8) (by decide +kernel) dX11_rule_40 ?_
      refine A_Va1 mv_X11_147 lk_84 rfl rfl (c_seesT hT 8 ha (by decide)) (Nat.le_of_ble_eq_true rfl) (by omega) (by omega) dX11_rule_42 ?_
      try simp (disch := omega) only [incS_s, incS_k, incS_j, thC_keep, ad11, ad21, ad31, ad41, ad12, nc0, nc1, nc2, nc3, nc4, nc5, nc6, nc7, nc8, nc9, nc10, nc11, nc12, nc13, nc14, nc15, nc16, nc17, nc18, nc19, nc20, nc21, fnC_inc, fnC_up, dsZ_j, dsZ_8, dsT_k, loM_j, meT_j, knR_inc, knR_up]
      refine A_ifeq_b (tgt := 52) dX11_rule_45 (by decide) (fun h45 => ?_) (fun h45 => ?_)
      · have n8 := of_decide_eq_false h45
        refine A_aload_n dX11_rule_52 rfl 1 rfl ?_
        refine A_ldcs (i := 9) (by decide +kernel) dX11_rule_53 ?_
        refine A_Va1 mv_X11_147 lk_84 rfl rfl (c_seesT hT 9 ha (by decide)) (Nat.le_of_ble_eq_true rfl) (by omega) (by omega) dX11_rule_55 ?_
        try simp (disch := omega) only [incS_s, incS_k, incS_j, thC_keep, ad11, ad21, ad31, ad41, ad12, nc0, nc1, nc2, nc3, nc4, nc5, nc6, nc7, nc8, nc9, nc10, nc11, nc12, nc13, nc14, nc15, nc16, nc17, nc18, nc19, nc20, nc21, fnC_inc, fnC_up, dsZ_j, dsZ_8, dsT_k, loM_j, meT_j, knR_inc, knR_up]
        refine A_ifeq_b (tgt := 65) dX11_rule_58 (by decide) (fun h58 => ?_) (fun h58 => ?_)
        · have n9 := of_decide_eq_false h58
          obtain ⟨g1, g2, g3⟩ : K (σ 84 8 + 1) = 23 ∧ K (σ 84 8 + 2) = 12 ∧ K (σ 84 8 + 3) = 23 := by
            rcases hg.1 with z | z | z
            · omega
            · exact ⟨z.2.1, z.2.2.1, z.2.2.2.1⟩
            · omega
          have ha1 := hT.in g1 (by decide)
          have ha2 := hT.in g2 (by decide)
          have hN1 := hT.2.2.2.1 _ g1
          have ha3 := hT.in g3 (by decide)
          have hN3 := hT.2.2.2.1 _ g3
          refine A_iconst dX11_rule_65 ?_
          refine J_iast lk_105 (by first | exact i32_eq (by assumption) | exact i32_eq ⟨by omega, by omega⟩ | with_reducible exact i32_i32 _ | with_reducible exact i32_eq (b2i_inr _) | rfl) (by omega) (by omega) (by decide) dX11_rule_66 ?_
          refine A_inc fl_X11_144 lk_84 rfl 1 rfl dX11_rule_67 dX11_rule_68 dX11_rule_69 dX11_rule_72 dX11_rule_73 dX11_rule_74 ?_
          refine A_iconst dX11_rule_77 ?_
          refine A_newaT (N := 4) (by decide) (by decide) (by decide) (by omega) dX11_rule_78 (fun a78 c78 hKA78 => ?_)
          refine A_dup dX11_rule_80 rfl ?_
          refine A_iconst dX11_rule_81 ?_
          refine A_iconst dX11_rule_82 ?_
          refine A_iastT (q := 0) rfl hKA78 (by first | exact i32_eq (by assumption) | exact i32_eq ⟨by omega, by omega⟩ | with_reducible exact i32_i32 _ | with_reducible exact i32_eq (b2i_inr _) | rfl) (by omega) (by omega) (by decide) dX11_rule_83 ?_
          refine A_dup dX11_rule_84 rfl ?_
          refine A_iconst dX11_rule_85 ?_
          refine A_iconst dX11_rule_86 ?_
          refine A_iastT (q := 0) rfl hKA78 (by first | exact i32_eq (by assumption) | exact i32_eq ⟨by omega, by omega⟩ | with_reducible exact i32_i32 _ | with_reducible exact i32_eq (b2i_inr _) | rfl) (by omega) (by omega) (by decide) dX11_rule_87 ?_
          refine A_dup dX11_rule_88 rfl ?_
          refine A_iconst dX11_rule_89 ?_
          refine A_iconst dX11_rule_90 ?_
          refine A_iastT (q := 0) rfl hKA78 (by first | exact i32_eq (by assumption) | exact i32_eq ⟨by omega, by omega⟩ | with_reducible exact i32_i32 _ | with_reducible exact i32_eq (b2i_inr _) | rfl) (by omega) (by omega) (by decide) dX11_rule_91 ?_
          refine A_dup dX11_rule_92 rfl ?_
          refine A_iconst dX11_rule_93 ?_
          refine A_iconst dX11_rule_94 ?_
          refine A_iastT (q := 0) rfl hKA78 (by first | exact i32_eq (by assumption) | exact i32_eq ⟨by omega, by omega⟩ | with_reducible exact i32_i32 _ | with_reducible exact i32_eq (b2i_inr _) | rfl) (by omega) (by omega) (by decide) dX11_rule_95 ?_
          refine A_astore_n (lv2 := [(3, _), (2, _), (0, _), (1, _)]) dX11_rule_96 rfl (by decide) rfl ?_
          refine A_iconst dX11_rule_97 ?_
          refine A_newaT (N := 4) (by decide) (by decide) (by decide) (by omega) dX11_rule_98 (fun a98 c98 hKA98 => ?_)
          refine A_dup dX11_rule_100 rfl ?_
          refine A_iconst dX11_rule_101 ?_
          refine A_bipush dX11_rule_102 (by decide +kernel) ?_
          refine A_iastT (q := 1) rfl hKA98 (by first | exact i32_eq (by assumption) | exact i32_eq ⟨by omega, by omega⟩ | with_reducible exact i32_i32 _ | with_reducible exact i32_eq (b2i_inr _) | rfl) (by omega) (by omega) (by decide) dX11_rule_104 ?_
          refine A_dup dX11_rule_105 rfl ?_
          refine A_iconst dX11_rule_106 ?_
          refine A_bipush dX11_rule_107 (by decide +kernel) ?_
          refine A_iastT (q := 1) rfl hKA98 (by first | exact i32_eq (by assumption) | exact i32_eq ⟨by omega, by omega⟩ | with_reducible exact i32_i32 _ | with_reducible exact i32_eq (b2i_inr _) | rfl) (by omega) (by omega) (by decide) dX11_rule_109 ?_
          refine A_dup dX11_rule_110 rfl ?_
          refine A_iconst dX11_rule_111 ?_
          refine A_bipush dX11_rule_112 (by decide +kernel) ?_
          refine A_iastT (q := 1) rfl hKA98 (by first | exact i32_eq (by assumption) | exact i32_eq ⟨by omega, by omega⟩ | with_reducible exact i32_i32 _ | with_reducible exact i32_eq (b2i_inr _) | rfl) (by omega) (by omega) (by decide) dX11_rule_114 ?_
          refine A_dup dX11_rule_115 rfl ?_
          refine A_iconst dX11_rule_116 ?_
          refine A_sipush dX11_rule_117 (by decide +kernel) ?_
          refine A_iastT (q := 1) rfl hKA98 (by first | exact i32_eq (by assumption) | exact i32_eq ⟨by omega, by omega⟩ | with_reducible exact i32_i32 _ | with_reducible exact i32_eq (b2i_inr _) | rfl) (by omega) (by omega) (by decide) dX11_rule_120 ?_
          refine A_astore (lv2 := [(4, _), (3, _), (2, _), (0, _), (1, _)]) dX11_rule_121 (by decide) rfl ?_
          refine A_aload_n dX11_rule_123 rfl 3 rfl ?_
          refine A_aload_n dX11_rule_124 rfl 3 rfl ?_
          refine A_geti fl_X11_144 lk_84 rfl dX11_rule_125 ?_
          try simp (disch := omega) only [up_k, up_j, up_s, incS_s, incS_k, incS_j, thC_keep, ad11, ad21, ad31, ad41, ad12, nc0, nc1, nc2, nc3, nc4, nc5, nc6, nc7, nc8, nc9, nc10, nc11, nc12, nc13, nc14, nc15, nc16, nc17, nc18, nc19, nc20, nc21, fnC_inc, fnC_up, dsZ_j, dsZ_8, dsT_k, loM_j, meT_j, knR_inc, knR_up]
          refine A_Va1 mv_X11_276 lk_84 rfl rfl (c_numT (by repeat (first | exact hT | refine Tk.i (by decide) ?_ | refine Tk.tC ?_ _ | refine Tk.x (by decide) ?_ | refine Tk.o (by decide) ?_)) _ ⟨by omega, by omega⟩) (Nat.le_of_ble_eq_true rfl) (by omega) (by omega) dX11_rule_128 ?_
          try simp (disch := omega) only [incS_s, incS_k, incS_j, thC_keep, ad11, ad21, ad31, ad41, ad12, nc0, nc1, nc2, nc3, nc4, nc5, nc6, nc7, nc8, nc9, nc10, nc11, nc12, nc13, nc14, nc15, nc16, nc17, nc18, nc19, nc20, nc21, fnC_inc, fnC_up, dsZ_j, dsZ_8, dsT_k, loM_j, meT_j, knR_inc, knR_up]
          refine A_aload_n dX11_rule_131 rfl 1 rfl ?_
          refine A_aload_n dX11_rule_132 rfl 3 rfl ?_
          refine A_getr fl_X11_75 lk_84 rfl dX11_rule_133 ?_
          refine A_iload_n dX11_rule_136 rfl 2 rfl ?_
          refine J_iald lk_105 (by first | exact i32_eq (by assumption) | exact i32_eq ⟨by omega, by omega⟩ | with_reducible exact i32_i32 _ | with_reducible exact i32_eq (b2i_inr _) | rfl) (by omega) (by omega) (by decide) dX11_rule_137 ?_
          try simp (disch := omega) only [up_k, up_j, up_s, incS_s, incS_k, incS_j, thC_keep, ad11, ad21, ad31, ad41, ad12, nc0, nc1, nc2, nc3, nc4, nc5, nc6, nc7, nc8, nc9, nc10, nc11, nc12, nc13, nc14, nc15, nc16, nc17, nc18, nc19, nc20, nc21, fnC_inc, fnC_up, dsZ_j, dsZ_8, dsT_k, loM_j, meT_j, knR_inc, knR_up]
          refine A_ialdT (q := 0) rfl hKA78 (by first | exact i32_eq (by assumption) | exact i32_eq ⟨by omega, by omega⟩ | with_reducible exact i32_i32 _ | with_reducible exact i32_eq (b2i_inr _) | rfl) (by omega) (by omega) (by decide) dX11_rule_138 ?_
          show AW _ _ _ _ _ _ _ _ _ _ _ (.int (I32 (0)) :: _) _
          refine A_aload dX11_rule_139 0 rfl ?_
          refine A_aload_n dX11_rule_141 rfl 3 rfl ?_
          refine A_getr fl_X11_75 lk_84 rfl dX11_rule_142 ?_
          refine A_iload_n dX11_rule_145 rfl 2 rfl ?_
          refine J_iald lk_105 (by first | exact i32_eq (by assumption) | exact i32_eq ⟨by omega, by omega⟩ | with_reducible exact i32_i32 _ | with_reducible exact i32_eq (b2i_inr _) | rfl) (by omega) (by omega) (by decide) dX11_rule_146 ?_
          try simp (disch := omega) only [up_k, up_j, up_s, incS_s, incS_k, incS_j, thC_keep, ad11, ad21, ad31, ad41, ad12, nc0, nc1, nc2, nc3, nc4, nc5, nc6, nc7, nc8, nc9, nc10, nc11, nc12, nc13, nc14, nc15, nc16, nc17, nc18, nc19, nc20, nc21, fnC_inc, fnC_up, dsZ_j, dsZ_8, dsT_k, loM_j, meT_j, knR_inc, knR_up]
          refine A_ialdT (q := 1) rfl hKA98 (by first | exact i32_eq (by assumption) | exact i32_eq ⟨by omega, by omega⟩ | with_reducible exact i32_i32 _ | with_reducible exact i32_eq (b2i_inr _) | rfl) (by omega) (by omega) (by decide) dX11_rule_147 ?_
          show AW _ _ _ _ _ _ _ _ _ _ _ (.int (I32 (9999)) :: _) _
          refine A_Sa3 ms_X11_106 (c_X11_isIn _ _ _ _) (Nat.le_of_ble_eq_true rfl) (by omega) (by omega) dX11_rule_148 ?_
          try simp (disch := omega) only [incS_s, incS_k, incS_j, thC_keep, ad11, ad21, ad31, ad41, ad12, nc0, nc1, nc2, nc3, nc4, nc5, nc6, nc7, nc8, nc9, nc10, nc11, nc12, nc13, nc14, nc15, nc16, nc17, nc18, nc19, nc20, nc21, fnC_inc, fnC_up, dsZ_j, dsZ_8, dsT_k, loM_j, meT_j, knR_inc, knR_up]
          rw [inR_n (by omega) (by decide) (by decide)]
          refine A_ifne_b (tgt := 164) dX11_rule_151 (by decide) (fun h151 => ?_) (fun h151 => ?_)
          · refine A_aload_n dX11_rule_164 rfl 3 rfl ?_
            refine A_getr fl_X11_78 lk_84 rfl dX11_rule_165 ?_
            refine A_iload_n dX11_rule_168 rfl 2 rfl ?_
            refine A_aload_n dX11_rule_169 rfl 3 rfl ?_
            refine A_aload_n dX11_rule_170 rfl 3 rfl ?_
            refine A_geti fl_X11_144 lk_84 rfl dX11_rule_171 ?_
            try simp (disch := omega) only [up_k, up_j, up_s, incS_s, incS_k, incS_j, thC_keep, ad11, ad21, ad31, ad41, ad12, nc0, nc1, nc2, nc3, nc4, nc5, nc6, nc7, nc8, nc9, nc10, nc11, nc12, nc13, nc14, nc15, nc16, nc17, nc18, nc19, nc20, nc21, fnC_inc, fnC_up, dsZ_j, dsZ_8, dsT_k, loM_j, meT_j, knR_inc, knR_up]
            refine A_Va1 mv_X11_276 lk_84 rfl rfl (c_numT (by repeat (first | exact hT | refine Tk.i (by decide) ?_ | refine Tk.tC ?_ _ | refine Tk.x (by decide) ?_ | refine Tk.o (by decide) ?_)) _ ⟨by omega, by omega⟩) (Nat.le_of_ble_eq_true rfl) (by omega) (by omega) dX11_rule_174 ?_
            try simp (disch := omega) only [incS_s, incS_k, incS_j, thC_keep, ad11, ad21, ad31, ad41, ad12, nc0, nc1, nc2, nc3, nc4, nc5, nc6, nc7, nc8, nc9, nc10, nc11, nc12, nc13, nc14, nc15, nc16, nc17, nc18, nc19, nc20, nc21, fnC_inc, fnC_up, dsZ_j, dsZ_8, dsT_k, loM_j, meT_j, knR_inc, knR_up]
            refine J_iast lk_106 (by first | exact i32_eq (by assumption) | exact i32_eq ⟨by omega, by omega⟩ | with_reducible exact i32_i32 _ | with_reducible exact i32_eq (b2i_inr _) | rfl) (by omega) (by omega) (by decide) dX11_rule_177 ?_
            refine A_aload_n dX11_rule_178 rfl 3 rfl ?_
            refine A_getr fl_X11_81 lk_84 rfl dX11_rule_179 ?_
            refine A_iload_n dX11_rule_182 rfl 2 rfl ?_
            refine A_iconst dX11_rule_183 ?_
            refine J_iast lk_107 (by first | exact i32_eq (by assumption) | exact i32_eq ⟨by omega, by omega⟩ | with_reducible exact i32_i32 _ | with_reducible exact i32_eq (b2i_inr _) | rfl) (by omega) (by omega) (by decide) dX11_rule_184 ?_
            refine A_aload_n dX11_rule_185 rfl 3 rfl ?_
            refine A_getr fl_X11_84 lk_84 rfl dX11_rule_186 ?_
            refine A_iload_n dX11_rule_189 rfl 2 rfl ?_
            refine A_iconst dX11_rule_190 ?_
            refine J_iast lk_108 (by first | exact i32_eq (by assumption) | exact i32_eq ⟨by omega, by omega⟩ | with_reducible exact i32_i32 _ | with_reducible exact i32_eq (b2i_inr _) | rfl) (by omega) (by omega) (by decide) dX11_rule_191 ?_
            refine A_aload_n dX11_rule_192 rfl 3 rfl ?_
            refine A_getr fl_X11_87 lk_84 rfl dX11_rule_193 ?_
            refine A_iload_n dX11_rule_196 rfl 2 rfl ?_
            refine A_iconst dX11_rule_197 ?_
            refine J_iast lk_109 (by first | exact i32_eq (by assumption) | exact i32_eq ⟨by omega, by omega⟩ | with_reducible exact i32_i32 _ | with_reducible exact i32_eq (b2i_inr _) | rfl) (by omega) (by omega) (by decide) dX11_rule_198 ?_
            refine A_inc fl_X11_144 lk_84 rfl 3 rfl dX11_rule_199 dX11_rule_200 dX11_rule_201 dX11_rule_204 dX11_rule_205 dX11_rule_206 ?_
            refine A_aload_n dX11_rule_209 rfl 3 rfl ?_
            refine A_getr fl_X11_75 lk_84 rfl dX11_rule_210 ?_
            refine A_iload_n dX11_rule_213 rfl 2 rfl ?_
            refine J_iald lk_105 (by first | exact i32_eq (by assumption) | exact i32_eq ⟨by omega, by omega⟩ | with_reducible exact i32_i32 _ | with_reducible exact i32_eq (b2i_inr _) | rfl) (by omega) (by omega) (by decide) dX11_rule_214 ?_
            try simp (disch := omega) only [up_k, up_j, up_s, incS_s, incS_k, incS_j, thC_keep, ad11, ad21, ad31, ad41, ad12, nc0, nc1, nc2, nc3, nc4, nc5, nc6, nc7, nc8, nc9, nc10, nc11, nc12, nc13, nc14, nc15, nc16, nc17, nc18, nc19, nc20, nc21, fnC_inc, fnC_up, dsZ_j, dsZ_8, dsT_k, loM_j, meT_j, knR_inc, knR_up]
            refine A_iconst dX11_rule_215 ?_
            refine J_icmp_eq (tgt := 300) dX11_rule_216 (by decide) (by first | exact i32_eq (by assumption) | exact i32_eq ⟨by omega, by omega⟩ | with_reducible exact i32_i32 _ | with_reducible exact i32_eq (b2i_inr _) | rfl) (by first | exact i32_eq (by assumption) | exact i32_eq ⟨by omega, by omega⟩ | with_reducible exact i32_i32 _ | with_reducible exact i32_eq (b2i_inr _) | rfl) (fun h216 => ?_) (fun h216 => ?_)
            · refine A_aload_n dX11_rule_300 rfl 3 rfl ?_
              refine A_getr fl_X11_75 lk_84 rfl dX11_rule_301 ?_
              refine A_iload_n dX11_rule_304 rfl 2 rfl ?_
              refine J_iald lk_105 (by first | exact i32_eq (by assumption) | exact i32_eq ⟨by omega, by omega⟩ | with_reducible exact i32_i32 _ | with_reducible exact i32_eq (b2i_inr _) | rfl) (by omega) (by omega) (by decide) dX11_rule_305 ?_
              try simp (disch := omega) only [up_k, up_j, up_s, incS_s, incS_k, incS_j, thC_keep, ad11, ad21, ad31, ad41, ad12, nc0, nc1, nc2, nc3, nc4, nc5, nc6, nc7, nc8, nc9, nc10, nc11, nc12, nc13, nc14, nc15, nc16, nc17, nc18, nc19, nc20, nc21, fnC_inc, fnC_up, dsZ_j, dsZ_8, dsT_k, loM_j, meT_j, knR_inc, knR_up]
              refine J_if_eq (tgt := 407) dX11_rule_306 (by decide) (by first | exact i32_eq (by assumption) | exact i32_eq ⟨by omega, by omega⟩ | with_reducible exact i32_i32 _ | with_reducible exact i32_eq (b2i_inr _) | rfl) (fun h306 => ?_) (fun h306 => ?_)
              · exact absurd h306 (by decide)
                --end
              · refine A_inc fl_X11_144 lk_84 rfl 3 rfl dX11_rule_309 dX11_rule_310 dX11_rule_311 dX11_rule_314 dX11_rule_315 dX11_rule_316 ?_
                refine A_aload_n dX11_rule_319 rfl 3 rfl ?_
                refine A_getr fl_X11_75 lk_84 rfl dX11_rule_320 ?_
                refine A_iload_n dX11_rule_323 rfl 2 rfl ?_
                refine J_iald lk_105 (by first | exact i32_eq (by assumption) | exact i32_eq ⟨by omega, by omega⟩ | with_reducible exact i32_i32 _ | with_reducible exact i32_eq (b2i_inr _) | rfl) (by omega) (by omega) (by decide) dX11_rule_324 ?_
                try simp (disch := omega) only [up_k, up_j, up_s, incS_s, incS_k, incS_j, thC_keep, ad11, ad21, ad31, ad41, ad12, nc0, nc1, nc2, nc3, nc4, nc5, nc6, nc7, nc8, nc9, nc10, nc11, nc12, nc13, nc14, nc15, nc16, nc17, nc18, nc19, nc20, nc21, fnC_inc, fnC_up, dsZ_j, dsZ_8, dsT_k, loM_j, meT_j, knR_inc, knR_up]
                refine A_iconst dX11_rule_325 ?_
                refine J_icmp_ne (tgt := 352) dX11_rule_326 (by decide) (by first | exact i32_eq (by assumption) | exact i32_eq ⟨by omega, by omega⟩ | with_reducible exact i32_i32 _ | with_reducible exact i32_eq (b2i_inr _) | rfl) (by first | exact i32_eq (by assumption) | exact i32_eq ⟨by omega, by omega⟩ | with_reducible exact i32_i32 _ | with_reducible exact i32_eq (b2i_inr _) | rfl) (fun h326 => ?_) (fun h326 => ?_)
                · exact absurd rfl h326
                  --end
                · refine A_aload_n dX11_rule_329 rfl 3 rfl ?_
                  refine A_aload_n dX11_rule_330 rfl 3 rfl ?_
                  refine A_geti fl_X11_144 lk_84 rfl dX11_rule_331 ?_
                  try simp (disch := omega) only [up_k, up_j, up_s, incS_s, incS_k, incS_j, thC_keep, ad11, ad21, ad31, ad41, ad12, nc0, nc1, nc2, nc3, nc4, nc5, nc6, nc7, nc8, nc9, nc10, nc11, nc12, nc13, nc14, nc15, nc16, nc17, nc18, nc19, nc20, nc21, fnC_inc, fnC_up, dsZ_j, dsZ_8, dsT_k, loM_j, meT_j, knR_inc, knR_up]
                  refine A_Va1 mv_X11_276 lk_84 rfl rfl (c_numT (by repeat (first | exact hT | refine Tk.i (by decide) ?_ | refine Tk.tC ?_ _ | refine Tk.x (by decide) ?_ | refine Tk.o (by decide) ?_)) _ ⟨by omega, by omega⟩) (Nat.le_of_ble_eq_true rfl) (by omega) (by omega) dX11_rule_334 ?_
                  try simp (disch := omega) only [incS_s, incS_k, incS_j, thC_keep, ad11, ad21, ad31, ad41, ad12, nc0, nc1, nc2, nc3, nc4, nc5, nc6, nc7, nc8, nc9, nc10, nc11, nc12, nc13, nc14, nc15, nc16, nc17, nc18, nc19, nc20, nc21, fnC_inc, fnC_up, dsZ_j, dsZ_8, dsT_k, loM_j, meT_j, knR_inc, knR_up]
                  refine A_aload_n dX11_rule_337 rfl 3 rfl ?_
                  refine A_getr fl_X11_78 lk_84 rfl dX11_rule_338 ?_
                  refine A_iload_n dX11_rule_341 rfl 2 rfl ?_
                  refine J_iald lk_106 (by first | exact i32_eq (by assumption) | exact i32_eq ⟨by omega, by omega⟩ | with_reducible exact i32_i32 _ | with_reducible exact i32_eq (b2i_inr _) | rfl) (by omega) (by omega) (by decide) dX11_rule_342 ?_
                  try simp (disch := omega) only [up_k, up_j, up_s, incS_s, incS_k, incS_j, thC_keep, ad11, ad21, ad31, ad41, ad12, nc0, nc1, nc2, nc3, nc4, nc5, nc6, nc7, nc8, nc9, nc10, nc11, nc12, nc13, nc14, nc15, nc16, nc17, nc18, nc19, nc20, nc21, fnC_inc, fnC_up, dsZ_j, dsZ_8, dsT_k, loM_j, meT_j, knR_inc, knR_up]
                  refine A_sipush dX11_rule_343 (by decide +kernel) ?_
                  refine A_Sa3 ms_X11_106 (c_X11_isIn _ _ _ _) (Nat.le_of_ble_eq_true rfl) (by omega) (by omega) dX11_rule_346 ?_
                  try simp (disch := omega) only [incS_s, incS_k, incS_j, thC_keep, ad11, ad21, ad31, ad41, ad12, nc0, nc1, nc2, nc3, nc4, nc5, nc6, nc7, nc8, nc9, nc10, nc11, nc12, nc13, nc14, nc15, nc16, nc17, nc18, nc19, nc20, nc21, fnC_inc, fnC_up, dsZ_j, dsZ_8, dsT_k, loM_j, meT_j, knR_inc, knR_up]
                  rw [inR_n (by omega) (by omega) (by decide)]
                  refine A_goto (tgt := 366) dX11_rule_349 (by decide) ?_
                  refine A_istore (lv2 := [(5, _), (4, _), (3, _), (2, _), (0, _), (1, _)]) dX11_rule_366 (by decide) rfl ?_
                  refine A_iload dX11_rule_368 0 rfl ?_
                  refine A_ifne_b (tgt := 383) dX11_rule_370 (by decide) (fun h370 => ?_) (fun h370 => ?_)
                  · refine A_aload_n dX11_rule_383 rfl 4 rfl ?_
                    refine A_getr fl_X11_81 lk_84 rfl dX11_rule_384 ?_
                    refine A_iload_n dX11_rule_387 rfl 3 rfl ?_
                    refine A_aload_n dX11_rule_388 rfl 4 rfl ?_
                    refine A_aload_n dX11_rule_389 rfl 4 rfl ?_
                    refine A_geti fl_X11_144 lk_84 rfl dX11_rule_390 ?_
                    try simp (disch := omega) only [up_k, up_j, up_s, incS_s, incS_k, incS_j, thC_keep, ad11, ad21, ad31, ad41, ad12, nc0, nc1, nc2, nc3, nc4, nc5, nc6, nc7, nc8, nc9, nc10, nc11, nc12, nc13, nc14, nc15, nc16, nc17, nc18, nc19, nc20, nc21, fnC_inc, fnC_up, dsZ_j, dsZ_8, dsT_k, loM_j, meT_j, knR_inc, knR_up]
                    refine A_Va1 mv_X11_276 lk_84 rfl rfl (c_numT (by repeat (first | exact hT | refine Tk.i (by decide) ?_ | refine Tk.tC ?_ _ | refine Tk.x (by decide) ?_ | refine Tk.o (by decide) ?_)) _ ⟨by omega, by omega⟩) (Nat.le_of_ble_eq_true rfl) (by omega) (by omega) dX11_rule_393 ?_
                    try simp (disch := omega) only [incS_s, incS_k, incS_j, thC_keep, ad11, ad21, ad31, ad41, ad12, nc0, nc1, nc2, nc3, nc4, nc5, nc6, nc7, nc8, nc9, nc10, nc11, nc12, nc13, nc14, nc15, nc16, nc17, nc18, nc19, nc20, nc21, fnC_inc, fnC_up, dsZ_j, dsZ_8, dsT_k, loM_j, meT_j, knR_inc, knR_up]
                    refine J_iast lk_107 (by first | exact i32_eq (by assumption) | exact i32_eq ⟨by omega, by omega⟩ | with_reducible exact i32_i32 _ | with_reducible exact i32_eq (b2i_inr _) | rfl) (by omega) (by omega) (by decide) dX11_rule_396 ?_
                    refine A_inc fl_X11_144 lk_84 rfl 4 rfl dX11_rule_397 dX11_rule_398 dX11_rule_399 dX11_rule_402 dX11_rule_403 dX11_rule_404 ?_
                    refine A_inc fl_X11_298 lk_84 rfl 4 rfl dX11_rule_407 dX11_rule_408 dX11_rule_409 dX11_rule_412 dX11_rule_413 dX11_rule_414 ?_
                    refine A_iconst dX11_rule_417 ?_
                    refine A_wid (k2 := 2) (n2 := 8) (by decide) (by decide) ?_
                    exact A_iret dX11_rule_418 (by simp only [ruM]; rw [if_neg h6, if_neg n7, if_neg n8, if_neg n9]; simp only [ruB]; rw [if_pos (of_decide_eq_true h151), if_pos trivial]; unfold ruE; rw [if_pos (of_decide_eq_true h370)] <;> (try rfl)) (by simp only [ruM]; rw [if_neg h6, if_neg n7, if_neg n8, if_neg n9]; simp only [ruB]; rw [if_pos (of_decide_eq_true h151), if_pos trivial]; unfold ruE; rw [if_pos (of_decide_eq_true h370)] <;> (try rfl))
                  · refine A_aload_n dX11_rule_373 rfl 4 rfl ?_
                    refine A_iconst dX11_rule_374 ?_
                    refine A_aload_n dX11_rule_375 rfl 4 rfl ?_
                    refine A_geti fl_X11_144 lk_84 rfl dX11_rule_376 ?_
                    try simp (disch := omega) only [up_k, up_j, up_s, incS_s, incS_k, incS_j, thC_keep, ad11, ad21, ad31, ad41, ad12, nc0, nc1, nc2, nc3, nc4, nc5, nc6, nc7, nc8, nc9, nc10, nc11, nc12, nc13, nc14, nc15, nc16, nc17, nc18, nc19, nc20, nc21, fnC_inc, fnC_up, dsZ_j, dsZ_8, dsT_k, loM_j, meT_j, knR_inc, knR_up]
                    refine A_Va2 mv_X11_261 lk_84 rfl rfl (c_wrongT (by repeat (first | exact hT | refine Tk.i (by decide) ?_ | refine Tk.tC ?_ _ | refine Tk.x (by decide) ?_ | refine Tk.o (by decide) ?_)) _ _ ⟨by omega, by omega⟩) (Nat.le_of_ble_eq_true rfl) (by omega) (by omega) dX11_rule_379 ?_
                    try simp (disch := omega) only [incS_s, incS_k, incS_j, thC_keep, ad11, ad21, ad31, ad41, ad12, nc0, nc1, nc2, nc3, nc4, nc5, nc6, nc7, nc8, nc9, nc10, nc11, nc12, nc13, nc14, nc15, nc16, nc17, nc18, nc19, nc20, nc21, fnC_inc, fnC_up, dsZ_j, dsZ_8, dsT_k, loM_j, meT_j, knR_inc, knR_up]
                    refine A_wid (k2 := 2) (n2 := 8) (by decide) (by decide) ?_
                    exact A_iret dX11_rule_382 (by simp only [ruM]; rw [if_neg h6, if_neg n7, if_neg n8, if_neg n9]; simp only [ruB]; rw [if_pos (of_decide_eq_true h151), if_pos trivial]; unfold ruE; rw [if_neg (of_decide_eq_false h370)] <;> (try rfl)) (by simp only [ruM]; rw [if_neg h6, if_neg n7, if_neg n8, if_neg n9]; simp only [ruB]; rw [if_pos (of_decide_eq_true h151), if_pos trivial]; unfold ruE; rw [if_neg (of_decide_eq_false h370)] <;> (try rfl))
            · exact absurd rfl h216
              --end
          · refine A_aload_n dX11_rule_154 rfl 3 rfl ?_
            refine A_iconst dX11_rule_155 ?_
            refine A_aload_n dX11_rule_156 rfl 3 rfl ?_
            refine A_geti fl_X11_144 lk_84 rfl dX11_rule_157 ?_
            try simp (disch := omega) only [up_k, up_j, up_s, incS_s, incS_k, incS_j, thC_keep, ad11, ad21, ad31, ad41, ad12, nc0, nc1, nc2, nc3, nc4, nc5, nc6, nc7, nc8, nc9, nc10, nc11, nc12, nc13, nc14, nc15, nc16, nc17, nc18, nc19, nc20, nc21, fnC_inc, fnC_up, dsZ_j, dsZ_8, dsT_k, loM_j, meT_j, knR_inc, knR_up]
            refine A_Va2 mv_X11_261 lk_84 rfl rfl (c_wrongT (by repeat (first | exact hT | refine Tk.i (by decide) ?_ | refine Tk.tC ?_ _ | refine Tk.x (by decide) ?_ | refine Tk.o (by decide) ?_)) _ _ ⟨by omega, by omega⟩) (Nat.le_of_ble_eq_true rfl) (by omega) (by omega) dX11_rule_160 ?_
            try simp (disch := omega) only [incS_s, incS_k, incS_j, thC_keep, ad11, ad21, ad31, ad41, ad12, nc0, nc1, nc2, nc3, nc4, nc5, nc6, nc7, nc8, nc9, nc10, nc11, nc12, nc13, nc14, nc15, nc16, nc17, nc18, nc19, nc20, nc21, fnC_inc, fnC_up, dsZ_j, dsZ_8, dsT_k, loM_j, meT_j, knR_inc, knR_up]
            refine A_wid (k2 := 2) (n2 := 8) (by decide) (by decide) ?_
            exact A_iret dX11_rule_163 (by simp only [ruM]; rw [if_neg h6, if_neg n7, if_neg n8, if_neg n9]; simp only [ruB]; rw [if_neg (of_decide_eq_false h151)] <;> (try rfl)) (by simp only [ruM]; rw [if_neg h6, if_neg n7, if_neg n8, if_neg n9]; simp only [ruB]; rw [if_neg (of_decide_eq_false h151)] <;> (try rfl))
        · have hk := of_decide_eq_true h58
          obtain ⟨g1, g2, g3, g4⟩ : K (σ 84 8 + 1) = 23 ∧ K (σ 84 8 + 2) = 22 ∧ K (σ 84 8 + 3) = 10 ∧ K (σ 84 8 + 4) = 23 := by
            rcases hg.1 with z | z | z
            · omega
            · omega
            · exact ⟨z.2.1, z.2.2.1, z.2.2.2.1, z.2.2.2.2.1⟩
          have ha1 := hT.in g1 (by decide)
          have ha2 := hT.in g2 (by decide)
          have hN1 := hT.2.2.2.1 _ g1
          have ha3 := hT.in g3 (by decide)
          have ha4 := hT.in g4 (by decide)
          have hN4 := hT.2.2.2.1 _ g4
          refine A_iconst dX11_rule_61 ?_
          refine A_goto (tgt := 66) dX11_rule_62 (by decide) ?_
          refine J_iast lk_105 (by first | exact i32_eq (by assumption) | exact i32_eq ⟨by omega, by omega⟩ | with_reducible exact i32_i32 _ | with_reducible exact i32_eq (b2i_inr _) | rfl) (by omega) (by omega) (by decide) dX11_rule_66 ?_
          refine A_inc fl_X11_144 lk_84 rfl 1 rfl dX11_rule_67 dX11_rule_68 dX11_rule_69 dX11_rule_72 dX11_rule_73 dX11_rule_74 ?_
          refine A_iconst dX11_rule_77 ?_
          refine A_newaT (N := 4) (by decide) (by decide) (by decide) (by omega) dX11_rule_78 (fun a78 c78 hKA78 => ?_)
          refine A_dup dX11_rule_80 rfl ?_
          refine A_iconst dX11_rule_81 ?_
          refine A_iconst dX11_rule_82 ?_
          refine A_iastT (q := 0) rfl hKA78 (by first | exact i32_eq (by assumption) | exact i32_eq ⟨by omega, by omega⟩ | with_reducible exact i32_i32 _ | with_reducible exact i32_eq (b2i_inr _) | rfl) (by omega) (by omega) (by decide) dX11_rule_83 ?_
          refine A_dup dX11_rule_84 rfl ?_
          refine A_iconst dX11_rule_85 ?_
          refine A_iconst dX11_rule_86 ?_
          refine A_iastT (q := 0) rfl hKA78 (by first | exact i32_eq (by assumption) | exact i32_eq ⟨by omega, by omega⟩ | with_reducible exact i32_i32 _ | with_reducible exact i32_eq (b2i_inr _) | rfl) (by omega) (by omega) (by decide) dX11_rule_87 ?_
          refine A_dup dX11_rule_88 rfl ?_
          refine A_iconst dX11_rule_89 ?_
          refine A_iconst dX11_rule_90 ?_
          refine A_iastT (q := 0) rfl hKA78 (by first | exact i32_eq (by assumption) | exact i32_eq ⟨by omega, by omega⟩ | with_reducible exact i32_i32 _ | with_reducible exact i32_eq (b2i_inr _) | rfl) (by omega) (by omega) (by decide) dX11_rule_91 ?_
          refine A_dup dX11_rule_92 rfl ?_
          refine A_iconst dX11_rule_93 ?_
          refine A_iconst dX11_rule_94 ?_
          refine A_iastT (q := 0) rfl hKA78 (by first | exact i32_eq (by assumption) | exact i32_eq ⟨by omega, by omega⟩ | with_reducible exact i32_i32 _ | with_reducible exact i32_eq (b2i_inr _) | rfl) (by omega) (by omega) (by decide) dX11_rule_95 ?_
          refine A_astore_n (lv2 := [(3, _), (2, _), (0, _), (1, _)]) dX11_rule_96 rfl (by decide) rfl ?_
          refine A_iconst dX11_rule_97 ?_
          refine A_newaT (N := 4) (by decide) (by decide) (by decide) (by omega) dX11_rule_98 (fun a98 c98 hKA98 => ?_)
          refine A_dup dX11_rule_100 rfl ?_
          refine A_iconst dX11_rule_101 ?_
          refine A_bipush dX11_rule_102 (by decide +kernel) ?_
          refine A_iastT (q := 1) rfl hKA98 (by first | exact i32_eq (by assumption) | exact i32_eq ⟨by omega, by omega⟩ | with_reducible exact i32_i32 _ | with_reducible exact i32_eq (b2i_inr _) | rfl) (by omega) (by omega) (by decide) dX11_rule_104 ?_
          refine A_dup dX11_rule_105 rfl ?_
          refine A_iconst dX11_rule_106 ?_
          refine A_bipush dX11_rule_107 (by decide +kernel) ?_
          refine A_iastT (q := 1) rfl hKA98 (by first | exact i32_eq (by assumption) | exact i32_eq ⟨by omega, by omega⟩ | with_reducible exact i32_i32 _ | with_reducible exact i32_eq (b2i_inr _) | rfl) (by omega) (by omega) (by decide) dX11_rule_109 ?_
          refine A_dup dX11_rule_110 rfl ?_
          refine A_iconst dX11_rule_111 ?_
          refine A_bipush dX11_rule_112 (by decide +kernel) ?_
          refine A_iastT (q := 1) rfl hKA98 (by first | exact i32_eq (by assumption) | exact i32_eq ⟨by omega, by omega⟩ | with_reducible exact i32_i32 _ | with_reducible exact i32_eq (b2i_inr _) | rfl) (by omega) (by omega) (by decide) dX11_rule_114 ?_
          refine A_dup dX11_rule_115 rfl ?_
          refine A_iconst dX11_rule_116 ?_
          refine A_sipush dX11_rule_117 (by decide +kernel) ?_
          refine A_iastT (q := 1) rfl hKA98 (by first | exact i32_eq (by assumption) | exact i32_eq ⟨by omega, by omega⟩ | with_reducible exact i32_i32 _ | with_reducible exact i32_eq (b2i_inr _) | rfl) (by omega) (by omega) (by decide) dX11_rule_120 ?_
          refine A_astore (lv2 := [(4, _), (3, _), (2, _), (0, _), (1, _)]) dX11_rule_121 (by decide) rfl ?_
          refine A_aload_n dX11_rule_123 rfl 3 rfl ?_
          refine A_aload_n dX11_rule_124 rfl 3 rfl ?_
          refine A_geti fl_X11_144 lk_84 rfl dX11_rule_125 ?_
          try simp (disch := omega) only [up_k, up_j, up_s, incS_s, incS_k, incS_j, thC_keep, ad11, ad21, ad31, ad41, ad12, nc0, nc1, nc2, nc3, nc4, nc5, nc6, nc7, nc8, nc9, nc10, nc11, nc12, nc13, nc14, nc15, nc16, nc17, nc18, nc19, nc20, nc21, fnC_inc, fnC_up, dsZ_j, dsZ_8, dsT_k, loM_j, meT_j, knR_inc, knR_up]
          refine A_Va1 mv_X11_276 lk_84 rfl rfl (c_numT (by repeat (first | exact hT | refine Tk.i (by decide) ?_ | refine Tk.tC ?_ _ | refine Tk.x (by decide) ?_ | refine Tk.o (by decide) ?_)) _ ⟨by omega, by omega⟩) (Nat.le_of_ble_eq_true rfl) (by omega) (by omega) dX11_rule_128 ?_
          try simp (disch := omega) only [incS_s, incS_k, incS_j, thC_keep, ad11, ad21, ad31, ad41, ad12, nc0, nc1, nc2, nc3, nc4, nc5, nc6, nc7, nc8, nc9, nc10, nc11, nc12, nc13, nc14, nc15, nc16, nc17, nc18, nc19, nc20, nc21, fnC_inc, fnC_up, dsZ_j, dsZ_8, dsT_k, loM_j, meT_j, knR_inc, knR_up]
          refine A_aload_n dX11_rule_131 rfl 1 rfl ?_
          refine A_aload_n dX11_rule_132 rfl 3 rfl ?_
          refine A_getr fl_X11_75 lk_84 rfl dX11_rule_133 ?_
          refine A_iload_n dX11_rule_136 rfl 2 rfl ?_
          refine J_iald lk_105 (by first | exact i32_eq (by assumption) | exact i32_eq ⟨by omega, by omega⟩ | with_reducible exact i32_i32 _ | with_reducible exact i32_eq (b2i_inr _) | rfl) (by omega) (by omega) (by decide) dX11_rule_137 ?_
          try simp (disch := omega) only [up_k, up_j, up_s, incS_s, incS_k, incS_j, thC_keep, ad11, ad21, ad31, ad41, ad12, nc0, nc1, nc2, nc3, nc4, nc5, nc6, nc7, nc8, nc9, nc10, nc11, nc12, nc13, nc14, nc15, nc16, nc17, nc18, nc19, nc20, nc21, fnC_inc, fnC_up, dsZ_j, dsZ_8, dsT_k, loM_j, meT_j, knR_inc, knR_up]
          refine A_ialdT (q := 0) rfl hKA78 (by first | exact i32_eq (by assumption) | exact i32_eq ⟨by omega, by omega⟩ | with_reducible exact i32_i32 _ | with_reducible exact i32_eq (b2i_inr _) | rfl) (by omega) (by omega) (by decide) dX11_rule_138 ?_
          show AW _ _ _ _ _ _ _ _ _ _ _ (.int (I32 (1)) :: _) _
          refine A_aload dX11_rule_139 0 rfl ?_
          refine A_aload_n dX11_rule_141 rfl 3 rfl ?_
          refine A_getr fl_X11_75 lk_84 rfl dX11_rule_142 ?_
          refine A_iload_n dX11_rule_145 rfl 2 rfl ?_
          refine J_iald lk_105 (by first | exact i32_eq (by assumption) | exact i32_eq ⟨by omega, by omega⟩ | with_reducible exact i32_i32 _ | with_reducible exact i32_eq (b2i_inr _) | rfl) (by omega) (by omega) (by decide) dX11_rule_146 ?_
          try simp (disch := omega) only [up_k, up_j, up_s, incS_s, incS_k, incS_j, thC_keep, ad11, ad21, ad31, ad41, ad12, nc0, nc1, nc2, nc3, nc4, nc5, nc6, nc7, nc8, nc9, nc10, nc11, nc12, nc13, nc14, nc15, nc16, nc17, nc18, nc19, nc20, nc21, fnC_inc, fnC_up, dsZ_j, dsZ_8, dsT_k, loM_j, meT_j, knR_inc, knR_up]
          refine A_ialdT (q := 1) rfl hKA98 (by first | exact i32_eq (by assumption) | exact i32_eq ⟨by omega, by omega⟩ | with_reducible exact i32_i32 _ | with_reducible exact i32_eq (b2i_inr _) | rfl) (by omega) (by omega) (by decide) dX11_rule_147 ?_
          show AW _ _ _ _ _ _ _ _ _ _ _ (.int (I32 (9)) :: _) _
          refine A_Sa3 ms_X11_106 (c_X11_isIn _ _ _ _) (Nat.le_of_ble_eq_true rfl) (by omega) (by omega) dX11_rule_148 ?_
          try simp (disch := omega) only [incS_s, incS_k, incS_j, thC_keep, ad11, ad21, ad31, ad41, ad12, nc0, nc1, nc2, nc3, nc4, nc5, nc6, nc7, nc8, nc9, nc10, nc11, nc12, nc13, nc14, nc15, nc16, nc17, nc18, nc19, nc20, nc21, fnC_inc, fnC_up, dsZ_j, dsZ_8, dsT_k, loM_j, meT_j, knR_inc, knR_up]
          rw [inR_n (by omega) (by decide) (by decide)]
          refine A_ifne_b (tgt := 164) dX11_rule_151 (by decide) (fun h151 => ?_) (fun h151 => ?_)
          · refine A_aload_n dX11_rule_164 rfl 3 rfl ?_
            refine A_getr fl_X11_78 lk_84 rfl dX11_rule_165 ?_
            refine A_iload_n dX11_rule_168 rfl 2 rfl ?_
            refine A_aload_n dX11_rule_169 rfl 3 rfl ?_
            refine A_aload_n dX11_rule_170 rfl 3 rfl ?_
            refine A_geti fl_X11_144 lk_84 rfl dX11_rule_171 ?_
            try simp (disch := omega) only [up_k, up_j, up_s, incS_s, incS_k, incS_j, thC_keep, ad11, ad21, ad31, ad41, ad12, nc0, nc1, nc2, nc3, nc4, nc5, nc6, nc7, nc8, nc9, nc10, nc11, nc12, nc13, nc14, nc15, nc16, nc17, nc18, nc19, nc20, nc21, fnC_inc, fnC_up, dsZ_j, dsZ_8, dsT_k, loM_j, meT_j, knR_inc, knR_up]
            refine A_Va1 mv_X11_276 lk_84 rfl rfl (c_numT (by repeat (first | exact hT | refine Tk.i (by decide) ?_ | refine Tk.tC ?_ _ | refine Tk.x (by decide) ?_ | refine Tk.o (by decide) ?_)) _ ⟨by omega, by omega⟩) (Nat.le_of_ble_eq_true rfl) (by omega) (by omega) dX11_rule_174 ?_
            try simp (disch := omega) only [incS_s, incS_k, incS_j, thC_keep, ad11, ad21, ad31, ad41, ad12, nc0, nc1, nc2, nc3, nc4, nc5, nc6, nc7, nc8, nc9, nc10, nc11, nc12, nc13, nc14, nc15, nc16, nc17, nc18, nc19, nc20, nc21, fnC_inc, fnC_up, dsZ_j, dsZ_8, dsT_k, loM_j, meT_j, knR_inc, knR_up]
            refine J_iast lk_106 (by first | exact i32_eq (by assumption) | exact i32_eq ⟨by omega, by omega⟩ | with_reducible exact i32_i32 _ | with_reducible exact i32_eq (b2i_inr _) | rfl) (by omega) (by omega) (by decide) dX11_rule_177 ?_
            refine A_aload_n dX11_rule_178 rfl 3 rfl ?_
            refine A_getr fl_X11_81 lk_84 rfl dX11_rule_179 ?_
            refine A_iload_n dX11_rule_182 rfl 2 rfl ?_
            refine A_iconst dX11_rule_183 ?_
            refine J_iast lk_107 (by first | exact i32_eq (by assumption) | exact i32_eq ⟨by omega, by omega⟩ | with_reducible exact i32_i32 _ | with_reducible exact i32_eq (b2i_inr _) | rfl) (by omega) (by omega) (by decide) dX11_rule_184 ?_
            refine A_aload_n dX11_rule_185 rfl 3 rfl ?_
            refine A_getr fl_X11_84 lk_84 rfl dX11_rule_186 ?_
            refine A_iload_n dX11_rule_189 rfl 2 rfl ?_
            refine A_iconst dX11_rule_190 ?_
            refine J_iast lk_108 (by first | exact i32_eq (by assumption) | exact i32_eq ⟨by omega, by omega⟩ | with_reducible exact i32_i32 _ | with_reducible exact i32_eq (b2i_inr _) | rfl) (by omega) (by omega) (by decide) dX11_rule_191 ?_
            refine A_aload_n dX11_rule_192 rfl 3 rfl ?_
            refine A_getr fl_X11_87 lk_84 rfl dX11_rule_193 ?_
            refine A_iload_n dX11_rule_196 rfl 2 rfl ?_
            refine A_iconst dX11_rule_197 ?_
            refine J_iast lk_109 (by first | exact i32_eq (by assumption) | exact i32_eq ⟨by omega, by omega⟩ | with_reducible exact i32_i32 _ | with_reducible exact i32_eq (b2i_inr _) | rfl) (by omega) (by omega) (by decide) dX11_rule_198 ?_
            refine A_inc fl_X11_144 lk_84 rfl 3 rfl dX11_rule_199 dX11_rule_200 dX11_rule_201 dX11_rule_204 dX11_rule_205 dX11_rule_206 ?_
            refine A_aload_n dX11_rule_209 rfl 3 rfl ?_
            refine A_getr fl_X11_75 lk_84 rfl dX11_rule_210 ?_
            refine A_iload_n dX11_rule_213 rfl 2 rfl ?_
            refine J_iald lk_105 (by first | exact i32_eq (by assumption) | exact i32_eq ⟨by omega, by omega⟩ | with_reducible exact i32_i32 _ | with_reducible exact i32_eq (b2i_inr _) | rfl) (by omega) (by omega) (by decide) dX11_rule_214 ?_
            try simp (disch := omega) only [up_k, up_j, up_s, incS_s, incS_k, incS_j, thC_keep, ad11, ad21, ad31, ad41, ad12, nc0, nc1, nc2, nc3, nc4, nc5, nc6, nc7, nc8, nc9, nc10, nc11, nc12, nc13, nc14, nc15, nc16, nc17, nc18, nc19, nc20, nc21, fnC_inc, fnC_up, dsZ_j, dsZ_8, dsT_k, loM_j, meT_j, knR_inc, knR_up]
            refine A_iconst dX11_rule_215 ?_
            refine J_icmp_eq (tgt := 300) dX11_rule_216 (by decide) (by first | exact i32_eq (by assumption) | exact i32_eq ⟨by omega, by omega⟩ | with_reducible exact i32_i32 _ | with_reducible exact i32_eq (b2i_inr _) | rfl) (by first | exact i32_eq (by assumption) | exact i32_eq ⟨by omega, by omega⟩ | with_reducible exact i32_i32 _ | with_reducible exact i32_eq (b2i_inr _) | rfl) (fun h216 => ?_) (fun h216 => ?_)
            · exact absurd h216 (by decide)
              --end
            · refine A_aload_n dX11_rule_219 rfl 3 rfl ?_
              refine A_aload_n dX11_rule_220 rfl 3 rfl ?_
              refine A_geti fl_X11_144 lk_84 rfl dX11_rule_221 ?_
              try simp (disch := omega) only [up_k, up_j, up_s, incS_s, incS_k, incS_j, thC_keep, ad11, ad21, ad31, ad41, ad12, nc0, nc1, nc2, nc3, nc4, nc5, nc6, nc7, nc8, nc9, nc10, nc11, nc12, nc13, nc14, nc15, nc16, nc17, nc18, nc19, nc20, nc21, fnC_inc, fnC_up, dsZ_j, dsZ_8, dsT_k, loM_j, meT_j, knR_inc, knR_up]
              refine A_Va1 mv_X11_295 lk_84 rfl rfl (c_X11_isKnown _ (by repeat (first | exact hT | refine Tk.i (by decide) ?_ | refine Tk.tC ?_ _ | refine Tk.x (by decide) ?_ | refine Tk.o (by decide) ?_)) (by simp (disch := omega) only [up_k, up_j, up_s, incS_s, incS_k, incS_j, thC_keep, ad11, ad21, ad31, ad41, ad12, nc0, nc1, nc2, nc3, nc4, nc5, nc6, nc7, nc8, nc9, nc10, nc11, nc12, nc13, nc14, nc15, nc16, nc17, nc18, nc19, nc20, nc21, fnC_inc, fnC_up, dsZ_j, dsZ_8, dsT_k, loM_j, meT_j, knR_inc, knR_up]; exact hC2) (by simp (disch := omega) only [up_k, up_j, up_s, incS_s, incS_k, incS_j, thC_keep, ad11, ad21, ad31, ad41, ad12, nc0, nc1, nc2, nc3, nc4, nc5, nc6, nc7, nc8, nc9, nc10, nc11, nc12, nc13, nc14, nc15, nc16, nc17, nc18, nc19, nc20, nc21, fnC_inc, fnC_up, dsZ_j, dsZ_8, dsT_k, loM_j, meT_j, knR_inc, knR_up]; exact hC6) ⟨by omega, by omega⟩) (Nat.le_of_ble_eq_true rfl) (by omega) (by omega) dX11_rule_224 ?_
              try simp (disch := omega) only [incS_s, incS_k, incS_j, thC_keep, ad11, ad21, ad31, ad41, ad12, nc0, nc1, nc2, nc3, nc4, nc5, nc6, nc7, nc8, nc9, nc10, nc11, nc12, nc13, nc14, nc15, nc16, nc17, nc18, nc19, nc20, nc21, fnC_inc, fnC_up, dsZ_j, dsZ_8, dsT_k, loM_j, meT_j, knR_inc, knR_up]
              refine A_ifne_b (tgt := 240) dX11_rule_227 (by decide) (fun h227 => ?_) (fun h227 => ?_)
              · refine A_aload_n dX11_rule_240 rfl 3 rfl ?_
                refine A_getr fl_X11_84 lk_84 rfl dX11_rule_241 ?_
                refine A_iload_n dX11_rule_244 rfl 2 rfl ?_
                refine A_aload_n dX11_rule_245 rfl 3 rfl ?_
                refine A_getr fl_X11_39 lk_84 rfl dX11_rule_246 ?_
                refine A_aload_n dX11_rule_249 rfl 3 rfl ?_
                refine A_geti fl_X11_247 lk_84 rfl dX11_rule_250 ?_
                try simp (disch := omega) only [up_k, up_j, up_s, incS_s, incS_k, incS_j, thC_keep, ad11, ad21, ad31, ad41, ad12, nc0, nc1, nc2, nc3, nc4, nc5, nc6, nc7, nc8, nc9, nc10, nc11, nc12, nc13, nc14, nc15, nc16, nc17, nc18, nc19, nc20, nc21, fnC_inc, fnC_up, dsZ_j, dsZ_8, dsT_k, loM_j, meT_j, knR_inc, knR_up]
                refine A_aload_n dX11_rule_253 rfl 3 rfl ?_
                refine A_aload_n dX11_rule_254 rfl 3 rfl ?_
                refine A_geti fl_X11_144 lk_84 rfl dX11_rule_255 ?_
                try simp (disch := omega) only [up_k, up_j, up_s, incS_s, incS_k, incS_j, thC_keep, ad11, ad21, ad31, ad41, ad12, nc0, nc1, nc2, nc3, nc4, nc5, nc6, nc7, nc8, nc9, nc10, nc11, nc12, nc13, nc14, nc15, nc16, nc17, nc18, nc19, nc20, nc21, fnC_inc, fnC_up, dsZ_j, dsZ_8, dsT_k, loM_j, meT_j, knR_inc, knR_up]
                refine A_Va1 mv_X11_265 lk_84 rfl rfl (c_nameT (by repeat (first | exact hT | refine Tk.i (by decide) ?_ | refine Tk.tC ?_ _ | refine Tk.x (by decide) ?_ | refine Tk.o (by decide) ?_)) _ ⟨by omega, by omega⟩) (Nat.le_of_ble_eq_true rfl) (by omega) (by omega) dX11_rule_258 ?_
                try simp (disch := omega) only [incS_s, incS_k, incS_j, thC_keep, ad11, ad21, ad31, ad41, ad12, nc0, nc1, nc2, nc3, nc4, nc5, nc6, nc7, nc8, nc9, nc10, nc11, nc12, nc13, nc14, nc15, nc16, nc17, nc18, nc19, nc20, nc21, fnC_inc, fnC_up, dsZ_j, dsZ_8, dsT_k, loM_j, meT_j, knR_inc, knR_up]
                refine A_Sa3 ms_X11_243 (c_X11_find_93 _ (σ 84 15) _ hC2) (Nat.le_of_ble_eq_true rfl) (by omega) (by omega) dX11_rule_261 ?_
                try simp (disch := omega) only [incS_s, incS_k, incS_j, thC_keep, ad11, ad21, ad31, ad41, ad12, nc0, nc1, nc2, nc3, nc4, nc5, nc6, nc7, nc8, nc9, nc10, nc11, nc12, nc13, nc14, nc15, nc16, nc17, nc18, nc19, nc20, nc21, fnC_inc, fnC_up, dsZ_j, dsZ_8, dsT_k, loM_j, meT_j, knR_inc, knR_up]
                refine J_iast lk_108 (by first | exact i32_eq (by assumption) | exact i32_eq ⟨by omega, by omega⟩ | with_reducible exact i32_i32 _ | with_reducible exact i32_eq (b2i_inr _) | rfl) (by omega) (by omega) (by decide) dX11_rule_264 ?_
                refine A_aload_n dX11_rule_265 rfl 3 rfl ?_
                refine A_getr fl_X11_87 lk_84 rfl dX11_rule_266 ?_
                refine A_iload_n dX11_rule_269 rfl 2 rfl ?_
                refine A_aload_n dX11_rule_270 rfl 3 rfl ?_
                refine A_getr fl_X11_90 lk_84 rfl dX11_rule_271 ?_
                refine A_aload_n dX11_rule_274 rfl 3 rfl ?_
                refine A_geti fl_X11_269 lk_84 rfl dX11_rule_275 ?_
                try simp (disch := omega) only [up_k, up_j, up_s, incS_s, incS_k, incS_j, thC_keep, ad11, ad21, ad31, ad41, ad12, nc0, nc1, nc2, nc3, nc4, nc5, nc6, nc7, nc8, nc9, nc10, nc11, nc12, nc13, nc14, nc15, nc16, nc17, nc18, nc19, nc20, nc21, fnC_inc, fnC_up, dsZ_j, dsZ_8, dsT_k, loM_j, meT_j, knR_inc, knR_up]
                refine A_aload_n dX11_rule_278 rfl 3 rfl ?_
                refine A_aload_n dX11_rule_279 rfl 3 rfl ?_
                refine A_geti fl_X11_144 lk_84 rfl dX11_rule_280 ?_
                try simp (disch := omega) only [up_k, up_j, up_s, incS_s, incS_k, incS_j, thC_keep, ad11, ad21, ad31, ad41, ad12, nc0, nc1, nc2, nc3, nc4, nc5, nc6, nc7, nc8, nc9, nc10, nc11, nc12, nc13, nc14, nc15, nc16, nc17, nc18, nc19, nc20, nc21, fnC_inc, fnC_up, dsZ_j, dsZ_8, dsT_k, loM_j, meT_j, knR_inc, knR_up]
                refine A_Va1 mv_X11_265 lk_84 rfl rfl (c_nameT (by repeat (first | exact hT | refine Tk.i (by decide) ?_ | refine Tk.tC ?_ _ | refine Tk.x (by decide) ?_ | refine Tk.o (by decide) ?_)) _ ⟨by omega, by omega⟩) (Nat.le_of_ble_eq_true rfl) (by omega) (by omega) dX11_rule_283 ?_
                try simp (disch := omega) only [incS_s, incS_k, incS_j, thC_keep, ad11, ad21, ad31, ad41, ad12, nc0, nc1, nc2, nc3, nc4, nc5, nc6, nc7, nc8, nc9, nc10, nc11, nc12, nc13, nc14, nc15, nc16, nc17, nc18, nc19, nc20, nc21, fnC_inc, fnC_up, dsZ_j, dsZ_8, dsT_k, loM_j, meT_j, knR_inc, knR_up]
                refine A_Sa3 ms_X11_243 (c_X11_find_110 _ (σ 84 36) _ hC6) (Nat.le_of_ble_eq_true rfl) (by omega) (by omega) dX11_rule_286 ?_
                try simp (disch := omega) only [incS_s, incS_k, incS_j, thC_keep, ad11, ad21, ad31, ad41, ad12, nc0, nc1, nc2, nc3, nc4, nc5, nc6, nc7, nc8, nc9, nc10, nc11, nc12, nc13, nc14, nc15, nc16, nc17, nc18, nc19, nc20, nc21, fnC_inc, fnC_up, dsZ_j, dsZ_8, dsT_k, loM_j, meT_j, knR_inc, knR_up]
                refine J_iast lk_109 (by first | exact i32_eq (by assumption) | exact i32_eq ⟨by omega, by omega⟩ | with_reducible exact i32_i32 _ | with_reducible exact i32_eq (b2i_inr _) | rfl) (by omega) (by omega) (by decide) dX11_rule_289 ?_
                refine A_inc fl_X11_144 lk_84 rfl 3 rfl dX11_rule_290 dX11_rule_291 dX11_rule_292 dX11_rule_295 dX11_rule_296 dX11_rule_297 ?_
                refine A_aload_n dX11_rule_300 rfl 3 rfl ?_
                refine A_getr fl_X11_75 lk_84 rfl dX11_rule_301 ?_
                refine A_iload_n dX11_rule_304 rfl 2 rfl ?_
                refine J_iald lk_105 (by first | exact i32_eq (by assumption) | exact i32_eq ⟨by omega, by omega⟩ | with_reducible exact i32_i32 _ | with_reducible exact i32_eq (b2i_inr _) | rfl) (by omega) (by omega) (by decide) dX11_rule_305 ?_
                try simp (disch := omega) only [up_k, up_j, up_s, incS_s, incS_k, incS_j, thC_keep, ad11, ad21, ad31, ad41, ad12, nc0, nc1, nc2, nc3, nc4, nc5, nc6, nc7, nc8, nc9, nc10, nc11, nc12, nc13, nc14, nc15, nc16, nc17, nc18, nc19, nc20, nc21, fnC_inc, fnC_up, dsZ_j, dsZ_8, dsT_k, loM_j, meT_j, knR_inc, knR_up]
                refine J_if_eq (tgt := 407) dX11_rule_306 (by decide) (by first | exact i32_eq (by assumption) | exact i32_eq ⟨by omega, by omega⟩ | with_reducible exact i32_i32 _ | with_reducible exact i32_eq (b2i_inr _) | rfl) (fun h306 => ?_) (fun h306 => ?_)
                · exact absurd h306 (by decide)
                  --end
                · refine A_inc fl_X11_144 lk_84 rfl 3 rfl dX11_rule_309 dX11_rule_310 dX11_rule_311 dX11_rule_314 dX11_rule_315 dX11_rule_316 ?_
                  refine A_aload_n dX11_rule_319 rfl 3 rfl ?_
                  refine A_getr fl_X11_75 lk_84 rfl dX11_rule_320 ?_
                  refine A_iload_n dX11_rule_323 rfl 2 rfl ?_
                  refine J_iald lk_105 (by first | exact i32_eq (by assumption) | exact i32_eq ⟨by omega, by omega⟩ | with_reducible exact i32_i32 _ | with_reducible exact i32_eq (b2i_inr _) | rfl) (by omega) (by omega) (by decide) dX11_rule_324 ?_
                  try simp (disch := omega) only [up_k, up_j, up_s, incS_s, incS_k, incS_j, thC_keep, ad11, ad21, ad31, ad41, ad12, nc0, nc1, nc2, nc3, nc4, nc5, nc6, nc7, nc8, nc9, nc10, nc11, nc12, nc13, nc14, nc15, nc16, nc17, nc18, nc19, nc20, nc21, fnC_inc, fnC_up, dsZ_j, dsZ_8, dsT_k, loM_j, meT_j, knR_inc, knR_up]
                  refine A_iconst dX11_rule_325 ?_
                  refine J_icmp_ne (tgt := 352) dX11_rule_326 (by decide) (by first | exact i32_eq (by assumption) | exact i32_eq ⟨by omega, by omega⟩ | with_reducible exact i32_i32 _ | with_reducible exact i32_eq (b2i_inr _) | rfl) (by first | exact i32_eq (by assumption) | exact i32_eq ⟨by omega, by omega⟩ | with_reducible exact i32_i32 _ | with_reducible exact i32_eq (b2i_inr _) | rfl) (fun h326 => ?_) (fun h326 => ?_)
                  · refine A_aload_n dX11_rule_352 rfl 3 rfl ?_
                    refine A_aload_n dX11_rule_353 rfl 3 rfl ?_
                    refine A_geti fl_X11_144 lk_84 rfl dX11_rule_354 ?_
                    try simp (disch := omega) only [up_k, up_j, up_s, incS_s, incS_k, incS_j, thC_keep, ad11, ad21, ad31, ad41, ad12, nc0, nc1, nc2, nc3, nc4, nc5, nc6, nc7, nc8, nc9, nc10, nc11, nc12, nc13, nc14, nc15, nc16, nc17, nc18, nc19, nc20, nc21, fnC_inc, fnC_up, dsZ_j, dsZ_8, dsT_k, loM_j, meT_j, knR_inc, knR_up]
                    refine A_Va1 mv_X11_276 lk_84 rfl rfl (c_numT (by repeat (first | exact hT | refine Tk.i (by decide) ?_ | refine Tk.tC ?_ _ | refine Tk.x (by decide) ?_ | refine Tk.o (by decide) ?_)) _ ⟨by omega, by omega⟩) (Nat.le_of_ble_eq_true rfl) (by omega) (by omega) dX11_rule_357 ?_
                    try simp (disch := omega) only [incS_s, incS_k, incS_j, thC_keep, ad11, ad21, ad31, ad41, ad12, nc0, nc1, nc2, nc3, nc4, nc5, nc6, nc7, nc8, nc9, nc10, nc11, nc12, nc13, nc14, nc15, nc16, nc17, nc18, nc19, nc20, nc21, fnC_inc, fnC_up, dsZ_j, dsZ_8, dsT_k, loM_j, meT_j, knR_inc, knR_up]
                    refine A_iconst dX11_rule_360 ?_
                    refine A_bipush dX11_rule_361 (by decide +kernel) ?_
                    refine A_Sa3 ms_X11_106 (c_X11_isIn _ _ _ _) (Nat.le_of_ble_eq_true rfl) (by omega) (by omega) dX11_rule_363 ?_
                    try simp (disch := omega) only [incS_s, incS_k, incS_j, thC_keep, ad11, ad21, ad31, ad41, ad12, nc0, nc1, nc2, nc3, nc4, nc5, nc6, nc7, nc8, nc9, nc10, nc11, nc12, nc13, nc14, nc15, nc16, nc17, nc18, nc19, nc20, nc21, fnC_inc, fnC_up, dsZ_j, dsZ_8, dsT_k, loM_j, meT_j, knR_inc, knR_up]
                    rw [inR_n (by omega) (by decide) (by decide)]
                    refine A_istore (lv2 := [(5, _), (4, _), (3, _), (2, _), (0, _), (1, _)]) dX11_rule_366 (by decide) rfl ?_
                    refine A_iload dX11_rule_368 0 rfl ?_
                    refine A_ifne_b (tgt := 383) dX11_rule_370 (by decide) (fun h370 => ?_) (fun h370 => ?_)
                    · refine A_aload_n dX11_rule_383 rfl 4 rfl ?_
                      refine A_getr fl_X11_81 lk_84 rfl dX11_rule_384 ?_
                      refine A_iload_n dX11_rule_387 rfl 3 rfl ?_
                      refine A_aload_n dX11_rule_388 rfl 4 rfl ?_
                      refine A_aload_n dX11_rule_389 rfl 4 rfl ?_
                      refine A_geti fl_X11_144 lk_84 rfl dX11_rule_390 ?_
                      try simp (disch := omega) only [up_k, up_j, up_s, incS_s, incS_k, incS_j, thC_keep, ad11, ad21, ad31, ad41, ad12, nc0, nc1, nc2, nc3, nc4, nc5, nc6, nc7, nc8, nc9, nc10, nc11, nc12, nc13, nc14, nc15, nc16, nc17, nc18, nc19, nc20, nc21, fnC_inc, fnC_up, dsZ_j, dsZ_8, dsT_k, loM_j, meT_j, knR_inc, knR_up]
                      refine A_Va1 mv_X11_276 lk_84 rfl rfl (c_numT (by repeat (first | exact hT | refine Tk.i (by decide) ?_ | refine Tk.tC ?_ _ | refine Tk.x (by decide) ?_ | refine Tk.o (by decide) ?_)) _ ⟨by omega, by omega⟩) (Nat.le_of_ble_eq_true rfl) (by omega) (by omega) dX11_rule_393 ?_
                      try simp (disch := omega) only [incS_s, incS_k, incS_j, thC_keep, ad11, ad21, ad31, ad41, ad12, nc0, nc1, nc2, nc3, nc4, nc5, nc6, nc7, nc8, nc9, nc10, nc11, nc12, nc13, nc14, nc15, nc16, nc17, nc18, nc19, nc20, nc21, fnC_inc, fnC_up, dsZ_j, dsZ_8, dsT_k, loM_j, meT_j, knR_inc, knR_up]
                      refine J_iast lk_107 (by first | exact i32_eq (by assumption) | exact i32_eq ⟨by omega, by omega⟩ | with_reducible exact i32_i32 _ | with_reducible exact i32_eq (b2i_inr _) | rfl) (by omega) (by omega) (by decide) dX11_rule_396 ?_
                      refine A_inc fl_X11_144 lk_84 rfl 4 rfl dX11_rule_397 dX11_rule_398 dX11_rule_399 dX11_rule_402 dX11_rule_403 dX11_rule_404 ?_
                      refine A_inc fl_X11_298 lk_84 rfl 4 rfl dX11_rule_407 dX11_rule_408 dX11_rule_409 dX11_rule_412 dX11_rule_413 dX11_rule_414 ?_
                      refine A_iconst dX11_rule_417 ?_
                      refine A_wid (k2 := 2) (n2 := 8) (by decide) (by decide) ?_
                      exact A_iret dX11_rule_418 (by simp only [ruM]; rw [if_neg h6, if_neg n7, if_neg n8, if_pos hk]; simp only [ruB]; rw [if_pos (of_decide_eq_true h151), if_neg (by decide : ¬ (2 : Int) = 3), if_pos h227, if_neg (by decide : ¬ (2 : Int) = 0)]; unfold ruE; rw [if_pos (of_decide_eq_true h370)] <;> (try rfl)) (by simp only [ruM]; rw [if_neg h6, if_neg n7, if_neg n8, if_pos hk]; simp only [ruB]; rw [if_pos (of_decide_eq_true h151), if_neg (by decide : ¬ (2 : Int) = 3), if_pos h227, if_neg (by decide : ¬ (2 : Int) = 0)]; unfold ruE; rw [if_pos (of_decide_eq_true h370)] <;> (try rfl))
                    · refine A_aload_n dX11_rule_373 rfl 4 rfl ?_
                      refine A_iconst dX11_rule_374 ?_
                      refine A_aload_n dX11_rule_375 rfl 4 rfl ?_
                      refine A_geti fl_X11_144 lk_84 rfl dX11_rule_376 ?_
                      try simp (disch := omega) only [up_k, up_j, up_s, incS_s, incS_k, incS_j, thC_keep, ad11, ad21, ad31, ad41, ad12, nc0, nc1, nc2, nc3, nc4, nc5, nc6, nc7, nc8, nc9, nc10, nc11, nc12, nc13, nc14, nc15, nc16, nc17, nc18, nc19, nc20, nc21, fnC_inc, fnC_up, dsZ_j, dsZ_8, dsT_k, loM_j, meT_j, knR_inc, knR_up]
                      refine A_Va2 mv_X11_261 lk_84 rfl rfl (c_wrongT (by repeat (first | exact hT | refine Tk.i (by decide) ?_ | refine Tk.tC ?_ _ | refine Tk.x (by decide) ?_ | refine Tk.o (by decide) ?_)) _ _ ⟨by omega, by omega⟩) (Nat.le_of_ble_eq_true rfl) (by omega) (by omega) dX11_rule_379 ?_
                      try simp (disch := omega) only [incS_s, incS_k, incS_j, thC_keep, ad11, ad21, ad31, ad41, ad12, nc0, nc1, nc2, nc3, nc4, nc5, nc6, nc7, nc8, nc9, nc10, nc11, nc12, nc13, nc14, nc15, nc16, nc17, nc18, nc19, nc20, nc21, fnC_inc, fnC_up, dsZ_j, dsZ_8, dsT_k, loM_j, meT_j, knR_inc, knR_up]
                      refine A_wid (k2 := 2) (n2 := 8) (by decide) (by decide) ?_
                      exact A_iret dX11_rule_382 (by simp only [ruM]; rw [if_neg h6, if_neg n7, if_neg n8, if_pos hk]; simp only [ruB]; rw [if_pos (of_decide_eq_true h151), if_neg (by decide : ¬ (2 : Int) = 3), if_pos h227, if_neg (by decide : ¬ (2 : Int) = 0)]; unfold ruE; rw [if_neg (of_decide_eq_false h370)] <;> (try rfl)) (by simp only [ruM]; rw [if_neg h6, if_neg n7, if_neg n8, if_pos hk]; simp only [ruB]; rw [if_pos (of_decide_eq_true h151), if_neg (by decide : ¬ (2 : Int) = 3), if_pos h227, if_neg (by decide : ¬ (2 : Int) = 0)]; unfold ruE; rw [if_neg (of_decide_eq_false h370)] <;> (try rfl))
                  · exact absurd h326 (by decide)
                    --end
              · refine A_aload_n dX11_rule_230 rfl 3 rfl ?_
                refine A_iconst dX11_rule_231 ?_
                refine A_aload_n dX11_rule_232 rfl 3 rfl ?_
                refine A_geti fl_X11_144 lk_84 rfl dX11_rule_233 ?_
                try simp (disch := omega) only [up_k, up_j, up_s, incS_s, incS_k, incS_j, thC_keep, ad11, ad21, ad31, ad41, ad12, nc0, nc1, nc2, nc3, nc4, nc5, nc6, nc7, nc8, nc9, nc10, nc11, nc12, nc13, nc14, nc15, nc16, nc17, nc18, nc19, nc20, nc21, fnC_inc, fnC_up, dsZ_j, dsZ_8, dsT_k, loM_j, meT_j, knR_inc, knR_up]
                refine A_Va2 mv_X11_261 lk_84 rfl rfl (c_wrongT (by repeat (first | exact hT | refine Tk.i (by decide) ?_ | refine Tk.tC ?_ _ | refine Tk.x (by decide) ?_ | refine Tk.o (by decide) ?_)) _ _ ⟨by omega, by omega⟩) (Nat.le_of_ble_eq_true rfl) (by omega) (by omega) dX11_rule_236 ?_
                try simp (disch := omega) only [incS_s, incS_k, incS_j, thC_keep, ad11, ad21, ad31, ad41, ad12, nc0, nc1, nc2, nc3, nc4, nc5, nc6, nc7, nc8, nc9, nc10, nc11, nc12, nc13, nc14, nc15, nc16, nc17, nc18, nc19, nc20, nc21, fnC_inc, fnC_up, dsZ_j, dsZ_8, dsT_k, loM_j, meT_j, knR_inc, knR_up]
                refine A_wid (k2 := 2) (n2 := 8) (by decide) (by decide) ?_
                exact A_iret dX11_rule_239 (by simp only [ruM]; rw [if_neg h6, if_neg n7, if_neg n8, if_pos hk]; simp only [ruB]; rw [if_pos (of_decide_eq_true h151), if_neg (by decide : ¬ (2 : Int) = 3), if_neg (by rw [h227]; decide)] <;> (try rfl)) (by simp only [ruM]; rw [if_neg h6, if_neg n7, if_neg n8, if_pos hk]; simp only [ruB]; rw [if_pos (of_decide_eq_true h151), if_neg (by decide : ¬ (2 : Int) = 3), if_neg (by rw [h227]; decide)] <;> (try rfl))
          · refine A_aload_n dX11_rule_154 rfl 3 rfl ?_
            refine A_iconst dX11_rule_155 ?_
            refine A_aload_n dX11_rule_156 rfl 3 rfl ?_
            refine A_geti fl_X11_144 lk_84 rfl dX11_rule_157 ?_
            try simp (disch := omega) only [up_k, up_j, up_s, incS_s, incS_k, incS_j, thC_keep, ad11, ad21, ad31, ad41, ad12, nc0, nc1, nc2, nc3, nc4, nc5, nc6, nc7, nc8, nc9, nc10, nc11, nc12, nc13, nc14, nc15, nc16, nc17, nc18, nc19, nc20, nc21, fnC_inc, fnC_up, dsZ_j, dsZ_8, dsT_k, loM_j, meT_j, knR_inc, knR_up]
            refine A_Va2 mv_X11_261 lk_84 rfl rfl (c_wrongT (by repeat (first | exact hT | refine Tk.i (by decide) ?_ | refine Tk.tC ?_ _ | refine Tk.x (by decide) ?_ | refine Tk.o (by decide) ?_)) _ _ ⟨by omega, by omega⟩) (Nat.le_of_ble_eq_true rfl) (by omega) (by omega) dX11_rule_160 ?_
            try simp (disch := omega) only [incS_s, incS_k, incS_j, thC_keep, ad11, ad21, ad31, ad41, ad12, nc0, nc1, nc2, nc3, nc4, nc5, nc6, nc7, nc8, nc9, nc10, nc11, nc12, nc13, nc14, nc15, nc16, nc17, nc18, nc19, nc20, nc21, fnC_inc, fnC_up, dsZ_j, dsZ_8, dsT_k, loM_j, meT_j, knR_inc, knR_up]
            refine A_wid (k2 := 2) (n2 := 8) (by decide) (by decide) ?_
            exact A_iret dX11_rule_163 (by simp only [ruM]; rw [if_neg h6, if_neg n7, if_neg n8, if_pos hk]; simp only [ruB]; rw [if_neg (of_decide_eq_false h151)] <;> (try rfl)) (by simp only [ruM]; rw [if_neg h6, if_neg n7, if_neg n8, if_pos hk]; simp only [ruB]; rw [if_neg (of_decide_eq_false h151)] <;> (try rfl))
      · have hk := of_decide_eq_true h45
        obtain ⟨g1, g2, g3, g4⟩ : K (σ 84 8 + 1) = 23 ∧ K (σ 84 8 + 2) = 22 ∧ K (σ 84 8 + 3) = 10 ∧ K (σ 84 8 + 4) = 23 := by
          rcases hg.1 with z | z | z
          · omega
          · omega
          · exact ⟨z.2.1, z.2.2.1, z.2.2.2.1, z.2.2.2.2.1⟩
        have ha1 := hT.in g1 (by decide)
        have ha2 := hT.in g2 (by decide)
        have hN1 := hT.2.2.2.1 _ g1
        have ha3 := hT.in g3 (by decide)
        have ha4 := hT.in g4 (by decide)
        have hN4 := hT.2.2.2.1 _ g4
        refine A_iconst dX11_rule_48 ?_
        refine A_goto (tgt := 66) dX11_rule_49 (by decide) ?_
        refine J_iast lk_105 (by first | exact i32_eq (by assumption) | exact i32_eq ⟨by omega, by omega⟩ | with_reducible exact i32_i32 _ | with_reducible exact i32_eq (b2i_inr _) | rfl) (by omega) (by omega) (by decide) dX11_rule_66 ?_
        refine A_inc fl_X11_144 lk_84 rfl 1 rfl dX11_rule_67 dX11_rule_68 dX11_rule_69 dX11_rule_72 dX11_rule_73 dX11_rule_74 ?_
        refine A_iconst dX11_rule_77 ?_
        refine A_newaT (N := 4) (by decide) (by decide) (by decide) (by omega) dX11_rule_78 (fun a78 c78 hKA78 => ?_)
        refine A_dup dX11_rule_80 rfl ?_
        refine A_iconst dX11_rule_81 ?_
        refine A_iconst dX11_rule_82 ?_
        refine A_iastT (q := 0) rfl hKA78 (by first | exact i32_eq (by assumption) | exact i32_eq ⟨by omega, by omega⟩ | with_reducible exact i32_i32 _ | with_reducible exact i32_eq (b2i_inr _) | rfl) (by omega) (by omega) (by decide) dX11_rule_83 ?_
        refine A_dup dX11_rule_84 rfl ?_
        refine A_iconst dX11_rule_85 ?_
        refine A_iconst dX11_rule_86 ?_
        refine A_iastT (q := 0) rfl hKA78 (by first | exact i32_eq (by assumption) | exact i32_eq ⟨by omega, by omega⟩ | with_reducible exact i32_i32 _ | with_reducible exact i32_eq (b2i_inr _) | rfl) (by omega) (by omega) (by decide) dX11_rule_87 ?_
        refine A_dup dX11_rule_88 rfl ?_
        refine A_iconst dX11_rule_89 ?_
        refine A_iconst dX11_rule_90 ?_
        refine A_iastT (q := 0) rfl hKA78 (by first | exact i32_eq (by assumption) | exact i32_eq ⟨by omega, by omega⟩ | with_reducible exact i32_i32 _ | with_reducible exact i32_eq (b2i_inr _) | rfl) (by omega) (by omega) (by decide) dX11_rule_91 ?_
        refine A_dup dX11_rule_92 rfl ?_
        refine A_iconst dX11_rule_93 ?_
        refine A_iconst dX11_rule_94 ?_
        refine A_iastT (q := 0) rfl hKA78 (by first | exact i32_eq (by assumption) | exact i32_eq ⟨by omega, by omega⟩ | with_reducible exact i32_i32 _ | with_reducible exact i32_eq (b2i_inr _) | rfl) (by omega) (by omega) (by decide) dX11_rule_95 ?_
        refine A_astore_n (lv2 := [(3, _), (2, _), (0, _), (1, _)]) dX11_rule_96 rfl (by decide) rfl ?_
        refine A_iconst dX11_rule_97 ?_
        refine A_newaT (N := 4) (by decide) (by decide) (by decide) (by omega) dX11_rule_98 (fun a98 c98 hKA98 => ?_)
        refine A_dup dX11_rule_100 rfl ?_
        refine A_iconst dX11_rule_101 ?_
        refine A_bipush dX11_rule_102 (by decide +kernel) ?_
        refine A_iastT (q := 1) rfl hKA98 (by first | exact i32_eq (by assumption) | exact i32_eq ⟨by omega, by omega⟩ | with_reducible exact i32_i32 _ | with_reducible exact i32_eq (b2i_inr _) | rfl) (by omega) (by omega) (by decide) dX11_rule_104 ?_
        refine A_dup dX11_rule_105 rfl ?_
        refine A_iconst dX11_rule_106 ?_
        refine A_bipush dX11_rule_107 (by decide +kernel) ?_
        refine A_iastT (q := 1) rfl hKA98 (by first | exact i32_eq (by assumption) | exact i32_eq ⟨by omega, by omega⟩ | with_reducible exact i32_i32 _ | with_reducible exact i32_eq (b2i_inr _) | rfl) (by omega) (by omega) (by decide) dX11_rule_109 ?_
        refine A_dup dX11_rule_110 rfl ?_
        refine A_iconst dX11_rule_111 ?_
        refine A_bipush dX11_rule_112 (by decide +kernel) ?_
        refine A_iastT (q := 1) rfl hKA98 (by first | exact i32_eq (by assumption) | exact i32_eq ⟨by omega, by omega⟩ | with_reducible exact i32_i32 _ | with_reducible exact i32_eq (b2i_inr _) | rfl) (by omega) (by omega) (by decide) dX11_rule_114 ?_
        refine A_dup dX11_rule_115 rfl ?_
        refine A_iconst dX11_rule_116 ?_
        refine A_sipush dX11_rule_117 (by decide +kernel) ?_
        refine A_iastT (q := 1) rfl hKA98 (by first | exact i32_eq (by assumption) | exact i32_eq ⟨by omega, by omega⟩ | with_reducible exact i32_i32 _ | with_reducible exact i32_eq (b2i_inr _) | rfl) (by omega) (by omega) (by decide) dX11_rule_120 ?_
        refine A_astore (lv2 := [(4, _), (3, _), (2, _), (0, _), (1, _)]) dX11_rule_121 (by decide) rfl ?_
        refine A_aload_n dX11_rule_123 rfl 3 rfl ?_
        refine A_aload_n dX11_rule_124 rfl 3 rfl ?_
        refine A_geti fl_X11_144 lk_84 rfl dX11_rule_125 ?_
        try simp (disch := omega) only [up_k, up_j, up_s, incS_s, incS_k, incS_j, thC_keep, ad11, ad21, ad31, ad41, ad12, nc0, nc1, nc2, nc3, nc4, nc5, nc6, nc7, nc8, nc9, nc10, nc11, nc12, nc13, nc14, nc15, nc16, nc17, nc18, nc19, nc20, nc21, fnC_inc, fnC_up, dsZ_j, dsZ_8, dsT_k, loM_j, meT_j, knR_inc, knR_up]
        refine A_Va1 mv_X11_276 lk_84 rfl rfl (c_numT (by repeat (first | exact hT | refine Tk.i (by decide) ?_ | refine Tk.tC ?_ _ | refine Tk.x (by decide) ?_ | refine Tk.o (by decide) ?_)) _ ⟨by omega, by omega⟩) (Nat.le_of_ble_eq_true rfl) (by omega) (by omega) dX11_rule_128 ?_
        try simp (disch := omega) only [incS_s, incS_k, incS_j, thC_keep, ad11, ad21, ad31, ad41, ad12, nc0, nc1, nc2, nc3, nc4, nc5, nc6, nc7, nc8, nc9, nc10, nc11, nc12, nc13, nc14, nc15, nc16, nc17, nc18, nc19, nc20, nc21, fnC_inc, fnC_up, dsZ_j, dsZ_8, dsT_k, loM_j, meT_j, knR_inc, knR_up]
        refine A_aload_n dX11_rule_131 rfl 1 rfl ?_
        refine A_aload_n dX11_rule_132 rfl 3 rfl ?_
        refine A_getr fl_X11_75 lk_84 rfl dX11_rule_133 ?_
        refine A_iload_n dX11_rule_136 rfl 2 rfl ?_
        refine J_iald lk_105 (by first | exact i32_eq (by assumption) | exact i32_eq ⟨by omega, by omega⟩ | with_reducible exact i32_i32 _ | with_reducible exact i32_eq (b2i_inr _) | rfl) (by omega) (by omega) (by decide) dX11_rule_137 ?_
        try simp (disch := omega) only [up_k, up_j, up_s, incS_s, incS_k, incS_j, thC_keep, ad11, ad21, ad31, ad41, ad12, nc0, nc1, nc2, nc3, nc4, nc5, nc6, nc7, nc8, nc9, nc10, nc11, nc12, nc13, nc14, nc15, nc16, nc17, nc18, nc19, nc20, nc21, fnC_inc, fnC_up, dsZ_j, dsZ_8, dsT_k, loM_j, meT_j, knR_inc, knR_up]
        refine A_ialdT (q := 0) rfl hKA78 (by first | exact i32_eq (by assumption) | exact i32_eq ⟨by omega, by omega⟩ | with_reducible exact i32_i32 _ | with_reducible exact i32_eq (b2i_inr _) | rfl) (by omega) (by omega) (by decide) dX11_rule_138 ?_
        show AW _ _ _ _ _ _ _ _ _ _ _ (.int (I32 (0)) :: _) _
        refine A_aload dX11_rule_139 0 rfl ?_
        refine A_aload_n dX11_rule_141 rfl 3 rfl ?_
        refine A_getr fl_X11_75 lk_84 rfl dX11_rule_142 ?_
        refine A_iload_n dX11_rule_145 rfl 2 rfl ?_
        refine J_iald lk_105 (by first | exact i32_eq (by assumption) | exact i32_eq ⟨by omega, by omega⟩ | with_reducible exact i32_i32 _ | with_reducible exact i32_eq (b2i_inr _) | rfl) (by omega) (by omega) (by decide) dX11_rule_146 ?_
        try simp (disch := omega) only [up_k, up_j, up_s, incS_s, incS_k, incS_j, thC_keep, ad11, ad21, ad31, ad41, ad12, nc0, nc1, nc2, nc3, nc4, nc5, nc6, nc7, nc8, nc9, nc10, nc11, nc12, nc13, nc14, nc15, nc16, nc17, nc18, nc19, nc20, nc21, fnC_inc, fnC_up, dsZ_j, dsZ_8, dsT_k, loM_j, meT_j, knR_inc, knR_up]
        refine A_ialdT (q := 1) rfl hKA98 (by first | exact i32_eq (by assumption) | exact i32_eq ⟨by omega, by omega⟩ | with_reducible exact i32_i32 _ | with_reducible exact i32_eq (b2i_inr _) | rfl) (by omega) (by omega) (by decide) dX11_rule_147 ?_
        show AW _ _ _ _ _ _ _ _ _ _ _ (.int (I32 (9)) :: _) _
        refine A_Sa3 ms_X11_106 (c_X11_isIn _ _ _ _) (Nat.le_of_ble_eq_true rfl) (by omega) (by omega) dX11_rule_148 ?_
        try simp (disch := omega) only [incS_s, incS_k, incS_j, thC_keep, ad11, ad21, ad31, ad41, ad12, nc0, nc1, nc2, nc3, nc4, nc5, nc6, nc7, nc8, nc9, nc10, nc11, nc12, nc13, nc14, nc15, nc16, nc17, nc18, nc19, nc20, nc21, fnC_inc, fnC_up, dsZ_j, dsZ_8, dsT_k, loM_j, meT_j, knR_inc, knR_up]
        rw [inR_n (by omega) (by decide) (by decide)]
        refine A_ifne_b (tgt := 164) dX11_rule_151 (by decide) (fun h151 => ?_) (fun h151 => ?_)
        · refine A_aload_n dX11_rule_164 rfl 3 rfl ?_
          refine A_getr fl_X11_78 lk_84 rfl dX11_rule_165 ?_
          refine A_iload_n dX11_rule_168 rfl 2 rfl ?_
          refine A_aload_n dX11_rule_169 rfl 3 rfl ?_
          refine A_aload_n dX11_rule_170 rfl 3 rfl ?_
          refine A_geti fl_X11_144 lk_84 rfl dX11_rule_171 ?_
          try simp (disch := omega) only [up_k, up_j, up_s, incS_s, incS_k, incS_j, thC_keep, ad11, ad21, ad31, ad41, ad12, nc0, nc1, nc2, nc3, nc4, nc5, nc6, nc7, nc8, nc9, nc10, nc11, nc12, nc13, nc14, nc15, nc16, nc17, nc18, nc19, nc20, nc21, fnC_inc, fnC_up, dsZ_j, dsZ_8, dsT_k, loM_j, meT_j, knR_inc, knR_up]
          refine A_Va1 mv_X11_276 lk_84 rfl rfl (c_numT (by repeat (first | exact hT | refine Tk.i (by decide) ?_ | refine Tk.tC ?_ _ | refine Tk.x (by decide) ?_ | refine Tk.o (by decide) ?_)) _ ⟨by omega, by omega⟩) (Nat.le_of_ble_eq_true rfl) (by omega) (by omega) dX11_rule_174 ?_
          try simp (disch := omega) only [incS_s, incS_k, incS_j, thC_keep, ad11, ad21, ad31, ad41, ad12, nc0, nc1, nc2, nc3, nc4, nc5, nc6, nc7, nc8, nc9, nc10, nc11, nc12, nc13, nc14, nc15, nc16, nc17, nc18, nc19, nc20, nc21, fnC_inc, fnC_up, dsZ_j, dsZ_8, dsT_k, loM_j, meT_j, knR_inc, knR_up]
          refine J_iast lk_106 (by first | exact i32_eq (by assumption) | exact i32_eq ⟨by omega, by omega⟩ | with_reducible exact i32_i32 _ | with_reducible exact i32_eq (b2i_inr _) | rfl) (by omega) (by omega) (by decide) dX11_rule_177 ?_
          refine A_aload_n dX11_rule_178 rfl 3 rfl ?_
          refine A_getr fl_X11_81 lk_84 rfl dX11_rule_179 ?_
          refine A_iload_n dX11_rule_182 rfl 2 rfl ?_
          refine A_iconst dX11_rule_183 ?_
          refine J_iast lk_107 (by first | exact i32_eq (by assumption) | exact i32_eq ⟨by omega, by omega⟩ | with_reducible exact i32_i32 _ | with_reducible exact i32_eq (b2i_inr _) | rfl) (by omega) (by omega) (by decide) dX11_rule_184 ?_
          refine A_aload_n dX11_rule_185 rfl 3 rfl ?_
          refine A_getr fl_X11_84 lk_84 rfl dX11_rule_186 ?_
          refine A_iload_n dX11_rule_189 rfl 2 rfl ?_
          refine A_iconst dX11_rule_190 ?_
          refine J_iast lk_108 (by first | exact i32_eq (by assumption) | exact i32_eq ⟨by omega, by omega⟩ | with_reducible exact i32_i32 _ | with_reducible exact i32_eq (b2i_inr _) | rfl) (by omega) (by omega) (by decide) dX11_rule_191 ?_
          refine A_aload_n dX11_rule_192 rfl 3 rfl ?_
          refine A_getr fl_X11_87 lk_84 rfl dX11_rule_193 ?_
          refine A_iload_n dX11_rule_196 rfl 2 rfl ?_
          refine A_iconst dX11_rule_197 ?_
          refine J_iast lk_109 (by first | exact i32_eq (by assumption) | exact i32_eq ⟨by omega, by omega⟩ | with_reducible exact i32_i32 _ | with_reducible exact i32_eq (b2i_inr _) | rfl) (by omega) (by omega) (by decide) dX11_rule_198 ?_
          refine A_inc fl_X11_144 lk_84 rfl 3 rfl dX11_rule_199 dX11_rule_200 dX11_rule_201 dX11_rule_204 dX11_rule_205 dX11_rule_206 ?_
          refine A_aload_n dX11_rule_209 rfl 3 rfl ?_
          refine A_getr fl_X11_75 lk_84 rfl dX11_rule_210 ?_
          refine A_iload_n dX11_rule_213 rfl 2 rfl ?_
          refine J_iald lk_105 (by first | exact i32_eq (by assumption) | exact i32_eq ⟨by omega, by omega⟩ | with_reducible exact i32_i32 _ | with_reducible exact i32_eq (b2i_inr _) | rfl) (by omega) (by omega) (by decide) dX11_rule_214 ?_
          try simp (disch := omega) only [up_k, up_j, up_s, incS_s, incS_k, incS_j, thC_keep, ad11, ad21, ad31, ad41, ad12, nc0, nc1, nc2, nc3, nc4, nc5, nc6, nc7, nc8, nc9, nc10, nc11, nc12, nc13, nc14, nc15, nc16, nc17, nc18, nc19, nc20, nc21, fnC_inc, fnC_up, dsZ_j, dsZ_8, dsT_k, loM_j, meT_j, knR_inc, knR_up]
          refine A_iconst dX11_rule_215 ?_
          refine J_icmp_eq (tgt := 300) dX11_rule_216 (by decide) (by first | exact i32_eq (by assumption) | exact i32_eq ⟨by omega, by omega⟩ | with_reducible exact i32_i32 _ | with_reducible exact i32_eq (b2i_inr _) | rfl) (by first | exact i32_eq (by assumption) | exact i32_eq ⟨by omega, by omega⟩ | with_reducible exact i32_i32 _ | with_reducible exact i32_eq (b2i_inr _) | rfl) (fun h216 => ?_) (fun h216 => ?_)
          · exact absurd h216 (by decide)
            --end
          · refine A_aload_n dX11_rule_219 rfl 3 rfl ?_
            refine A_aload_n dX11_rule_220 rfl 3 rfl ?_
            refine A_geti fl_X11_144 lk_84 rfl dX11_rule_221 ?_
            try simp (disch := omega) only [up_k, up_j, up_s, incS_s, incS_k, incS_j, thC_keep, ad11, ad21, ad31, ad41, ad12, nc0, nc1, nc2, nc3, nc4, nc5, nc6, nc7, nc8, nc9, nc10, nc11, nc12, nc13, nc14, nc15, nc16, nc17, nc18, nc19, nc20, nc21, fnC_inc, fnC_up, dsZ_j, dsZ_8, dsT_k, loM_j, meT_j, knR_inc, knR_up]
            refine A_Va1 mv_X11_295 lk_84 rfl rfl (c_X11_isKnown _ (by repeat (first | exact hT | refine Tk.i (by decide) ?_ | refine Tk.tC ?_ _ | refine Tk.x (by decide) ?_ | refine Tk.o (by decide) ?_)) (by simp (disch := omega) only [up_k, up_j, up_s, incS_s, incS_k, incS_j, thC_keep, ad11, ad21, ad31, ad41, ad12, nc0, nc1, nc2, nc3, nc4, nc5, nc6, nc7, nc8, nc9, nc10, nc11, nc12, nc13, nc14, nc15, nc16, nc17, nc18, nc19, nc20, nc21, fnC_inc, fnC_up, dsZ_j, dsZ_8, dsT_k, loM_j, meT_j, knR_inc, knR_up]; exact hC2) (by simp (disch := omega) only [up_k, up_j, up_s, incS_s, incS_k, incS_j, thC_keep, ad11, ad21, ad31, ad41, ad12, nc0, nc1, nc2, nc3, nc4, nc5, nc6, nc7, nc8, nc9, nc10, nc11, nc12, nc13, nc14, nc15, nc16, nc17, nc18, nc19, nc20, nc21, fnC_inc, fnC_up, dsZ_j, dsZ_8, dsT_k, loM_j, meT_j, knR_inc, knR_up]; exact hC6) ⟨by omega, by omega⟩) (Nat.le_of_ble_eq_true rfl) (by omega) (by omega) dX11_rule_224 ?_
            try simp (disch := omega) only [incS_s, incS_k, incS_j, thC_keep, ad11, ad21, ad31, ad41, ad12, nc0, nc1, nc2, nc3, nc4, nc5, nc6, nc7, nc8, nc9, nc10, nc11, nc12, nc13, nc14, nc15, nc16, nc17, nc18, nc19, nc20, nc21, fnC_inc, fnC_up, dsZ_j, dsZ_8, dsT_k, loM_j, meT_j, knR_inc, knR_up]
            refine A_ifne_b (tgt := 240) dX11_rule_227 (by decide) (fun h227 => ?_) (fun h227 => ?_)
            · refine A_aload_n dX11_rule_240 rfl 3 rfl ?_
              refine A_getr fl_X11_84 lk_84 rfl dX11_rule_241 ?_
              refine A_iload_n dX11_rule_244 rfl 2 rfl ?_
              refine A_aload_n dX11_rule_245 rfl 3 rfl ?_
              refine A_getr fl_X11_39 lk_84 rfl dX11_rule_246 ?_
              refine A_aload_n dX11_rule_249 rfl 3 rfl ?_
              refine A_geti fl_X11_247 lk_84 rfl dX11_rule_250 ?_
              try simp (disch := omega) only [up_k, up_j, up_s, incS_s, incS_k, incS_j, thC_keep, ad11, ad21, ad31, ad41, ad12, nc0, nc1, nc2, nc3, nc4, nc5, nc6, nc7, nc8, nc9, nc10, nc11, nc12, nc13, nc14, nc15, nc16, nc17, nc18, nc19, nc20, nc21, fnC_inc, fnC_up, dsZ_j, dsZ_8, dsT_k, loM_j, meT_j, knR_inc, knR_up]
              refine A_aload_n dX11_rule_253 rfl 3 rfl ?_
              refine A_aload_n dX11_rule_254 rfl 3 rfl ?_
              refine A_geti fl_X11_144 lk_84 rfl dX11_rule_255 ?_
              try simp (disch := omega) only [up_k, up_j, up_s, incS_s, incS_k, incS_j, thC_keep, ad11, ad21, ad31, ad41, ad12, nc0, nc1, nc2, nc3, nc4, nc5, nc6, nc7, nc8, nc9, nc10, nc11, nc12, nc13, nc14, nc15, nc16, nc17, nc18, nc19, nc20, nc21, fnC_inc, fnC_up, dsZ_j, dsZ_8, dsT_k, loM_j, meT_j, knR_inc, knR_up]
              refine A_Va1 mv_X11_265 lk_84 rfl rfl (c_nameT (by repeat (first | exact hT | refine Tk.i (by decide) ?_ | refine Tk.tC ?_ _ | refine Tk.x (by decide) ?_ | refine Tk.o (by decide) ?_)) _ ⟨by omega, by omega⟩) (Nat.le_of_ble_eq_true rfl) (by omega) (by omega) dX11_rule_258 ?_
              try simp (disch := omega) only [incS_s, incS_k, incS_j, thC_keep, ad11, ad21, ad31, ad41, ad12, nc0, nc1, nc2, nc3, nc4, nc5, nc6, nc7, nc8, nc9, nc10, nc11, nc12, nc13, nc14, nc15, nc16, nc17, nc18, nc19, nc20, nc21, fnC_inc, fnC_up, dsZ_j, dsZ_8, dsT_k, loM_j, meT_j, knR_inc, knR_up]
              refine A_Sa3 ms_X11_243 (c_X11_find_93 _ (σ 84 15) _ hC2) (Nat.le_of_ble_eq_true rfl) (by omega) (by omega) dX11_rule_261 ?_
              try simp (disch := omega) only [incS_s, incS_k, incS_j, thC_keep, ad11, ad21, ad31, ad41, ad12, nc0, nc1, nc2, nc3, nc4, nc5, nc6, nc7, nc8, nc9, nc10, nc11, nc12, nc13, nc14, nc15, nc16, nc17, nc18, nc19, nc20, nc21, fnC_inc, fnC_up, dsZ_j, dsZ_8, dsT_k, loM_j, meT_j, knR_inc, knR_up]
              refine J_iast lk_108 (by first | exact i32_eq (by assumption) | exact i32_eq ⟨by omega, by omega⟩ | with_reducible exact i32_i32 _ | with_reducible exact i32_eq (b2i_inr _) | rfl) (by omega) (by omega) (by decide) dX11_rule_264 ?_
              refine A_aload_n dX11_rule_265 rfl 3 rfl ?_
              refine A_getr fl_X11_87 lk_84 rfl dX11_rule_266 ?_
              refine A_iload_n dX11_rule_269 rfl 2 rfl ?_
              refine A_aload_n dX11_rule_270 rfl 3 rfl ?_
              refine A_getr fl_X11_90 lk_84 rfl dX11_rule_271 ?_
              refine A_aload_n dX11_rule_274 rfl 3 rfl ?_
              refine A_geti fl_X11_269 lk_84 rfl dX11_rule_275 ?_
              try simp (disch := omega) only [up_k, up_j, up_s, incS_s, incS_k, incS_j, thC_keep, ad11, ad21, ad31, ad41, ad12, nc0, nc1, nc2, nc3, nc4, nc5, nc6, nc7, nc8, nc9, nc10, nc11, nc12, nc13, nc14, nc15, nc16, nc17, nc18, nc19, nc20, nc21, fnC_inc, fnC_up, dsZ_j, dsZ_8, dsT_k, loM_j, meT_j, knR_inc, knR_up]
              refine A_aload_n dX11_rule_278 rfl 3 rfl ?_
              refine A_aload_n dX11_rule_279 rfl 3 rfl ?_
              refine A_geti fl_X11_144 lk_84 rfl dX11_rule_280 ?_
              try simp (disch := omega) only [up_k, up_j, up_s, incS_s, incS_k, incS_j, thC_keep, ad11, ad21, ad31, ad41, ad12, nc0, nc1, nc2, nc3, nc4, nc5, nc6, nc7, nc8, nc9, nc10, nc11, nc12, nc13, nc14, nc15, nc16, nc17, nc18, nc19, nc20, nc21, fnC_inc, fnC_up, dsZ_j, dsZ_8, dsT_k, loM_j, meT_j, knR_inc, knR_up]
              refine A_Va1 mv_X11_265 lk_84 rfl rfl (c_nameT (by repeat (first | exact hT | refine Tk.i (by decide) ?_ | refine Tk.tC ?_ _ | refine Tk.x (by decide) ?_ | refine Tk.o (by decide) ?_)) _ ⟨by omega, by omega⟩) (Nat.le_of_ble_eq_true rfl) (by omega) (by omega) dX11_rule_283 ?_
              try simp (disch := omega) only [incS_s, incS_k, incS_j, thC_keep, ad11, ad21, ad31, ad41, ad12, nc0, nc1, nc2, nc3, nc4, nc5, nc6, nc7, nc8, nc9, nc10, nc11, nc12, nc13, nc14, nc15, nc16, nc17, nc18, nc19, nc20, nc21, fnC_inc, fnC_up, dsZ_j, dsZ_8, dsT_k, loM_j, meT_j, knR_inc, knR_up]
              refine A_Sa3 ms_X11_243 (c_X11_find_110 _ (σ 84 36) _ hC6) (Nat.le_of_ble_eq_true rfl) (by omega) (by omega) dX11_rule_286 ?_
              try simp (disch := omega) only [incS_s, incS_k, incS_j, thC_keep, ad11, ad21, ad31, ad41, ad12, nc0, nc1, nc2, nc3, nc4, nc5, nc6, nc7, nc8, nc9, nc10, nc11, nc12, nc13, nc14, nc15, nc16, nc17, nc18, nc19, nc20, nc21, fnC_inc, fnC_up, dsZ_j, dsZ_8, dsT_k, loM_j, meT_j, knR_inc, knR_up]
              refine J_iast lk_109 (by first | exact i32_eq (by assumption) | exact i32_eq ⟨by omega, by omega⟩ | with_reducible exact i32_i32 _ | with_reducible exact i32_eq (b2i_inr _) | rfl) (by omega) (by omega) (by decide) dX11_rule_289 ?_
              refine A_inc fl_X11_144 lk_84 rfl 3 rfl dX11_rule_290 dX11_rule_291 dX11_rule_292 dX11_rule_295 dX11_rule_296 dX11_rule_297 ?_
              refine A_aload_n dX11_rule_300 rfl 3 rfl ?_
              refine A_getr fl_X11_75 lk_84 rfl dX11_rule_301 ?_
              refine A_iload_n dX11_rule_304 rfl 2 rfl ?_
              refine J_iald lk_105 (by first | exact i32_eq (by assumption) | exact i32_eq ⟨by omega, by omega⟩ | with_reducible exact i32_i32 _ | with_reducible exact i32_eq (b2i_inr _) | rfl) (by omega) (by omega) (by decide) dX11_rule_305 ?_
              try simp (disch := omega) only [up_k, up_j, up_s, incS_s, incS_k, incS_j, thC_keep, ad11, ad21, ad31, ad41, ad12, nc0, nc1, nc2, nc3, nc4, nc5, nc6, nc7, nc8, nc9, nc10, nc11, nc12, nc13, nc14, nc15, nc16, nc17, nc18, nc19, nc20, nc21, fnC_inc, fnC_up, dsZ_j, dsZ_8, dsT_k, loM_j, meT_j, knR_inc, knR_up]
              refine J_if_eq (tgt := 407) dX11_rule_306 (by decide) (by first | exact i32_eq (by assumption) | exact i32_eq ⟨by omega, by omega⟩ | with_reducible exact i32_i32 _ | with_reducible exact i32_eq (b2i_inr _) | rfl) (fun h306 => ?_) (fun h306 => ?_)
              · exact absurd h306 (by decide)
                --end
              · refine A_inc fl_X11_144 lk_84 rfl 3 rfl dX11_rule_309 dX11_rule_310 dX11_rule_311 dX11_rule_314 dX11_rule_315 dX11_rule_316 ?_
                refine A_aload_n dX11_rule_319 rfl 3 rfl ?_
                refine A_getr fl_X11_75 lk_84 rfl dX11_rule_320 ?_
                refine A_iload_n dX11_rule_323 rfl 2 rfl ?_
                refine J_iald lk_105 (by first | exact i32_eq (by assumption) | exact i32_eq ⟨by omega, by omega⟩ | with_reducible exact i32_i32 _ | with_reducible exact i32_eq (b2i_inr _) | rfl) (by omega) (by omega) (by decide) dX11_rule_324 ?_
                try simp (disch := omega) only [up_k, up_j, up_s, incS_s, incS_k, incS_j, thC_keep, ad11, ad21, ad31, ad41, ad12, nc0, nc1, nc2, nc3, nc4, nc5, nc6, nc7, nc8, nc9, nc10, nc11, nc12, nc13, nc14, nc15, nc16, nc17, nc18, nc19, nc20, nc21, fnC_inc, fnC_up, dsZ_j, dsZ_8, dsT_k, loM_j, meT_j, knR_inc, knR_up]
                refine A_iconst dX11_rule_325 ?_
                refine J_icmp_ne (tgt := 352) dX11_rule_326 (by decide) (by first | exact i32_eq (by assumption) | exact i32_eq ⟨by omega, by omega⟩ | with_reducible exact i32_i32 _ | with_reducible exact i32_eq (b2i_inr _) | rfl) (by first | exact i32_eq (by assumption) | exact i32_eq ⟨by omega, by omega⟩ | with_reducible exact i32_i32 _ | with_reducible exact i32_eq (b2i_inr _) | rfl) (fun h326 => ?_) (fun h326 => ?_)
                · refine A_aload_n dX11_rule_352 rfl 3 rfl ?_
                  refine A_aload_n dX11_rule_353 rfl 3 rfl ?_
                  refine A_geti fl_X11_144 lk_84 rfl dX11_rule_354 ?_
                  try simp (disch := omega) only [up_k, up_j, up_s, incS_s, incS_k, incS_j, thC_keep, ad11, ad21, ad31, ad41, ad12, nc0, nc1, nc2, nc3, nc4, nc5, nc6, nc7, nc8, nc9, nc10, nc11, nc12, nc13, nc14, nc15, nc16, nc17, nc18, nc19, nc20, nc21, fnC_inc, fnC_up, dsZ_j, dsZ_8, dsT_k, loM_j, meT_j, knR_inc, knR_up]
                  refine A_Va1 mv_X11_276 lk_84 rfl rfl (c_numT (by repeat (first | exact hT | refine Tk.i (by decide) ?_ | refine Tk.tC ?_ _ | refine Tk.x (by decide) ?_ | refine Tk.o (by decide) ?_)) _ ⟨by omega, by omega⟩) (Nat.le_of_ble_eq_true rfl) (by omega) (by omega) dX11_rule_357 ?_
                  try simp (disch := omega) only [incS_s, incS_k, incS_j, thC_keep, ad11, ad21, ad31, ad41, ad12, nc0, nc1, nc2, nc3, nc4, nc5, nc6, nc7, nc8, nc9, nc10, nc11, nc12, nc13, nc14, nc15, nc16, nc17, nc18, nc19, nc20, nc21, fnC_inc, fnC_up, dsZ_j, dsZ_8, dsT_k, loM_j, meT_j, knR_inc, knR_up]
                  refine A_iconst dX11_rule_360 ?_
                  refine A_bipush dX11_rule_361 (by decide +kernel) ?_
                  refine A_Sa3 ms_X11_106 (c_X11_isIn _ _ _ _) (Nat.le_of_ble_eq_true rfl) (by omega) (by omega) dX11_rule_363 ?_
                  try simp (disch := omega) only [incS_s, incS_k, incS_j, thC_keep, ad11, ad21, ad31, ad41, ad12, nc0, nc1, nc2, nc3, nc4, nc5, nc6, nc7, nc8, nc9, nc10, nc11, nc12, nc13, nc14, nc15, nc16, nc17, nc18, nc19, nc20, nc21, fnC_inc, fnC_up, dsZ_j, dsZ_8, dsT_k, loM_j, meT_j, knR_inc, knR_up]
                  rw [inR_n (by omega) (by decide) (by decide)]
                  refine A_istore (lv2 := [(5, _), (4, _), (3, _), (2, _), (0, _), (1, _)]) dX11_rule_366 (by decide) rfl ?_
                  refine A_iload dX11_rule_368 0 rfl ?_
                  refine A_ifne_b (tgt := 383) dX11_rule_370 (by decide) (fun h370 => ?_) (fun h370 => ?_)
                  · refine A_aload_n dX11_rule_383 rfl 4 rfl ?_
                    refine A_getr fl_X11_81 lk_84 rfl dX11_rule_384 ?_
                    refine A_iload_n dX11_rule_387 rfl 3 rfl ?_
                    refine A_aload_n dX11_rule_388 rfl 4 rfl ?_
                    refine A_aload_n dX11_rule_389 rfl 4 rfl ?_
                    refine A_geti fl_X11_144 lk_84 rfl dX11_rule_390 ?_
                    try simp (disch := omega) only [up_k, up_j, up_s, incS_s, incS_k, incS_j, thC_keep, ad11, ad21, ad31, ad41, ad12, nc0, nc1, nc2, nc3, nc4, nc5, nc6, nc7, nc8, nc9, nc10, nc11, nc12, nc13, nc14, nc15, nc16, nc17, nc18, nc19, nc20, nc21, fnC_inc, fnC_up, dsZ_j, dsZ_8, dsT_k, loM_j, meT_j, knR_inc, knR_up]
                    refine A_Va1 mv_X11_276 lk_84 rfl rfl (c_numT (by repeat (first | exact hT | refine Tk.i (by decide) ?_ | refine Tk.tC ?_ _ | refine Tk.x (by decide) ?_ | refine Tk.o (by decide) ?_)) _ ⟨by omega, by omega⟩) (Nat.le_of_ble_eq_true rfl) (by omega) (by omega) dX11_rule_393 ?_
                    try simp (disch := omega) only [incS_s, incS_k, incS_j, thC_keep, ad11, ad21, ad31, ad41, ad12, nc0, nc1, nc2, nc3, nc4, nc5, nc6, nc7, nc8, nc9, nc10, nc11, nc12, nc13, nc14, nc15, nc16, nc17, nc18, nc19, nc20, nc21, fnC_inc, fnC_up, dsZ_j, dsZ_8, dsT_k, loM_j, meT_j, knR_inc, knR_up]
                    refine J_iast lk_107 (by first | exact i32_eq (by assumption) | exact i32_eq ⟨by omega, by omega⟩ | with_reducible exact i32_i32 _ | with_reducible exact i32_eq (b2i_inr _) | rfl) (by omega) (by omega) (by decide) dX11_rule_396 ?_
                    refine A_inc fl_X11_144 lk_84 rfl 4 rfl dX11_rule_397 dX11_rule_398 dX11_rule_399 dX11_rule_402 dX11_rule_403 dX11_rule_404 ?_
                    refine A_inc fl_X11_298 lk_84 rfl 4 rfl dX11_rule_407 dX11_rule_408 dX11_rule_409 dX11_rule_412 dX11_rule_413 dX11_rule_414 ?_
                    refine A_iconst dX11_rule_417 ?_
                    refine A_wid (k2 := 2) (n2 := 8) (by decide) (by decide) ?_
                    exact A_iret dX11_rule_418 (by simp only [ruM]; rw [if_neg h6, if_neg n7, if_pos hk]; simp only [ruB]; rw [if_pos (of_decide_eq_true h151), if_neg (by decide : ¬ (1 : Int) = 3), if_pos h227, if_neg (by decide : ¬ (1 : Int) = 0)]; unfold ruE; rw [if_pos (of_decide_eq_true h370)] <;> (try rfl)) (by simp only [ruM]; rw [if_neg h6, if_neg n7, if_pos hk]; simp only [ruB]; rw [if_pos (of_decide_eq_true h151), if_neg (by decide : ¬ (1 : Int) = 3), if_pos h227, if_neg (by decide : ¬ (1 : Int) = 0)]; unfold ruE; rw [if_pos (of_decide_eq_true h370)] <;> (try rfl))
                  · refine A_aload_n dX11_rule_373 rfl 4 rfl ?_
                    refine A_iconst dX11_rule_374 ?_
                    refine A_aload_n dX11_rule_375 rfl 4 rfl ?_
                    refine A_geti fl_X11_144 lk_84 rfl dX11_rule_376 ?_
                    try simp (disch := omega) only [up_k, up_j, up_s, incS_s, incS_k, incS_j, thC_keep, ad11, ad21, ad31, ad41, ad12, nc0, nc1, nc2, nc3, nc4, nc5, nc6, nc7, nc8, nc9, nc10, nc11, nc12, nc13, nc14, nc15, nc16, nc17, nc18, nc19, nc20, nc21, fnC_inc, fnC_up, dsZ_j, dsZ_8, dsT_k, loM_j, meT_j, knR_inc, knR_up]
                    refine A_Va2 mv_X11_261 lk_84 rfl rfl (c_wrongT (by repeat (first | exact hT | refine Tk.i (by decide) ?_ | refine Tk.tC ?_ _ | refine Tk.x (by decide) ?_ | refine Tk.o (by decide) ?_)) _ _ ⟨by omega, by omega⟩) (Nat.le_of_ble_eq_true rfl) (by omega) (by omega) dX11_rule_379 ?_
                    try simp (disch := omega) only [incS_s, incS_k, incS_j, thC_keep, ad11, ad21, ad31, ad41, ad12, nc0, nc1, nc2, nc3, nc4, nc5, nc6, nc7, nc8, nc9, nc10, nc11, nc12, nc13, nc14, nc15, nc16, nc17, nc18, nc19, nc20, nc21, fnC_inc, fnC_up, dsZ_j, dsZ_8, dsT_k, loM_j, meT_j, knR_inc, knR_up]
                    refine A_wid (k2 := 2) (n2 := 8) (by decide) (by decide) ?_
                    exact A_iret dX11_rule_382 (by simp only [ruM]; rw [if_neg h6, if_neg n7, if_pos hk]; simp only [ruB]; rw [if_pos (of_decide_eq_true h151), if_neg (by decide : ¬ (1 : Int) = 3), if_pos h227, if_neg (by decide : ¬ (1 : Int) = 0)]; unfold ruE; rw [if_neg (of_decide_eq_false h370)] <;> (try rfl)) (by simp only [ruM]; rw [if_neg h6, if_neg n7, if_pos hk]; simp only [ruB]; rw [if_pos (of_decide_eq_true h151), if_neg (by decide : ¬ (1 : Int) = 3), if_pos h227, if_neg (by decide : ¬ (1 : Int) = 0)]; unfold ruE; rw [if_neg (of_decide_eq_false h370)] <;> (try rfl))
                · exact absurd h326 (by decide)
                  --end
            · refine A_aload_n dX11_rule_230 rfl 3 rfl ?_
              refine A_iconst dX11_rule_231 ?_
              refine A_aload_n dX11_rule_232 rfl 3 rfl ?_
              refine A_geti fl_X11_144 lk_84 rfl dX11_rule_233 ?_
              try simp (disch := omega) only [up_k, up_j, up_s, incS_s, incS_k, incS_j, thC_keep, ad11, ad21, ad31, ad41, ad12, nc0, nc1, nc2, nc3, nc4, nc5, nc6, nc7, nc8, nc9, nc10, nc11, nc12, nc13, nc14, nc15, nc16, nc17, nc18, nc19, nc20, nc21, fnC_inc, fnC_up, dsZ_j, dsZ_8, dsT_k, loM_j, meT_j, knR_inc, knR_up]
              refine A_Va2 mv_X11_261 lk_84 rfl rfl (c_wrongT (by repeat (first | exact hT | refine Tk.i (by decide) ?_ | refine Tk.tC ?_ _ | refine Tk.x (by decide) ?_ | refine Tk.o (by decide) ?_)) _ _ ⟨by omega, by omega⟩) (Nat.le_of_ble_eq_true rfl) (by omega) (by omega) dX11_rule_236 ?_
              try simp (disch := omega) only [incS_s, incS_k, incS_j, thC_keep, ad11, ad21, ad31, ad41, ad12, nc0, nc1, nc2, nc3, nc4, nc5, nc6, nc7, nc8, nc9, nc10, nc11, nc12, nc13, nc14, nc15, nc16, nc17, nc18, nc19, nc20, nc21, fnC_inc, fnC_up, dsZ_j, dsZ_8, dsT_k, loM_j, meT_j, knR_inc, knR_up]
              refine A_wid (k2 := 2) (n2 := 8) (by decide) (by decide) ?_
              exact A_iret dX11_rule_239 (by simp only [ruM]; rw [if_neg h6, if_neg n7, if_pos hk]; simp only [ruB]; rw [if_pos (of_decide_eq_true h151), if_neg (by decide : ¬ (1 : Int) = 3), if_neg (by rw [h227]; decide)] <;> (try rfl)) (by simp only [ruM]; rw [if_neg h6, if_neg n7, if_pos hk]; simp only [ruB]; rw [if_pos (of_decide_eq_true h151), if_neg (by decide : ¬ (1 : Int) = 3), if_neg (by rw [h227]; decide)] <;> (try rfl))
        · refine A_aload_n dX11_rule_154 rfl 3 rfl ?_
          refine A_iconst dX11_rule_155 ?_
          refine A_aload_n dX11_rule_156 rfl 3 rfl ?_
          refine A_geti fl_X11_144 lk_84 rfl dX11_rule_157 ?_
          try simp (disch := omega) only [up_k, up_j, up_s, incS_s, incS_k, incS_j, thC_keep, ad11, ad21, ad31, ad41, ad12, nc0, nc1, nc2, nc3, nc4, nc5, nc6, nc7, nc8, nc9, nc10, nc11, nc12, nc13, nc14, nc15, nc16, nc17, nc18, nc19, nc20, nc21, fnC_inc, fnC_up, dsZ_j, dsZ_8, dsT_k, loM_j, meT_j, knR_inc, knR_up]
          refine A_Va2 mv_X11_261 lk_84 rfl rfl (c_wrongT (by repeat (first | exact hT | refine Tk.i (by decide) ?_ | refine Tk.tC ?_ _ | refine Tk.x (by decide) ?_ | refine Tk.o (by decide) ?_)) _ _ ⟨by omega, by omega⟩) (Nat.le_of_ble_eq_true rfl) (by omega) (by omega) dX11_rule_160 ?_
          try simp (disch := omega) only [incS_s, incS_k, incS_j, thC_keep, ad11, ad21, ad31, ad41, ad12, nc0, nc1, nc2, nc3, nc4, nc5, nc6, nc7, nc8, nc9, nc10, nc11, nc12, nc13, nc14, nc15, nc16, nc17, nc18, nc19, nc20, nc21, fnC_inc, fnC_up, dsZ_j, dsZ_8, dsT_k, loM_j, meT_j, knR_inc, knR_up]
          refine A_wid (k2 := 2) (n2 := 8) (by decide) (by decide) ?_
          exact A_iret dX11_rule_163 (by simp only [ruM]; rw [if_neg h6, if_neg n7, if_pos hk]; simp only [ruB]; rw [if_neg (of_decide_eq_false h151)] <;> (try rfl)) (by simp only [ruM]; rw [if_neg h6, if_neg n7, if_pos hk]; simp only [ruB]; rw [if_neg (of_decide_eq_false h151)] <;> (try rfl))
    · have hk := of_decide_eq_true h32
      obtain ⟨g1, g2⟩ : K (σ 84 8 + 1) = 23 ∧ K (σ 84 8 + 2) = 22 := by
        rcases hg.1 with z | z | z
        · exact ⟨z.2.1, z.2.2.1⟩
        · omega
        · omega
      have ha1 := hT.in g1 (by decide)
      have ha2 := hT.in g2 (by decide)
      have hN1 := hT.2.2.2.1 _ g1
      refine A_iconst dX11_rule_35 ?_
      refine A_goto (tgt := 66) dX11_rule_36 (by decide) ?_
      refine J_iast lk_105 (by first | exact i32_eq (by assumption) | exact i32_eq ⟨by omega, by omega⟩ | with_reducible exact i32_i32 _ | with_reducible exact i32_eq (b2i_inr _) | rfl) (by omega) (by omega) (by decide) dX11_rule_66 ?_
      refine A_inc fl_X11_144 lk_84 rfl 1 rfl dX11_rule_67 dX11_rule_68 dX11_rule_69 dX11_rule_72 dX11_rule_73 dX11_rule_74 ?_
      refine A_iconst dX11_rule_77 ?_
      refine A_newaT (N := 4) (by decide) (by decide) (by decide) (by omega) dX11_rule_78 (fun a78 c78 hKA78 => ?_)
      refine A_dup dX11_rule_80 rfl ?_
      refine A_iconst dX11_rule_81 ?_
      refine A_iconst dX11_rule_82 ?_
      refine A_iastT (q := 0) rfl hKA78 (by first | exact i32_eq (by assumption) | exact i32_eq ⟨by omega, by omega⟩ | with_reducible exact i32_i32 _ | with_reducible exact i32_eq (b2i_inr _) | rfl) (by omega) (by omega) (by decide) dX11_rule_83 ?_
      refine A_dup dX11_rule_84 rfl ?_
      refine A_iconst dX11_rule_85 ?_
      refine A_iconst dX11_rule_86 ?_
      refine A_iastT (q := 0) rfl hKA78 (by first | exact i32_eq (by assumption) | exact i32_eq ⟨by omega, by omega⟩ | with_reducible exact i32_i32 _ | with_reducible exact i32_eq (b2i_inr _) | rfl) (by omega) (by omega) (by decide) dX11_rule_87 ?_
      refine A_dup dX11_rule_88 rfl ?_
      refine A_iconst dX11_rule_89 ?_
      refine A_iconst dX11_rule_90 ?_
      refine A_iastT (q := 0) rfl hKA78 (by first | exact i32_eq (by assumption) | exact i32_eq ⟨by omega, by omega⟩ | with_reducible exact i32_i32 _ | with_reducible exact i32_eq (b2i_inr _) | rfl) (by omega) (by omega) (by decide) dX11_rule_91 ?_
      refine A_dup dX11_rule_92 rfl ?_
      refine A_iconst dX11_rule_93 ?_
      refine A_iconst dX11_rule_94 ?_
      refine A_iastT (q := 0) rfl hKA78 (by first | exact i32_eq (by assumption) | exact i32_eq ⟨by omega, by omega⟩ | with_reducible exact i32_i32 _ | with_reducible exact i32_eq (b2i_inr _) | rfl) (by omega) (by omega) (by decide) dX11_rule_95 ?_
      refine A_astore_n (lv2 := [(3, _), (2, _), (0, _), (1, _)]) dX11_rule_96 rfl (by decide) rfl ?_
      refine A_iconst dX11_rule_97 ?_
      refine A_newaT (N := 4) (by decide) (by decide) (by decide) (by omega) dX11_rule_98 (fun a98 c98 hKA98 => ?_)
      refine A_dup dX11_rule_100 rfl ?_
      refine A_iconst dX11_rule_101 ?_
      refine A_bipush dX11_rule_102 (by decide +kernel) ?_
      refine A_iastT (q := 1) rfl hKA98 (by first | exact i32_eq (by assumption) | exact i32_eq ⟨by omega, by omega⟩ | with_reducible exact i32_i32 _ | with_reducible exact i32_eq (b2i_inr _) | rfl) (by omega) (by omega) (by decide) dX11_rule_104 ?_
      refine A_dup dX11_rule_105 rfl ?_
      refine A_iconst dX11_rule_106 ?_
      refine A_bipush dX11_rule_107 (by decide +kernel) ?_
      refine A_iastT (q := 1) rfl hKA98 (by first | exact i32_eq (by assumption) | exact i32_eq ⟨by omega, by omega⟩ | with_reducible exact i32_i32 _ | with_reducible exact i32_eq (b2i_inr _) | rfl) (by omega) (by omega) (by decide) dX11_rule_109 ?_
      refine A_dup dX11_rule_110 rfl ?_
      refine A_iconst dX11_rule_111 ?_
      refine A_bipush dX11_rule_112 (by decide +kernel) ?_
      refine A_iastT (q := 1) rfl hKA98 (by first | exact i32_eq (by assumption) | exact i32_eq ⟨by omega, by omega⟩ | with_reducible exact i32_i32 _ | with_reducible exact i32_eq (b2i_inr _) | rfl) (by omega) (by omega) (by decide) dX11_rule_114 ?_
      refine A_dup dX11_rule_115 rfl ?_
      refine A_iconst dX11_rule_116 ?_
      refine A_sipush dX11_rule_117 (by decide +kernel) ?_
      refine A_iastT (q := 1) rfl hKA98 (by first | exact i32_eq (by assumption) | exact i32_eq ⟨by omega, by omega⟩ | with_reducible exact i32_i32 _ | with_reducible exact i32_eq (b2i_inr _) | rfl) (by omega) (by omega) (by decide) dX11_rule_120 ?_
      refine A_astore (lv2 := [(4, _), (3, _), (2, _), (0, _), (1, _)]) dX11_rule_121 (by decide) rfl ?_
      refine A_aload_n dX11_rule_123 rfl 3 rfl ?_
      refine A_aload_n dX11_rule_124 rfl 3 rfl ?_
      refine A_geti fl_X11_144 lk_84 rfl dX11_rule_125 ?_
      try simp (disch := omega) only [up_k, up_j, up_s, incS_s, incS_k, incS_j, thC_keep, ad11, ad21, ad31, ad41, ad12, nc0, nc1, nc2, nc3, nc4, nc5, nc6, nc7, nc8, nc9, nc10, nc11, nc12, nc13, nc14, nc15, nc16, nc17, nc18, nc19, nc20, nc21, fnC_inc, fnC_up, dsZ_j, dsZ_8, dsT_k, loM_j, meT_j, knR_inc, knR_up]
      refine A_Va1 mv_X11_276 lk_84 rfl rfl (c_numT (by repeat (first | exact hT | refine Tk.i (by decide) ?_ | refine Tk.tC ?_ _ | refine Tk.x (by decide) ?_ | refine Tk.o (by decide) ?_)) _ ⟨by omega, by omega⟩) (Nat.le_of_ble_eq_true rfl) (by omega) (by omega) dX11_rule_128 ?_
      try simp (disch := omega) only [incS_s, incS_k, incS_j, thC_keep, ad11, ad21, ad31, ad41, ad12, nc0, nc1, nc2, nc3, nc4, nc5, nc6, nc7, nc8, nc9, nc10, nc11, nc12, nc13, nc14, nc15, nc16, nc17, nc18, nc19, nc20, nc21, fnC_inc, fnC_up, dsZ_j, dsZ_8, dsT_k, loM_j, meT_j, knR_inc, knR_up]
      refine A_aload_n dX11_rule_131 rfl 1 rfl ?_
      refine A_aload_n dX11_rule_132 rfl 3 rfl ?_
      refine A_getr fl_X11_75 lk_84 rfl dX11_rule_133 ?_
      refine A_iload_n dX11_rule_136 rfl 2 rfl ?_
      refine J_iald lk_105 (by first | exact i32_eq (by assumption) | exact i32_eq ⟨by omega, by omega⟩ | with_reducible exact i32_i32 _ | with_reducible exact i32_eq (b2i_inr _) | rfl) (by omega) (by omega) (by decide) dX11_rule_137 ?_
      try simp (disch := omega) only [up_k, up_j, up_s, incS_s, incS_k, incS_j, thC_keep, ad11, ad21, ad31, ad41, ad12, nc0, nc1, nc2, nc3, nc4, nc5, nc6, nc7, nc8, nc9, nc10, nc11, nc12, nc13, nc14, nc15, nc16, nc17, nc18, nc19, nc20, nc21, fnC_inc, fnC_up, dsZ_j, dsZ_8, dsT_k, loM_j, meT_j, knR_inc, knR_up]
      refine A_ialdT (q := 0) rfl hKA78 (by first | exact i32_eq (by assumption) | exact i32_eq ⟨by omega, by omega⟩ | with_reducible exact i32_i32 _ | with_reducible exact i32_eq (b2i_inr _) | rfl) (by omega) (by omega) (by decide) dX11_rule_138 ?_
      show AW _ _ _ _ _ _ _ _ _ _ _ (.int (I32 (1)) :: _) _
      refine A_aload dX11_rule_139 0 rfl ?_
      refine A_aload_n dX11_rule_141 rfl 3 rfl ?_
      refine A_getr fl_X11_75 lk_84 rfl dX11_rule_142 ?_
      refine A_iload_n dX11_rule_145 rfl 2 rfl ?_
      refine J_iald lk_105 (by first | exact i32_eq (by assumption) | exact i32_eq ⟨by omega, by omega⟩ | with_reducible exact i32_i32 _ | with_reducible exact i32_eq (b2i_inr _) | rfl) (by omega) (by omega) (by decide) dX11_rule_146 ?_
      try simp (disch := omega) only [up_k, up_j, up_s, incS_s, incS_k, incS_j, thC_keep, ad11, ad21, ad31, ad41, ad12, nc0, nc1, nc2, nc3, nc4, nc5, nc6, nc7, nc8, nc9, nc10, nc11, nc12, nc13, nc14, nc15, nc16, nc17, nc18, nc19, nc20, nc21, fnC_inc, fnC_up, dsZ_j, dsZ_8, dsT_k, loM_j, meT_j, knR_inc, knR_up]
      refine A_ialdT (q := 1) rfl hKA98 (by first | exact i32_eq (by assumption) | exact i32_eq ⟨by omega, by omega⟩ | with_reducible exact i32_i32 _ | with_reducible exact i32_eq (b2i_inr _) | rfl) (by omega) (by omega) (by decide) dX11_rule_147 ?_
      show AW _ _ _ _ _ _ _ _ _ _ _ (.int (I32 (9)) :: _) _
      refine A_Sa3 ms_X11_106 (c_X11_isIn _ _ _ _) (Nat.le_of_ble_eq_true rfl) (by omega) (by omega) dX11_rule_148 ?_
      try simp (disch := omega) only [incS_s, incS_k, incS_j, thC_keep, ad11, ad21, ad31, ad41, ad12, nc0, nc1, nc2, nc3, nc4, nc5, nc6, nc7, nc8, nc9, nc10, nc11, nc12, nc13, nc14, nc15, nc16, nc17, nc18, nc19, nc20, nc21, fnC_inc, fnC_up, dsZ_j, dsZ_8, dsT_k, loM_j, meT_j, knR_inc, knR_up]
      rw [inR_n (by omega) (by decide) (by decide)]
      refine A_ifne_b (tgt := 164) dX11_rule_151 (by decide) (fun h151 => ?_) (fun h151 => ?_)
      · refine A_aload_n dX11_rule_164 rfl 3 rfl ?_
        refine A_getr fl_X11_78 lk_84 rfl dX11_rule_165 ?_
        refine A_iload_n dX11_rule_168 rfl 2 rfl ?_
        refine A_aload_n dX11_rule_169 rfl 3 rfl ?_
        refine A_aload_n dX11_rule_170 rfl 3 rfl ?_
        refine A_geti fl_X11_144 lk_84 rfl dX11_rule_171 ?_
        try simp (disch := omega) only [up_k, up_j, up_s, incS_s, incS_k, incS_j, thC_keep, ad11, ad21, ad31, ad41, ad12, nc0, nc1, nc2, nc3, nc4, nc5, nc6, nc7, nc8, nc9, nc10, nc11, nc12, nc13, nc14, nc15, nc16, nc17, nc18, nc19, nc20, nc21, fnC_inc, fnC_up, dsZ_j, dsZ_8, dsT_k, loM_j, meT_j, knR_inc, knR_up]
        refine A_Va1 mv_X11_276 lk_84 rfl rfl (c_numT (by repeat (first | exact hT | refine Tk.i (by decide) ?_ | refine Tk.tC ?_ _ | refine Tk.x (by decide) ?_ | refine Tk.o (by decide) ?_)) _ ⟨by omega, by omega⟩) (Nat.le_of_ble_eq_true rfl) (by omega) (by omega) dX11_rule_174 ?_
        try simp (disch := omega) only [incS_s, incS_k, incS_j, thC_keep, ad11, ad21, ad31, ad41, ad12, nc0, nc1, nc2, nc3, nc4, nc5, nc6, nc7, nc8, nc9, nc10, nc11, nc12, nc13, nc14, nc15, nc16, nc17, nc18, nc19, nc20, nc21, fnC_inc, fnC_up, dsZ_j, dsZ_8, dsT_k, loM_j, meT_j, knR_inc, knR_up]
        refine J_iast lk_106 (by first | exact i32_eq (by assumption) | exact i32_eq ⟨by omega, by omega⟩ | with_reducible exact i32_i32 _ | with_reducible exact i32_eq (b2i_inr _) | rfl) (by omega) (by omega) (by decide) dX11_rule_177 ?_
        refine A_aload_n dX11_rule_178 rfl 3 rfl ?_
        refine A_getr fl_X11_81 lk_84 rfl dX11_rule_179 ?_
        refine A_iload_n dX11_rule_182 rfl 2 rfl ?_
        refine A_iconst dX11_rule_183 ?_
        refine J_iast lk_107 (by first | exact i32_eq (by assumption) | exact i32_eq ⟨by omega, by omega⟩ | with_reducible exact i32_i32 _ | with_reducible exact i32_eq (b2i_inr _) | rfl) (by omega) (by omega) (by decide) dX11_rule_184 ?_
        refine A_aload_n dX11_rule_185 rfl 3 rfl ?_
        refine A_getr fl_X11_84 lk_84 rfl dX11_rule_186 ?_
        refine A_iload_n dX11_rule_189 rfl 2 rfl ?_
        refine A_iconst dX11_rule_190 ?_
        refine J_iast lk_108 (by first | exact i32_eq (by assumption) | exact i32_eq ⟨by omega, by omega⟩ | with_reducible exact i32_i32 _ | with_reducible exact i32_eq (b2i_inr _) | rfl) (by omega) (by omega) (by decide) dX11_rule_191 ?_
        refine A_aload_n dX11_rule_192 rfl 3 rfl ?_
        refine A_getr fl_X11_87 lk_84 rfl dX11_rule_193 ?_
        refine A_iload_n dX11_rule_196 rfl 2 rfl ?_
        refine A_iconst dX11_rule_197 ?_
        refine J_iast lk_109 (by first | exact i32_eq (by assumption) | exact i32_eq ⟨by omega, by omega⟩ | with_reducible exact i32_i32 _ | with_reducible exact i32_eq (b2i_inr _) | rfl) (by omega) (by omega) (by decide) dX11_rule_198 ?_
        refine A_inc fl_X11_144 lk_84 rfl 3 rfl dX11_rule_199 dX11_rule_200 dX11_rule_201 dX11_rule_204 dX11_rule_205 dX11_rule_206 ?_
        refine A_aload_n dX11_rule_209 rfl 3 rfl ?_
        refine A_getr fl_X11_75 lk_84 rfl dX11_rule_210 ?_
        refine A_iload_n dX11_rule_213 rfl 2 rfl ?_
        refine J_iald lk_105 (by first | exact i32_eq (by assumption) | exact i32_eq ⟨by omega, by omega⟩ | with_reducible exact i32_i32 _ | with_reducible exact i32_eq (b2i_inr _) | rfl) (by omega) (by omega) (by decide) dX11_rule_214 ?_
        try simp (disch := omega) only [up_k, up_j, up_s, incS_s, incS_k, incS_j, thC_keep, ad11, ad21, ad31, ad41, ad12, nc0, nc1, nc2, nc3, nc4, nc5, nc6, nc7, nc8, nc9, nc10, nc11, nc12, nc13, nc14, nc15, nc16, nc17, nc18, nc19, nc20, nc21, fnC_inc, fnC_up, dsZ_j, dsZ_8, dsT_k, loM_j, meT_j, knR_inc, knR_up]
        refine A_iconst dX11_rule_215 ?_
        refine J_icmp_eq (tgt := 300) dX11_rule_216 (by decide) (by first | exact i32_eq (by assumption) | exact i32_eq ⟨by omega, by omega⟩ | with_reducible exact i32_i32 _ | with_reducible exact i32_eq (b2i_inr _) | rfl) (by first | exact i32_eq (by assumption) | exact i32_eq ⟨by omega, by omega⟩ | with_reducible exact i32_i32 _ | with_reducible exact i32_eq (b2i_inr _) | rfl) (fun h216 => ?_) (fun h216 => ?_)
        · exact absurd h216 (by decide)
          --end
        · refine A_aload_n dX11_rule_219 rfl 3 rfl ?_
          refine A_aload_n dX11_rule_220 rfl 3 rfl ?_
          refine A_geti fl_X11_144 lk_84 rfl dX11_rule_221 ?_
          try simp (disch := omega) only [up_k, up_j, up_s, incS_s, incS_k, incS_j, thC_keep, ad11, ad21, ad31, ad41, ad12, nc0, nc1, nc2, nc3, nc4, nc5, nc6, nc7, nc8, nc9, nc10, nc11, nc12, nc13, nc14, nc15, nc16, nc17, nc18, nc19, nc20, nc21, fnC_inc, fnC_up, dsZ_j, dsZ_8, dsT_k, loM_j, meT_j, knR_inc, knR_up]
          refine A_Va1 mv_X11_295 lk_84 rfl rfl (c_X11_isKnown _ (by repeat (first | exact hT | refine Tk.i (by decide) ?_ | refine Tk.tC ?_ _ | refine Tk.x (by decide) ?_ | refine Tk.o (by decide) ?_)) (by simp (disch := omega) only [up_k, up_j, up_s, incS_s, incS_k, incS_j, thC_keep, ad11, ad21, ad31, ad41, ad12, nc0, nc1, nc2, nc3, nc4, nc5, nc6, nc7, nc8, nc9, nc10, nc11, nc12, nc13, nc14, nc15, nc16, nc17, nc18, nc19, nc20, nc21, fnC_inc, fnC_up, dsZ_j, dsZ_8, dsT_k, loM_j, meT_j, knR_inc, knR_up]; exact hC2) (by simp (disch := omega) only [up_k, up_j, up_s, incS_s, incS_k, incS_j, thC_keep, ad11, ad21, ad31, ad41, ad12, nc0, nc1, nc2, nc3, nc4, nc5, nc6, nc7, nc8, nc9, nc10, nc11, nc12, nc13, nc14, nc15, nc16, nc17, nc18, nc19, nc20, nc21, fnC_inc, fnC_up, dsZ_j, dsZ_8, dsT_k, loM_j, meT_j, knR_inc, knR_up]; exact hC6) ⟨by omega, by omega⟩) (Nat.le_of_ble_eq_true rfl) (by omega) (by omega) dX11_rule_224 ?_
          try simp (disch := omega) only [incS_s, incS_k, incS_j, thC_keep, ad11, ad21, ad31, ad41, ad12, nc0, nc1, nc2, nc3, nc4, nc5, nc6, nc7, nc8, nc9, nc10, nc11, nc12, nc13, nc14, nc15, nc16, nc17, nc18, nc19, nc20, nc21, fnC_inc, fnC_up, dsZ_j, dsZ_8, dsT_k, loM_j, meT_j, knR_inc, knR_up]
          refine A_ifne_b (tgt := 240) dX11_rule_227 (by decide) (fun h227 => ?_) (fun h227 => ?_)
          · refine A_aload_n dX11_rule_240 rfl 3 rfl ?_
            refine A_getr fl_X11_84 lk_84 rfl dX11_rule_241 ?_
            refine A_iload_n dX11_rule_244 rfl 2 rfl ?_
            refine A_aload_n dX11_rule_245 rfl 3 rfl ?_
            refine A_getr fl_X11_39 lk_84 rfl dX11_rule_246 ?_
            refine A_aload_n dX11_rule_249 rfl 3 rfl ?_
            refine A_geti fl_X11_247 lk_84 rfl dX11_rule_250 ?_
            try simp (disch := omega) only [up_k, up_j, up_s, incS_s, incS_k, incS_j, thC_keep, ad11, ad21, ad31, ad41, ad12, nc0, nc1, nc2, nc3, nc4, nc5, nc6, nc7, nc8, nc9, nc10, nc11, nc12, nc13, nc14, nc15, nc16, nc17, nc18, nc19, nc20, nc21, fnC_inc, fnC_up, dsZ_j, dsZ_8, dsT_k, loM_j, meT_j, knR_inc, knR_up]
            refine A_aload_n dX11_rule_253 rfl 3 rfl ?_
            refine A_aload_n dX11_rule_254 rfl 3 rfl ?_
            refine A_geti fl_X11_144 lk_84 rfl dX11_rule_255 ?_
            try simp (disch := omega) only [up_k, up_j, up_s, incS_s, incS_k, incS_j, thC_keep, ad11, ad21, ad31, ad41, ad12, nc0, nc1, nc2, nc3, nc4, nc5, nc6, nc7, nc8, nc9, nc10, nc11, nc12, nc13, nc14, nc15, nc16, nc17, nc18, nc19, nc20, nc21, fnC_inc, fnC_up, dsZ_j, dsZ_8, dsT_k, loM_j, meT_j, knR_inc, knR_up]
            refine A_Va1 mv_X11_265 lk_84 rfl rfl (c_nameT (by repeat (first | exact hT | refine Tk.i (by decide) ?_ | refine Tk.tC ?_ _ | refine Tk.x (by decide) ?_ | refine Tk.o (by decide) ?_)) _ ⟨by omega, by omega⟩) (Nat.le_of_ble_eq_true rfl) (by omega) (by omega) dX11_rule_258 ?_
            try simp (disch := omega) only [incS_s, incS_k, incS_j, thC_keep, ad11, ad21, ad31, ad41, ad12, nc0, nc1, nc2, nc3, nc4, nc5, nc6, nc7, nc8, nc9, nc10, nc11, nc12, nc13, nc14, nc15, nc16, nc17, nc18, nc19, nc20, nc21, fnC_inc, fnC_up, dsZ_j, dsZ_8, dsT_k, loM_j, meT_j, knR_inc, knR_up]
            refine A_Sa3 ms_X11_243 (c_X11_find_93 _ (σ 84 15) _ hC2) (Nat.le_of_ble_eq_true rfl) (by omega) (by omega) dX11_rule_261 ?_
            try simp (disch := omega) only [incS_s, incS_k, incS_j, thC_keep, ad11, ad21, ad31, ad41, ad12, nc0, nc1, nc2, nc3, nc4, nc5, nc6, nc7, nc8, nc9, nc10, nc11, nc12, nc13, nc14, nc15, nc16, nc17, nc18, nc19, nc20, nc21, fnC_inc, fnC_up, dsZ_j, dsZ_8, dsT_k, loM_j, meT_j, knR_inc, knR_up]
            refine J_iast lk_108 (by first | exact i32_eq (by assumption) | exact i32_eq ⟨by omega, by omega⟩ | with_reducible exact i32_i32 _ | with_reducible exact i32_eq (b2i_inr _) | rfl) (by omega) (by omega) (by decide) dX11_rule_264 ?_
            refine A_aload_n dX11_rule_265 rfl 3 rfl ?_
            refine A_getr fl_X11_87 lk_84 rfl dX11_rule_266 ?_
            refine A_iload_n dX11_rule_269 rfl 2 rfl ?_
            refine A_aload_n dX11_rule_270 rfl 3 rfl ?_
            refine A_getr fl_X11_90 lk_84 rfl dX11_rule_271 ?_
            refine A_aload_n dX11_rule_274 rfl 3 rfl ?_
            refine A_geti fl_X11_269 lk_84 rfl dX11_rule_275 ?_
            try simp (disch := omega) only [up_k, up_j, up_s, incS_s, incS_k, incS_j, thC_keep, ad11, ad21, ad31, ad41, ad12, nc0, nc1, nc2, nc3, nc4, nc5, nc6, nc7, nc8, nc9, nc10, nc11, nc12, nc13, nc14, nc15, nc16, nc17, nc18, nc19, nc20, nc21, fnC_inc, fnC_up, dsZ_j, dsZ_8, dsT_k, loM_j, meT_j, knR_inc, knR_up]
            refine A_aload_n dX11_rule_278 rfl 3 rfl ?_
            refine A_aload_n dX11_rule_279 rfl 3 rfl ?_
            refine A_geti fl_X11_144 lk_84 rfl dX11_rule_280 ?_
            try simp (disch := omega) only [up_k, up_j, up_s, incS_s, incS_k, incS_j, thC_keep, ad11, ad21, ad31, ad41, ad12, nc0, nc1, nc2, nc3, nc4, nc5, nc6, nc7, nc8, nc9, nc10, nc11, nc12, nc13, nc14, nc15, nc16, nc17, nc18, nc19, nc20, nc21, fnC_inc, fnC_up, dsZ_j, dsZ_8, dsT_k, loM_j, meT_j, knR_inc, knR_up]
            refine A_Va1 mv_X11_265 lk_84 rfl rfl (c_nameT (by repeat (first | exact hT | refine Tk.i (by decide) ?_ | refine Tk.tC ?_ _ | refine Tk.x (by decide) ?_ | refine Tk.o (by decide) ?_)) _ ⟨by omega, by omega⟩) (Nat.le_of_ble_eq_true rfl) (by omega) (by omega) dX11_rule_283 ?_
            try simp (disch := omega) only [incS_s, incS_k, incS_j, thC_keep, ad11, ad21, ad31, ad41, ad12, nc0, nc1, nc2, nc3, nc4, nc5, nc6, nc7, nc8, nc9, nc10, nc11, nc12, nc13, nc14, nc15, nc16, nc17, nc18, nc19, nc20, nc21, fnC_inc, fnC_up, dsZ_j, dsZ_8, dsT_k, loM_j, meT_j, knR_inc, knR_up]
            refine A_Sa3 ms_X11_243 (c_X11_find_110 _ (σ 84 36) _ hC6) (Nat.le_of_ble_eq_true rfl) (by omega) (by omega) dX11_rule_286 ?_
            try simp (disch := omega) only [incS_s, incS_k, incS_j, thC_keep, ad11, ad21, ad31, ad41, ad12, nc0, nc1, nc2, nc3, nc4, nc5, nc6, nc7, nc8, nc9, nc10, nc11, nc12, nc13, nc14, nc15, nc16, nc17, nc18, nc19, nc20, nc21, fnC_inc, fnC_up, dsZ_j, dsZ_8, dsT_k, loM_j, meT_j, knR_inc, knR_up]
            refine J_iast lk_109 (by first | exact i32_eq (by assumption) | exact i32_eq ⟨by omega, by omega⟩ | with_reducible exact i32_i32 _ | with_reducible exact i32_eq (b2i_inr _) | rfl) (by omega) (by omega) (by decide) dX11_rule_289 ?_
            refine A_inc fl_X11_144 lk_84 rfl 3 rfl dX11_rule_290 dX11_rule_291 dX11_rule_292 dX11_rule_295 dX11_rule_296 dX11_rule_297 ?_
            refine A_aload_n dX11_rule_300 rfl 3 rfl ?_
            refine A_getr fl_X11_75 lk_84 rfl dX11_rule_301 ?_
            refine A_iload_n dX11_rule_304 rfl 2 rfl ?_
            refine J_iald lk_105 (by first | exact i32_eq (by assumption) | exact i32_eq ⟨by omega, by omega⟩ | with_reducible exact i32_i32 _ | with_reducible exact i32_eq (b2i_inr _) | rfl) (by omega) (by omega) (by decide) dX11_rule_305 ?_
            try simp (disch := omega) only [up_k, up_j, up_s, incS_s, incS_k, incS_j, thC_keep, ad11, ad21, ad31, ad41, ad12, nc0, nc1, nc2, nc3, nc4, nc5, nc6, nc7, nc8, nc9, nc10, nc11, nc12, nc13, nc14, nc15, nc16, nc17, nc18, nc19, nc20, nc21, fnC_inc, fnC_up, dsZ_j, dsZ_8, dsT_k, loM_j, meT_j, knR_inc, knR_up]
            refine J_if_eq (tgt := 407) dX11_rule_306 (by decide) (by first | exact i32_eq (by assumption) | exact i32_eq ⟨by omega, by omega⟩ | with_reducible exact i32_i32 _ | with_reducible exact i32_eq (b2i_inr _) | rfl) (fun h306 => ?_) (fun h306 => ?_)
            · refine A_inc fl_X11_298 lk_84 rfl 3 rfl dX11_rule_407 dX11_rule_408 dX11_rule_409 dX11_rule_412 dX11_rule_413 dX11_rule_414 ?_
              refine A_iconst dX11_rule_417 ?_
              refine A_wid (k2 := 2) (n2 := 8) (by decide) (by decide) ?_
              exact A_iret dX11_rule_418 (by simp only [ruM]; rw [if_neg h6, if_pos hk]; simp only [ruB]; rw [if_pos (of_decide_eq_true h151), if_neg (by decide : ¬ (0 : Int) = 3), if_pos h227, if_pos trivial] <;> (try rfl)) (by simp only [ruM]; rw [if_neg h6, if_pos hk]; simp only [ruB]; rw [if_pos (of_decide_eq_true h151), if_neg (by decide : ¬ (0 : Int) = 3), if_pos h227, if_pos trivial] <;> (try rfl))
            · exact absurd rfl h306
              --end
          · refine A_aload_n dX11_rule_230 rfl 3 rfl ?_
            refine A_iconst dX11_rule_231 ?_
            refine A_aload_n dX11_rule_232 rfl 3 rfl ?_
            refine A_geti fl_X11_144 lk_84 rfl dX11_rule_233 ?_
            try simp (disch := omega) only [up_k, up_j, up_s, incS_s, incS_k, incS_j, thC_keep, ad11, ad21, ad31, ad41, ad12, nc0, nc1, nc2, nc3, nc4, nc5, nc6, nc7, nc8, nc9, nc10, nc11, nc12, nc13, nc14, nc15, nc16, nc17, nc18, nc19, nc20, nc21, fnC_inc, fnC_up, dsZ_j, dsZ_8, dsT_k, loM_j, meT_j, knR_inc, knR_up]
            refine A_Va2 mv_X11_261 lk_84 rfl rfl (c_wrongT (by repeat (first | exact hT | refine Tk.i (by decide) ?_ | refine Tk.tC ?_ _ | refine Tk.x (by decide) ?_ | refine Tk.o (by decide) ?_)) _ _ ⟨by omega, by omega⟩) (Nat.le_of_ble_eq_true rfl) (by omega) (by omega) dX11_rule_236 ?_
            try simp (disch := omega) only [incS_s, incS_k, incS_j, thC_keep, ad11, ad21, ad31, ad41, ad12, nc0, nc1, nc2, nc3, nc4, nc5, nc6, nc7, nc8, nc9, nc10, nc11, nc12, nc13, nc14, nc15, nc16, nc17, nc18, nc19, nc20, nc21, fnC_inc, fnC_up, dsZ_j, dsZ_8, dsT_k, loM_j, meT_j, knR_inc, knR_up]
            refine A_wid (k2 := 2) (n2 := 8) (by decide) (by decide) ?_
            exact A_iret dX11_rule_239 (by simp only [ruM]; rw [if_neg h6, if_pos hk]; simp only [ruB]; rw [if_pos (of_decide_eq_true h151), if_neg (by decide : ¬ (0 : Int) = 3), if_neg (by rw [h227]; decide)] <;> (try rfl)) (by simp only [ruM]; rw [if_neg h6, if_pos hk]; simp only [ruB]; rw [if_pos (of_decide_eq_true h151), if_neg (by decide : ¬ (0 : Int) = 3), if_neg (by rw [h227]; decide)] <;> (try rfl))
      · refine A_aload_n dX11_rule_154 rfl 3 rfl ?_
        refine A_iconst dX11_rule_155 ?_
        refine A_aload_n dX11_rule_156 rfl 3 rfl ?_
        refine A_geti fl_X11_144 lk_84 rfl dX11_rule_157 ?_
        try simp (disch := omega) only [up_k, up_j, up_s, incS_s, incS_k, incS_j, thC_keep, ad11, ad21, ad31, ad41, ad12, nc0, nc1, nc2, nc3, nc4, nc5, nc6, nc7, nc8, nc9, nc10, nc11, nc12, nc13, nc14, nc15, nc16, nc17, nc18, nc19, nc20, nc21, fnC_inc, fnC_up, dsZ_j, dsZ_8, dsT_k, loM_j, meT_j, knR_inc, knR_up]
        refine A_Va2 mv_X11_261 lk_84 rfl rfl (c_wrongT (by repeat (first | exact hT | refine Tk.i (by decide) ?_ | refine Tk.tC ?_ _ | refine Tk.x (by decide) ?_ | refine Tk.o (by decide) ?_)) _ _ ⟨by omega, by omega⟩) (Nat.le_of_ble_eq_true rfl) (by omega) (by omega) dX11_rule_160 ?_
        try simp (disch := omega) only [incS_s, incS_k, incS_j, thC_keep, ad11, ad21, ad31, ad41, ad12, nc0, nc1, nc2, nc3, nc4, nc5, nc6, nc7, nc8, nc9, nc10, nc11, nc12, nc13, nc14, nc15, nc16, nc17, nc18, nc19, nc20, nc21, fnC_inc, fnC_up, dsZ_j, dsZ_8, dsT_k, loM_j, meT_j, knR_inc, knR_up]
        refine A_wid (k2 := 2) (n2 := 8) (by decide) (by decide) ?_
        exact A_iret dX11_rule_163 (by simp only [ruM]; rw [if_neg h6, if_pos hk]; simp only [ruB]; rw [if_neg (of_decide_eq_false h151)] <;> (try rfl)) (by simp only [ruM]; rw [if_neg h6, if_pos hk]; simp only [ruB]; rw [if_neg (of_decide_eq_false h151)] <;> (try rfl))
  · refine A_aload_n dX11_rule_9 rfl 0 rfl ?_
    refine A_iconst dX11_rule_10 ?_
    refine A_iload_n dX11_rule_11 rfl 1 rfl ?_
    refine A_Va2 mv_X11_261 lk_84 rfl rfl (c_wrongT hT _ _ hfi) (Nat.le_of_ble_eq_true rfl) (by omega) (by omega) dX11_rule_12 ?_
    try simp (disch := omega) only [incS_s, incS_k, incS_j, thC_keep, ad11, ad21, ad31, ad41, ad12, nc0, nc1, nc2, nc3, nc4, nc5, nc6, nc7, nc8, nc9, nc10, nc11, nc12, nc13, nc14, nc15, nc16, nc17, nc18, nc19, nc20, nc21, fnC_inc, fnC_up, dsZ_j, dsZ_8, dsT_k, loM_j, meT_j, knR_inc, knR_up]
    refine A_wid (k2 := 2) (n2 := 8) (by decide) (by decide) ?_
    exact A_iret dX11_rule_15 (by simp only [ruM]; rw [if_pos h6] <;> (try rfl)) (by simp only [ruM]; rw [if_pos h6] <;> (try rfl))
end S40
