/-! the reference: a program read -/
section S43
variable {l : Launch} {G : Gx}
variable {σ : Sg} {e : Int} {K V N S : Int → Int}
def Rn (x : Int) : Prop := 0 ≤ x ∧ x ≤ 6
theorem Rn_p {n : Int} {τ : Sg} (h : decide (0 ≤ n ∧ n ≤ 6) = true) : Rn ((n, τ) : Int × Sg).1 := by
  have h2 : 0 ≤ n ∧ n ≤ 6 := of_decide_eq_true h
  exact h2
theorem foM_rn (first : Int) : Rn (foM K V N S first σ).1 := by
  unfold foM fdT
  (repeat' split) <;> exact Rn_p rfl
theorem dpL_rn : ∀ (n : Nat) (σ : Sg), Cn σ → Rn (dpL K V N S n σ).1
  | 0, σ, hC => Rn_p rfl
  | n + 1, σ, hC => by
    have hC2 : Cn (incS 8 σ) := hC
    have := ptM_res (K := K) (V := V) (N := N) (S := S) hC2
    simp only [dpL]
    split
    · split
      · exact dpL_rn n _ hC2.pt
      · exact Rn_p rfl
    · exact ⟨by dsimp only; omega, by dsimp only; omega⟩
theorem dsM_rn (h : IV e K V N S σ) (first : Int) : Rn (dsM K V N S first σ).1 := by
  unfold dsM
  split
  · exact Rn_p rfl
  · split
    · exact Rn_p rfl
    · split
      · rename_i c _ _
        unfold dsP
        split
        · unfold dsE
          (repeat' split) <;> exact Rn_p rfl
        · exact dpL_rn _ _ (DI.z (n2 := N (σ 84 8 + 2)) h.1 h.2.1 h.2.2.1 (by have := h.2.1.2.1; omega)).2.1
      · exact Rn_p rfl
theorem loM_rn : Rn (loM K V S σ).1 := by
  rcases loL_res (K := K) (V := V) (S := S) 1502 σ with z | z <;> (unfold loM; rw [z]; exact Rn_p (τ := σ) rfl)
theorem meC_rn : Rn (meC K V S σ).1 := by
  unfold meC
  split
  · exact Rn_p rfl
  · exact loM_rn
theorem meL_rn : ∀ (n : Nat) (σ : Sg), Rn (meL K V S n σ).1
  | 0, σ => Rn_p rfl
  | n + 1, σ => by
    simp only [meL]
    split
    · split
      · exact meL_rn n _
      · exact Rn_p rfl
    · exact meC_rn
theorem meM_rn (first : Int) : Rn (meM K V S first σ).1 := by
  unfold meM
  split
  · exact Rn_p rfl
  · split
    · exact Rn_p rfl
    · exact meL_rn _ _
theorem ruM_rn (first : Int) : Rn (ruM K V N S first σ).1 := by
  have hE : ∀ (r : Nat) (X : Sg) (p lo hi : Int), Rn (ruE N S r X p lo hi).1 := by
    intro r X p lo hi
    unfold ruE
    split <;> exact Rn_p rfl
  have hB : ∀ so lo hi : Int, Rn (ruB V N S σ so lo hi).1 := by
    intro so lo hi
    unfold ruB
    split
    · split
      · exact hE _ _ _ _ _
      · split
        · split
          · exact Rn_p rfl
          · exact hE _ _ _ _ _
        · exact Rn_p rfl
    · exact Rn_p rfl
  unfold ruM
  split
  · exact Rn_p rfl
  · split
    · exact hB _ _ _
    · split
      · exact hB _ _ _
      · split
        · exact hB _ _ _
        · exact hB _ _ _
theorem mnI_rn (h : IV e K V N S σ) (first : Int) : Rn (mnI K V N S first σ).1 := by
  unfold mnI
  split
  · exact foM_rn _
  · split
    · exact dsM_rn h _
    · split
      · exact meM_rn _
      · exact ruM_rn _
theorem Rn.t {x : Int} (h : Rn x) : i32 x = x := i32_n _ (by have := h.1; have := h.2; omega)
set_option maxRecDepth 100000 in
set_option maxHeartbeats 4000000 in
theorem w_X11_meaning {f : Fm} (e : Int) (K V N S : Int → Int) : ∀ (m n c : Nat) (σ : Sg) (r : Option Value) (σ1 : Sg), IV e K V N S σ → (c : Int) = σ 84 30 → (0 ≤ σ 84 8 ∧ σ 84 8 ≤ e) → PgE K m (σ 84 8) → m < n → r = some (.int (I32 (mnL K V N S n σ).1)) → σ1 = (mnL K V N S n σ).2 → AW l G f (RX11, cX11_meaning, 3, (some .int)) (9, 18, 72) (QT G f 18 72 r σ1) [] (2 * c) (8 * c) 0 [(0, .ref (lay G 84))] [] σ := by
  intro m
  induction m using Nat.strongRecOn with | _ m ih =>
  intro n c σ r σ1 hI hc ha hpg hn hr hs
  obtain ⟨n, rfl⟩ : ∃ q, n = q + 1 := ⟨n - 1, by omega⟩
  have he := hI.1.e
  obtain ⟨hC1, hC2, hC3, hC4, hC5, hC6⟩ := id hI.2.1
  have hc8 : c ≤ 8 := by omega
  have ht1 := hI.1.1.2.1 (σ 84 8).toNat
  have hen := hI.1.end ha
  have hT := hI.1
  refine A_aload_n dX11_meaning_0 rfl 0 rfl ?_
  refine A_getr fl_X11_17 lk_84 rfl dX11_meaning_1 ?_
  refine A_aload_n dX11_meaning_4 rfl 0 rfl ?_
  refine A_geti fl_X11_144 lk_84 rfl dX11_meaning_5 ?_
  try simp (disch := omega) only [up_k, up_j, up_s, incS_s, incS_k, incS_j, thC_keep, ad11, ad21, ad31, ad41, ad12, nc0, nc1, nc2, nc3, nc4, nc5, nc6, nc7, nc8, nc9, nc10, nc11, nc12, nc13, nc14, nc15, nc16, nc17, nc18, nc19, nc20, nc21, fnC_inc, fnC_up, dsZ_j, dsZ_8, dsT_k, loM_j, meT_j, knR_inc, knR_up]
  refine J_iald lk_86 (by first | exact hmi | exact i32_eq (by assumption) | exact i32_eq ⟨by omega, by omega⟩ | with_reducible exact i32_i32 _ | with_reducible exact i32_eq (b2i_inr _) | rfl) (by omega) (by omega) (by decide) dX11_meaning_8 ?_
  try simp (disch := omega) only [up_k, up_j, up_s, incS_s, incS_k, incS_j, thC_keep, ad11, ad21, ad31, ad41, ad12, nc0, nc1, nc2, nc3, nc4, nc5, nc6, nc7, nc8, nc9, nc10, nc11, nc12, nc13, nc14, nc15, nc16, nc17, nc18, nc19, nc20, nc21, fnC_inc, fnC_up, dsZ_j, dsZ_8, dsT_k, loM_j, meT_j, knR_inc, knR_up]
  refine J_if_eq (tgt := 106) dX11_meaning_9 (by decide) (by first | exact hmi | exact i32_eq (by assumption) | exact i32_eq ⟨by omega, by omega⟩ | with_reducible exact i32_i32 _ | with_reducible exact i32_eq (b2i_inr _) | rfl) (fun h9 => ?_) (fun h9 => ?_)
  · have hk25 : K (σ 84 8) = 25 := hen.mpr h9
    refine A_aload_n dX11_meaning_106 rfl 0 rfl ?_
    refine A_geti fl_X11_247 lk_84 rfl dX11_meaning_107 ?_
    try simp (disch := omega) only [up_k, up_j, up_s, incS_s, incS_k, incS_j, thC_keep, ad11, ad21, ad31, ad41, ad12, nc0, nc1, nc2, nc3, nc4, nc5, nc6, nc7, nc8, nc9, nc10, nc11, nc12, nc13, nc14, nc15, nc16, nc17, nc18, nc19, nc20, nc21, fnC_inc, fnC_up, dsZ_j, dsZ_8, dsT_k, loM_j, meT_j, knR_inc, knR_up]
    refine J_if_eq (tgt := 120) dX11_meaning_110 (by decide) (by first | exact hmi | exact i32_eq (by assumption) | exact i32_eq ⟨by omega, by omega⟩ | with_reducible exact i32_i32 _ | with_reducible exact i32_eq (b2i_inr _) | rfl) (fun h110 => ?_) (fun h110 => ?_)
    · refine A_aload_n dX11_meaning_120 rfl 0 rfl ?_
      refine A_bipush dX11_meaning_121 (by decide +kernel) ?_
      refine A_aload_n dX11_meaning_123 rfl 0 rfl ?_
      refine A_geti fl_X11_144 lk_84 rfl dX11_meaning_124 ?_
      try simp (disch := omega) only [up_k, up_j, up_s, incS_s, incS_k, incS_j, thC_keep, ad11, ad21, ad31, ad41, ad12, nc0, nc1, nc2, nc3, nc4, nc5, nc6, nc7, nc8, nc9, nc10, nc11, nc12, nc13, nc14, nc15, nc16, nc17, nc18, nc19, nc20, nc21, fnC_inc, fnC_up, dsZ_j, dsZ_8, dsT_k, loM_j, meT_j, knR_inc, knR_up]
      refine A_Va2 mv_X11_261 lk_84 rfl rfl (c_wrongT hT _ _ ha) (Nat.le_of_ble_eq_true rfl) (by omega) (by omega) dX11_meaning_127 ?_
      try simp (disch := omega) only [incS_s, incS_k, incS_j, thC_keep, ad11, ad21, ad31, ad41, ad12, nc0, nc1, nc2, nc3, nc4, nc5, nc6, nc7, nc8, nc9, nc10, nc11, nc12, nc13, nc14, nc15, nc16, nc17, nc18, nc19, nc20, nc21, fnC_inc, fnC_up, dsZ_j, dsZ_8, dsT_k, loM_j, meT_j, knR_inc, knR_up]
      refine A_goto (tgt := 134) dX11_meaning_130 (by decide) ?_
      refine A_wid (k2 := 18) (n2 := 72) (by omega) (by omega) ?_
      exact A_iret dX11_meaning_134 (by rw [hr]; first | done | (simp only [mnL]; rw [if_pos hk25]; first | (rw [if_pos (by omega)]; done) | (rw [if_neg (by omega)]; done))) (by rw [hs]; first | done | (simp only [mnL]; rw [if_pos hk25]; first | (rw [if_pos (by omega)]; done) | (rw [if_neg (by omega)]; done)))
    · refine A_aload_n dX11_meaning_113 rfl 0 rfl ?_
      refine A_geti fl_X11_250 lk_84 rfl dX11_meaning_114 ?_
      try simp (disch := omega) only [up_k, up_j, up_s, incS_s, incS_k, incS_j, thC_keep, ad11, ad21, ad31, ad41, ad12, nc0, nc1, nc2, nc3, nc4, nc5, nc6, nc7, nc8, nc9, nc10, nc11, nc12, nc13, nc14, nc15, nc16, nc17, nc18, nc19, nc20, nc21, fnC_inc, fnC_up, dsZ_j, dsZ_8, dsT_k, loM_j, meT_j, knR_inc, knR_up]
      refine J_if_ne (tgt := 133) dX11_meaning_117 (by decide) (by first | exact hmi | exact i32_eq (by assumption) | exact i32_eq ⟨by omega, by omega⟩ | with_reducible exact i32_i32 _ | with_reducible exact i32_eq (b2i_inr _) | rfl) (fun h117 => ?_) (fun h117 => ?_)
      · refine A_iconst dX11_meaning_133 ?_
        refine A_wid (k2 := 18) (n2 := 72) (by omega) (by omega) ?_
        exact A_iret dX11_meaning_134 (by rw [hr]; first | done | (simp only [mnL]; rw [if_pos hk25]; first | (rw [if_pos (by omega)]; done) | (rw [if_neg (by omega)]; done))) (by rw [hs]; first | done | (simp only [mnL]; rw [if_pos hk25]; first | (rw [if_pos (by omega)]; done) | (rw [if_neg (by omega)]; done)))
      · refine A_aload_n dX11_meaning_120 rfl 0 rfl ?_
        refine A_bipush dX11_meaning_121 (by decide +kernel) ?_
        refine A_aload_n dX11_meaning_123 rfl 0 rfl ?_
        refine A_geti fl_X11_144 lk_84 rfl dX11_meaning_124 ?_
        try simp (disch := omega) only [up_k, up_j, up_s, incS_s, incS_k, incS_j, thC_keep, ad11, ad21, ad31, ad41, ad12, nc0, nc1, nc2, nc3, nc4, nc5, nc6, nc7, nc8, nc9, nc10, nc11, nc12, nc13, nc14, nc15, nc16, nc17, nc18, nc19, nc20, nc21, fnC_inc, fnC_up, dsZ_j, dsZ_8, dsT_k, loM_j, meT_j, knR_inc, knR_up]
        refine A_Va2 mv_X11_261 lk_84 rfl rfl (c_wrongT hT _ _ ha) (Nat.le_of_ble_eq_true rfl) (by omega) (by omega) dX11_meaning_127 ?_
        try simp (disch := omega) only [incS_s, incS_k, incS_j, thC_keep, ad11, ad21, ad31, ad41, ad12, nc0, nc1, nc2, nc3, nc4, nc5, nc6, nc7, nc8, nc9, nc10, nc11, nc12, nc13, nc14, nc15, nc16, nc17, nc18, nc19, nc20, nc21, fnC_inc, fnC_up, dsZ_j, dsZ_8, dsT_k, loM_j, meT_j, knR_inc, knR_up]
        refine A_goto (tgt := 134) dX11_meaning_130 (by decide) ?_
        refine A_wid (k2 := 18) (n2 := 72) (by omega) (by omega) ?_
        exact A_iret dX11_meaning_134 (by rw [hr]; first | done | (simp only [mnL]; rw [if_pos hk25]; first | (rw [if_pos (by omega)]; done) | (rw [if_neg (by omega)]; done))) (by rw [hs]; first | done | (simp only [mnL]; rw [if_pos hk25]; first | (rw [if_pos (by omega)]; done) | (rw [if_neg (by omega)]; done)))
  · have hk25 : ¬ K (σ 84 8) = 25 := fun z => h9 (hen.mp z)
    obtain ⟨m, rfl⟩ : ∃ q, m = q + 1 := by
      cases m with
      | zero => exact absurd hpg hk25
      | succ m => exact ⟨m, rfl⟩
    obtain ⟨b, g1, g2⟩ := hpg
    obtain ⟨b1, b2⟩ := It_b hI.1 g1
    have hbi := hI.1.in b2 (by decide)
    have hI8 := hI.i8
    have e8 : incS 8 σ 84 8 = σ 84 8 + 1 := incS_s _ _
    have e30 : incS 8 σ 84 30 = σ 84 30 := incS_j _ (by decide)
    have hmi := (mnI_rn hI8 (σ 84 8)).t
    refine A_aload_n dX11_meaning_12 rfl 0 rfl ?_
    refine A_geti fl_X11_144 lk_84 rfl dX11_meaning_13 ?_
    try simp (disch := omega) only [up_k, up_j, up_s, incS_s, incS_k, incS_j, thC_keep, ad11, ad21, ad31, ad41, ad12, nc0, nc1, nc2, nc3, nc4, nc5, nc6, nc7, nc8, nc9, nc10, nc11, nc12, nc13, nc14, nc15, nc16, nc17, nc18, nc19, nc20, nc21, fnC_inc, fnC_up, dsZ_j, dsZ_8, dsT_k, loM_j, meT_j, knR_inc, knR_up]
    refine A_istore_n (lv2 := [(1, _), (0, _)]) dX11_meaning_16 rfl (by decide) rfl ?_
    refine A_inc fl_X11_144 lk_84 rfl 1 rfl dX11_meaning_17 dX11_meaning_18 dX11_meaning_19 dX11_meaning_22 dX11_meaning_23 dX11_meaning_24 ?_
    refine A_aload_n dX11_meaning_27 rfl 1 rfl ?_
    refine A_iload_n dX11_meaning_28 rfl 0 rfl ?_
    refine A_ldcs (i := 0) (by decide +kernel) dX11_meaning_29 ?_
    refine A_Va2 mv_X11_136 lk_84 rfl rfl (c_isT (by repeat (first | exact hT | refine Tk.i (by decide) ?_ | refine Tk.tC ?_ _ | refine Tk.x (by decide) ?_ | refine Tk.o (by decide) ?_)) _ ⟨by omega, by omega⟩ 0 (by decide)) (Nat.le_of_ble_eq_true rfl) (by omega) (by omega) dX11_meaning_31 ?_
    try simp (disch := omega) only [incS_s, incS_k, incS_j, thC_keep, ad11, ad21, ad31, ad41, ad12, nc0, nc1, nc2, nc3, nc4, nc5, nc6, nc7, nc8, nc9, nc10, nc11, nc12, nc13, nc14, nc15, nc16, nc17, nc18, nc19, nc20, nc21, fnC_inc, fnC_up, dsZ_j, dsZ_8, dsT_k, loM_j, meT_j, knR_inc, knR_up]
    refine A_ifeq_b (tgt := 45) dX11_meaning_34 (by decide) (fun h34 => ?_) (fun h34 => ?_)
    · have n0 := of_decide_eq_false h34
      refine A_aload_n dX11_meaning_45 rfl 1 rfl ?_
      refine A_iload_n dX11_meaning_46 rfl 0 rfl ?_
      refine A_ldcs (i := 1) (by decide +kernel) dX11_meaning_47 ?_
      refine A_Va2 mv_X11_136 lk_84 rfl rfl (c_isT (by repeat (first | exact hT | refine Tk.i (by decide) ?_ | refine Tk.tC ?_ _ | refine Tk.x (by decide) ?_ | refine Tk.o (by decide) ?_)) _ ⟨by omega, by omega⟩ 1 (by decide)) (Nat.le_of_ble_eq_true rfl) (by omega) (by omega) dX11_meaning_49 ?_
      try simp (disch := omega) only [incS_s, incS_k, incS_j, thC_keep, ad11, ad21, ad31, ad41, ad12, nc0, nc1, nc2, nc3, nc4, nc5, nc6, nc7, nc8, nc9, nc10, nc11, nc12, nc13, nc14, nc15, nc16, nc17, nc18, nc19, nc20, nc21, fnC_inc, fnC_up, dsZ_j, dsZ_8, dsT_k, loM_j, meT_j, knR_inc, knR_up]
      refine A_ifeq_b (tgt := 63) dX11_meaning_52 (by decide) (fun h52 => ?_) (fun h52 => ?_)
      · have n1 := of_decide_eq_false h52
        refine A_aload_n dX11_meaning_63 rfl 1 rfl ?_
        refine A_iload_n dX11_meaning_64 rfl 0 rfl ?_
        refine A_ldcs (i := 5) (by decide +kernel) dX11_meaning_65 ?_
        refine A_Va2 mv_X11_136 lk_84 rfl rfl (c_isT (by repeat (first | exact hT | refine Tk.i (by decide) ?_ | refine Tk.tC ?_ _ | refine Tk.x (by decide) ?_ | refine Tk.o (by decide) ?_)) _ ⟨by omega, by omega⟩ 5 (by decide)) (Nat.le_of_ble_eq_true rfl) (by omega) (by omega) dX11_meaning_67 ?_
        try simp (disch := omega) only [incS_s, incS_k, incS_j, thC_keep, ad11, ad21, ad31, ad41, ad12, nc0, nc1, nc2, nc3, nc4, nc5, nc6, nc7, nc8, nc9, nc10, nc11, nc12, nc13, nc14, nc15, nc16, nc17, nc18, nc19, nc20, nc21, fnC_inc, fnC_up, dsZ_j, dsZ_8, dsT_k, loM_j, meT_j, knR_inc, knR_up]
        refine A_ifeq_b (tgt := 81) dX11_meaning_70 (by decide) (fun h70 => ?_) (fun h70 => ?_)
        · have n5 := of_decide_eq_false h70
          have hk : K (σ 84 8) = 6 := by rcases g1 with z | z | z | z <;> omega
          have g3 : RlO K (incS 8 σ 84 8) b := by
            rw [e8]
            rcases g1 with z | z | z | z
            · exfalso; omega
            · exfalso; omega
            · exfalso; omega
            · exact z.2
          have eI : mnI K V N S (σ 84 8) (incS 8 σ) = ruM K V N S (σ 84 8) (incS 8 σ) := by unfold mnI; rw [if_neg (by rw [hk]; decide), if_neg (by rw [hk]; decide), if_neg (by rw [hk]; decide)]
          refine A_aload_n dX11_meaning_81 rfl 1 rfl ?_
          refine A_iload_n dX11_meaning_82 rfl 0 rfl ?_
          refine A_Vm1 (k2 := (2 * c + 2)) (n2 := (8 * c + 8)) mv_X11_259 lk_84 rfl rfl (c_X11_rule (σ 84 8) b hI8.1 hI8.2.1 ha g3) (Nat.le_of_ble_eq_true rfl) (by omega) (by omega) rfl rfl dX11_meaning_83 ?_
          try simp (disch := omega) only [incS_s, incS_k, incS_j, thC_keep, ad11, ad21, ad31, ad41, ad12, nc0, nc1, nc2, nc3, nc4, nc5, nc6, nc7, nc8, nc9, nc10, nc11, nc12, nc13, nc14, nc15, nc16, nc17, nc18, nc19, nc20, nc21, fnC_inc, fnC_up, dsZ_j, dsZ_8, dsT_k, loM_j, meT_j, knR_inc, knR_up]
          rw [← eI]
          refine A_istore_n (lv2 := [(2, _), (1, _), (0, _)]) dX11_meaning_86 rfl (by decide) rfl ?_
          refine A_iload_n dX11_meaning_87 rfl 0 rfl ?_
          refine J_if_eq (tgt := 93) dX11_meaning_88 (by decide) (by first | exact hmi | exact i32_eq (by assumption) | exact i32_eq ⟨by omega, by omega⟩ | with_reducible exact i32_i32 _ | with_reducible exact i32_eq (b2i_inr _) | rfl) (fun h88 => ?_) (fun h88 => ?_)
          · have ed : mnL K V N S (n + 1) σ = mnL K V N S n (incS 8 (mnI K V N S (σ 84 8) (incS 8 σ)).2) := by simp only [mnL]; rw [if_neg hk25, if_pos h88]
            rw [ed] at hr hs
            obtain ⟨q1, q2, q3⟩ := mnI_inv hI g1 h88
            have h88b := h88
            rw [eI] at h88b
            have q4 := (ru_inv hI8 g3 h88b).2.2
            rw [← eI, e30] at q4
            refine A_inc fl_X11_144 lk_84 rfl 2 rfl dX11_meaning_93 dX11_meaning_94 dX11_meaning_95 dX11_meaning_98 dX11_meaning_99 dX11_meaning_100 ?_
            refine A_goto (tgt := 0) dX11_meaning_103 (by decide) ?_
            refine A_lv [2] rfl ?_
            refine ih m (by omega) n (c + 1) (incS 8 (mnI K V N S (σ 84 8) (incS 8 σ)).2) r σ1 q1.i8 ?_ ?_ ?_ (by omega) hr hs
            · rw [incS_j _ (by decide)]; omega
            · rw [incS_s, q2]; omega
            · rw [incS_s, q2]; exact g2
          · have ed : mnL K V N S (n + 1) σ = mnI K V N S (σ 84 8) (incS 8 σ) := by simp only [mnL]; rw [if_neg hk25, if_neg h88]
            rw [ed] at hr hs
            refine A_iload_n dX11_meaning_91 rfl 0 rfl ?_
            refine A_wid (k2 := 18) (n2 := 72) (by omega) (by omega) ?_
            exact A_iret dX11_meaning_92 (by rw [hr]; first | done | (simp only [mnL]; rw [if_pos hk25]; first | (rw [if_pos (by omega)]; done) | (rw [if_neg (by omega)]; done))) (by rw [hs]; first | done | (simp only [mnL]; rw [if_pos hk25]; first | (rw [if_pos (by omega)]; done) | (rw [if_neg (by omega)]; done)))
        · have hk : K (σ 84 8) = 5 := of_decide_eq_true h70
          have g3 : MlO K (incS 8 σ 84 8) b := by
            rw [e8]
            rcases g1 with z | z | z | z
            · exfalso; omega
            · exfalso; omega
            · exact z.2
            · exfalso; omega
          have eI : mnI K V N S (σ 84 8) (incS 8 σ) = meM K V S (σ 84 8) (incS 8 σ) := by unfold mnI; rw [if_neg (by rw [hk]; decide), if_neg (by rw [hk]; decide), if_pos hk]
          refine A_aload_n dX11_meaning_73 rfl 1 rfl ?_
          refine A_iload_n dX11_meaning_74 rfl 0 rfl ?_
          refine A_Va1 mv_X11_257 lk_84 rfl rfl (c_X11_meal (σ 84 8) hI8.1 hI8.2.1 ha ⟨g3.1, g3.2.1⟩) (Nat.le_of_ble_eq_true rfl) (by omega) (by omega) dX11_meaning_75 ?_
          try simp (disch := omega) only [incS_s, incS_k, incS_j, thC_keep, ad11, ad21, ad31, ad41, ad12, nc0, nc1, nc2, nc3, nc4, nc5, nc6, nc7, nc8, nc9, nc10, nc11, nc12, nc13, nc14, nc15, nc16, nc17, nc18, nc19, nc20, nc21, fnC_inc, fnC_up, dsZ_j, dsZ_8, dsT_k, loM_j, meT_j, knR_inc, knR_up]
          rw [← eI]
          refine A_goto (tgt := 86) dX11_meaning_78 (by decide) ?_
          refine A_istore_n (lv2 := [(2, _), (1, _), (0, _)]) dX11_meaning_86 rfl (by decide) rfl ?_
          refine A_iload_n dX11_meaning_87 rfl 0 rfl ?_
          refine J_if_eq (tgt := 93) dX11_meaning_88 (by decide) (by first | exact hmi | exact i32_eq (by assumption) | exact i32_eq ⟨by omega, by omega⟩ | with_reducible exact i32_i32 _ | with_reducible exact i32_eq (b2i_inr _) | rfl) (fun h88 => ?_) (fun h88 => ?_)
          · have ed : mnL K V N S (n + 1) σ = mnL K V N S n (incS 8 (mnI K V N S (σ 84 8) (incS 8 σ)).2) := by simp only [mnL]; rw [if_neg hk25, if_pos h88]
            rw [ed] at hr hs
            obtain ⟨q1, q2, q3⟩ := mnI_inv hI g1 h88
            have h88b := h88
            rw [eI] at h88b
            have q4 := (me_inv hI8 g3 h88b).2.2
            rw [← eI, e30] at q4
            refine A_inc fl_X11_144 lk_84 rfl 2 rfl dX11_meaning_93 dX11_meaning_94 dX11_meaning_95 dX11_meaning_98 dX11_meaning_99 dX11_meaning_100 ?_
            refine A_goto (tgt := 0) dX11_meaning_103 (by decide) ?_
            refine A_lv [2] rfl ?_
            refine ih m (by omega) n c (incS 8 (mnI K V N S (σ 84 8) (incS 8 σ)).2) r σ1 q1.i8 ?_ ?_ ?_ (by omega) hr hs
            · rw [incS_j _ (by decide)]; omega
            · rw [incS_s, q2]; omega
            · rw [incS_s, q2]; exact g2
          · have ed : mnL K V N S (n + 1) σ = mnI K V N S (σ 84 8) (incS 8 σ) := by simp only [mnL]; rw [if_neg hk25, if_neg h88]
            rw [ed] at hr hs
            refine A_iload_n dX11_meaning_91 rfl 0 rfl ?_
            refine A_wid (k2 := 18) (n2 := 72) (by omega) (by omega) ?_
            exact A_iret dX11_meaning_92 (by rw [hr]; first | done | (simp only [mnL]; rw [if_pos hk25]; first | (rw [if_pos (by omega)]; done) | (rw [if_neg (by omega)]; done))) (by rw [hs]; first | done | (simp only [mnL]; rw [if_pos hk25]; first | (rw [if_pos (by omega)]; done) | (rw [if_neg (by omega)]; done)))
      · have hk : K (σ 84 8) = 1 := of_decide_eq_true h52
        have g3 : DsO K (incS 8 σ 84 8) b := by
          rw [e8]
          rcases g1 with z | z | z | z
          · exfalso; omega
          · exact z.2
          · exfalso; omega
          · exfalso; omega
        have eI : mnI K V N S (σ 84 8) (incS 8 σ) = dsM K V N S (σ 84 8) (incS 8 σ) := by unfold mnI; rw [if_neg (by rw [hk]; decide), if_pos hk]
        refine A_aload_n dX11_meaning_55 rfl 1 rfl ?_
        refine A_iload_n dX11_meaning_56 rfl 0 rfl ?_
        refine A_Va1 mv_X11_255 lk_84 rfl rfl (c_X11_dish (σ 84 8) b hI8.1 hI8.2.1 hI8.2.2.1 ha g3) (Nat.le_of_ble_eq_true rfl) (by omega) (by omega) dX11_meaning_57 ?_
        try simp (disch := omega) only [incS_s, incS_k, incS_j, thC_keep, ad11, ad21, ad31, ad41, ad12, nc0, nc1, nc2, nc3, nc4, nc5, nc6, nc7, nc8, nc9, nc10, nc11, nc12, nc13, nc14, nc15, nc16, nc17, nc18, nc19, nc20, nc21, fnC_inc, fnC_up, dsZ_j, dsZ_8, dsT_k, loM_j, meT_j, knR_inc, knR_up]
        rw [← eI]
        refine A_goto (tgt := 86) dX11_meaning_60 (by decide) ?_
        refine A_istore_n (lv2 := [(2, _), (1, _), (0, _)]) dX11_meaning_86 rfl (by decide) rfl ?_
        refine A_iload_n dX11_meaning_87 rfl 0 rfl ?_
        refine J_if_eq (tgt := 93) dX11_meaning_88 (by decide) (by first | exact hmi | exact i32_eq (by assumption) | exact i32_eq ⟨by omega, by omega⟩ | with_reducible exact i32_i32 _ | with_reducible exact i32_eq (b2i_inr _) | rfl) (fun h88 => ?_) (fun h88 => ?_)
        · have ed : mnL K V N S (n + 1) σ = mnL K V N S n (incS 8 (mnI K V N S (σ 84 8) (incS 8 σ)).2) := by simp only [mnL]; rw [if_neg hk25, if_pos h88]
          rw [ed] at hr hs
          obtain ⟨q1, q2, q3⟩ := mnI_inv hI g1 h88
          have h88b := h88
          rw [eI] at h88b
          have q4 := (ds_inv hI8 g3 h88b).2.2
          rw [← eI, e30] at q4
          refine A_inc fl_X11_144 lk_84 rfl 2 rfl dX11_meaning_93 dX11_meaning_94 dX11_meaning_95 dX11_meaning_98 dX11_meaning_99 dX11_meaning_100 ?_
          refine A_goto (tgt := 0) dX11_meaning_103 (by decide) ?_
          refine A_lv [2] rfl ?_
          refine ih m (by omega) n c (incS 8 (mnI K V N S (σ 84 8) (incS 8 σ)).2) r σ1 q1.i8 ?_ ?_ ?_ (by omega) hr hs
          · rw [incS_j _ (by decide)]; omega
          · rw [incS_s, q2]; omega
          · rw [incS_s, q2]; exact g2
        · have ed : mnL K V N S (n + 1) σ = mnI K V N S (σ 84 8) (incS 8 σ) := by simp only [mnL]; rw [if_neg hk25, if_neg h88]
          rw [ed] at hr hs
          refine A_iload_n dX11_meaning_91 rfl 0 rfl ?_
          refine A_wid (k2 := 18) (n2 := 72) (by omega) (by omega) ?_
          exact A_iret dX11_meaning_92 (by rw [hr]; first | done | (simp only [mnL]; rw [if_pos hk25]; first | (rw [if_pos (by omega)]; done) | (rw [if_neg (by omega)]; done))) (by rw [hs]; first | done | (simp only [mnL]; rw [if_pos hk25]; first | (rw [if_pos (by omega)]; done) | (rw [if_neg (by omega)]; done)))
    · have hk : K (σ 84 8) = 0 := of_decide_eq_true h34
      have g3 : FdO K (incS 8 σ 84 8) b := by
        rw [e8]
        rcases g1 with z | z | z | z
        · exact z.2
        · exfalso; omega
        · exfalso; omega
        · exfalso; omega
      have eI : mnI K V N S (σ 84 8) (incS 8 σ) = foM K V N S (σ 84 8) (incS 8 σ) := by unfold mnI; rw [if_pos hk]
      refine A_aload_n dX11_meaning_37 rfl 1 rfl ?_
      refine A_iload_n dX11_meaning_38 rfl 0 rfl ?_
      refine A_Va1 mv_X11_253 lk_84 rfl rfl (c_X11_food (σ 84 8) b hI8.1 hI8.2.1 ha g3) (Nat.le_of_ble_eq_true rfl) (by omega) (by omega) dX11_meaning_39 ?_
      try simp (disch := omega) only [incS_s, incS_k, incS_j, thC_keep, ad11, ad21, ad31, ad41, ad12, nc0, nc1, nc2, nc3, nc4, nc5, nc6, nc7, nc8, nc9, nc10, nc11, nc12, nc13, nc14, nc15, nc16, nc17, nc18, nc19, nc20, nc21, fnC_inc, fnC_up, dsZ_j, dsZ_8, dsT_k, loM_j, meT_j, knR_inc, knR_up]
      rw [← eI]
      refine A_goto (tgt := 86) dX11_meaning_42 (by decide) ?_
      refine A_istore_n (lv2 := [(2, _), (1, _), (0, _)]) dX11_meaning_86 rfl (by decide) rfl ?_
      refine A_iload_n dX11_meaning_87 rfl 0 rfl ?_
      refine J_if_eq (tgt := 93) dX11_meaning_88 (by decide) (by first | exact hmi | exact i32_eq (by assumption) | exact i32_eq ⟨by omega, by omega⟩ | with_reducible exact i32_i32 _ | with_reducible exact i32_eq (b2i_inr _) | rfl) (fun h88 => ?_) (fun h88 => ?_)
      · have ed : mnL K V N S (n + 1) σ = mnL K V N S n (incS 8 (mnI K V N S (σ 84 8) (incS 8 σ)).2) := by simp only [mnL]; rw [if_neg hk25, if_pos h88]
        rw [ed] at hr hs
        obtain ⟨q1, q2, q3⟩ := mnI_inv hI g1 h88
        have h88b := h88
        rw [eI] at h88b
        have q4 := (fo_inv hI8 g3 h88b).2.2
        rw [← eI, e30] at q4
        refine A_inc fl_X11_144 lk_84 rfl 2 rfl dX11_meaning_93 dX11_meaning_94 dX11_meaning_95 dX11_meaning_98 dX11_meaning_99 dX11_meaning_100 ?_
        refine A_goto (tgt := 0) dX11_meaning_103 (by decide) ?_
        refine A_lv [2] rfl ?_
        refine ih m (by omega) n c (incS 8 (mnI K V N S (σ 84 8) (incS 8 σ)).2) r σ1 q1.i8 ?_ ?_ ?_ (by omega) hr hs
        · rw [incS_j _ (by decide)]; omega
        · rw [incS_s, q2]; omega
        · rw [incS_s, q2]; exact g2
      · have ed : mnL K V N S (n + 1) σ = mnI K V N S (σ 84 8) (incS 8 σ) := by simp only [mnL]; rw [if_neg hk25, if_neg h88]
        rw [ed] at hr hs
        refine A_iload_n dX11_meaning_91 rfl 0 rfl ?_
        refine A_wid (k2 := 18) (n2 := 72) (by omega) (by omega) ?_
        exact A_iret dX11_meaning_92 (by rw [hr]; first | done | (simp only [mnL]; rw [if_pos hk25]; first | (rw [if_pos (by omega)]; done) | (rw [if_neg (by omega)]; done))) (by rw [hs]; first | done | (simp only [mnL]; rw [if_pos hk25]; first | (rw [if_pos (by omega)]; done) | (rw [if_neg (by omega)]; done)))
set_option maxRecDepth 100000 in
set_option maxHeartbeats 4000000 in
theorem c_X11_meaning (m : Nat) (hI : IV e K V N S σ) (h30 : σ 84 30 = 0) (ha : 0 ≤ σ 84 8 ∧ σ 84 8 ≤ e) (hpg : PgE K m (σ 84 8)) : Ct l G yX11_meaning cX11_meaning 3 (some .int) 9 18 72 [.ref (lay G 84)] σ (some (.int (I32 (mnL K V N S 1502 σ).1))) ((mnL K V N S 1502 σ).2) := by
  refine Ct.of (by decide +kernel) (Nat.le_of_ble_eq_true rfl) (fun f => ?_)
  show AW _ _ _ _ _ _ _ _ _ _ [(0, _)] _ _
  refine A_lv [0] rfl ?_
  exact w_X11_meaning e K V N S m 1502 0 σ _ _ hI h30.symm ha hpg (by have := PgE_len hI.1 m _ ha.2 hpg; have := hI.1.e; omega) rfl rfl
end S43
