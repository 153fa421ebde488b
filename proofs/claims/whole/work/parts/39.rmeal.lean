/-! the reference: meaning: choices told, meals, rules -/
section S39
variable {l : Launch} {G : Gx}
variable {σ : Sg} {e : Int} {K V N S : Int → Int}
theorem Tk.end (h : Tk σ e K V N S) {a : Int} (ha : 0 ≤ a ∧ a ≤ e) : K a = 25 ↔ σ 86 a.toNat = 0 := by
  rw [← h.2.1, KR_in ha, kdR_end]
def loL (K V S : Int → Int) : Nat → Sg → Int × Sg
  | 0, σ => (0, σ)
  | n + 1, σ => if K (σ 84 8) = 19 ∨ K (σ 84 8) = 17 ∨ K (σ 84 8) = 25 then (0, σ) else if K (σ 84 8) = 22 ∧ knR σ (V (σ 84 8)) = false then (2, up σ 84 4 (S (σ 84 8))) else loL K V S n (incS 8 σ)
def loM (K V S : Int → Int) (σ : Sg) : Int × Sg := loL K V S 1502 σ
theorem loL_k {k : Nat} (h : k ≠ 84) : ∀ (n : Nat) (σ : Sg), (loL K V S n σ).2 k = σ k := by
  intro n
  induction n with
  | zero => intro σ; rfl
  | succ n ih =>
    intro σ
    simp only [loL]
    split
    · rfl
    · split
      · exact up_r _ _ _ h
      · rw [ih, incS_r _ h]
theorem loL_j {j : Nat} (h : j ≠ 4 ∧ j ≠ 8) : ∀ (n : Nat) (σ : Sg), (loL K V S n σ).2 84 j = σ 84 j := by
  intro n
  induction n with
  | zero => intro σ; rfl
  | succ n ih =>
    intro σ
    simp only [loL]
    split
    · rfl
    · split
      · exact up_j _ _ h.1
      · rw [ih, incS_j _ h.2]
theorem loM_k {k j : Nat} (h : k ≠ 84) : (loM K V S σ).2 k j = σ k j := congrFun (loL_k h _ _) j
theorem loM_j {j : Nat} (h : j ≠ 4 ∧ j ≠ 8) : (loM K V S σ).2 84 j = σ 84 j := loL_j h _ _
theorem loL_res : ∀ (n : Nat) (σ : Sg), (loL K V S n σ).1 = 0 ∨ (loL K V S n σ).1 = 2 := by
  intro n
  induction n with
  | zero => intro σ; exact Or.inl rfl
  | succ n ih =>
    intro σ
    simp only [loL]
    split
    · exact Or.inl rfl
    · split
      · exact Or.inr rfl
      · exact ih _
theorem loL_at (hE : K e = 25) : ∀ (n : Nat) (σ : Sg), 0 ≤ σ 84 8 ∧ σ 84 8 ≤ e → e - σ 84 8 < n → (σ 84 8 ≤ (loL K V S n σ).2 84 8 ∧ (loL K V S n σ).2 84 8 ≤ e) ∧ ((loL K V S n σ).1 = 0 → K ((loL K V S n σ).2 84 8) = 19 ∨ K ((loL K V S n σ).2 84 8) = 17 ∨ K ((loL K V S n σ).2 84 8) = 25) := by
  intro n
  induction n with
  | zero => intro σ h1 h2; omega
  | succ n ih =>
    intro σ h1 h2
    simp only [loL]
    split
    · rename_i c; exact ⟨⟨Int.le_refl _, h1.2⟩, fun _ => c⟩
    · rename_i c
      split
      · refine ⟨?_, fun z => absurd (show (2 : Int) = 0 from z) (by decide)⟩
        dsimp only
        rw [up_j _ _ (by decide)]
        exact ⟨Int.le_refl _, h1.2⟩
      · have hne : σ 84 8 ≠ e := fun z => c (Or.inr (Or.inr (by rw [z]; exact hE)))
        have h3 := ih (incS 8 σ) (by rw [incS_s]; omega) (by rw [incS_s]; omega)
        rw [incS_s] at h3
        exact ⟨⟨by omega, h3.1.2⟩, h3.2⟩
theorem Tk.lk (h : Tk σ e K V N S) : Tk (loM K V S σ).2 e K V N S := h.cg (loM_j (by decide)) (loM_j (by decide)) (loL_k (by decide) _ _) (loL_k (by decide) _ _) (loL_k (by decide) _ _) (loL_k (by decide) _ _)
theorem loM_i32 : i32 (loM K V S σ).1 = (loM K V S σ).1 := i32_n _ (by rcases loL_res (K := K) (V := V) (S := S) 1502 σ with z | z <;> (unfold loM; rw [z]; decide))
def meT (σ : Sg) : Sg := incS 25 (up (up (up σ 103 (σ 84 25).toNat (σ 84 8)) 104 (σ 84 25).toNat (σ 84 15)) 101 (σ 84 25).toNat (σ 84 23 - 1))
def meC (K V S : Int → Int) (σ : Sg) : Int × Sg := if σ 84 25 = 8 then (4, up σ 84 4 (S (σ 84 8))) else loM K V S (meT σ)
def meL (K V S : Int → Int) : Nat → Sg → Int × Sg
  | 0, σ => (0, σ)
  | n + 1, σ => if (meC K V S (incS 8 σ)).1 = 0 then (if K ((meC K V S (incS 8 σ)).2 84 8) = 19 then meL K V S n (meC K V S (incS 8 σ)).2 else (0, (meC K V S (incS 8 σ)).2)) else ((meC K V S (incS 8 σ)).1, (meC K V S (incS 8 σ)).2)
def meM (K V S : Int → Int) (first : Int) (σ : Sg) : Int × Sg :=
  if σ 84 23 = 4 then (4, up σ 84 4 (S first))
  else if tknR σ (V (σ 84 8)) = true then (3, up σ 84 4 (S (σ 84 8)))
  else meL K V S 1502 (incS 8 (incS 23 (up σ 100 (σ 84 23).toNat (V (σ 84 8)))))
theorem Tk.meU (h : Tk σ e K V N S) : Tk (meT σ) e K V N S := Tk.i (by decide) (Tk.x (by decide) (Tk.x (by decide) (Tk.x (by decide) h)))
theorem meT_j {j : Nat} (h : j ≠ 25) : meT σ 84 j = σ 84 j := by unfold meT; rw [incS_j _ h, up_k _ _ (by decide), up_k _ _ (by decide), up_k _ _ (by decide)]
theorem meT_25 : meT σ 84 25 = σ 84 25 + 1 := by unfold meT; rw [incS_s, up_k _ _ (by decide), up_k _ _ (by decide), up_k _ _ (by decide)]
theorem Cn.meU (h : Cn σ) (h2 : σ 84 25 ≠ 8) : Cn (meT σ) := by
  obtain ⟨h1, h3, h4, h5, h6, h7⟩ := h
  unfold Cn
  rw [meT_25, meT_j (by decide), meT_j (by decide), meT_j (by decide), meT_j (by decide), meT_j (by decide)]
  exact ⟨h1, h3, h4, ⟨by omega, by omega⟩, h6, h7⟩
theorem Cn.lk (h : Cn σ) : Cn (loM K V S σ).2 := h.cg (loM_j (by decide)) (loM_j (by decide)) (loM_j (by decide)) (loM_j (by decide)) (loM_j (by decide)) (loM_j (by decide))
/-- while meals are read -/
def MI (e : Int) (K V N S : Int → Int) (σ : Sg) : Prop := Tk σ e K V N S ∧ Cn σ ∧ (0 ≤ σ 84 8 ∧ σ 84 8 ≤ e)
theorem MI.me (h : MI e K V N S σ) (h0 : (meC K V S σ).1 = 0) : MI e K V N S (meC K V S σ).2 ∧ σ 84 8 ≤ (meC K V S σ).2 84 8 ∧ σ 84 25 ≠ 8 := by
  obtain ⟨h1, h2, h3⟩ := h
  unfold meC at h0 ⊢
  split
  · rename_i c; rw [if_pos c] at h0; exact absurd (show (4 : Int) = 0 from h0) (by decide)
  · rename_i c
    have he := h1.e
    have h4 := loL_at (K := K) (V := V) (S := S) h1.E 1502 (meT σ) (by rw [meT_j (by decide)]; exact h3) (by rw [meT_j (by decide)]; omega)
    rw [meT_j (by decide)] at h4
    exact ⟨⟨h1.meU.lk, (h2.meU c).lk, by have := h4.1; exact ⟨by have := this.1; have := h3.1; show 0 ≤ (loM K V S (meT σ)).2 84 8; unfold loM; omega, this.2⟩⟩, h4.1.1, c⟩
theorem meC_i32 : i32 (meC K V S σ).1 = (meC K V S σ).1 := by
  unfold meC
  split
  · exact i32_n 4 (by decide)
  · exact loM_i32
set_option maxRecDepth 100000 in
set_option maxHeartbeats 4000000 in
theorem w_X11_look {f : Fm} (e : Int) (K V N S : Int → Int) : ∀ (n : Nat) (σ : Sg) (r : Option Value) (σ1 : Sg), Tk σ e K V N S → Cn σ → 0 ≤ σ 84 8 ∧ σ 84 8 ≤ e → e - σ 84 8 < n → r = some (.int (I32 (loL K V S n σ).1)) → σ1 = (loL K V S n σ).2 → AW l G f (RX11, cX11_look, 1, (some .int)) (6, 0, 0) (QT G f 0 0 r σ1) [] 0 0 0 [(0, .ref (lay G 84))] [] σ := by
  intro n
  induction n using Nat.strongRecOn with | _ n ih =>
  intro σ r σ1 hT hC ha hn hr hs
  obtain ⟨n, rfl⟩ : ∃ q, n = q + 1 := ⟨n - 1, by omega⟩
  have he := hT.e
  have ht1 := hT.1.2.1 (σ 84 8).toNat
  have hen := hT.end ha
  refine A_aload_n dX11_look_0 rfl 0 rfl ?_
  refine A_ldcs (i := 19) (by decide +kernel) dX11_look_1 ?_
  refine A_Va1 mv_X11_147 lk_84 rfl rfl (c_seesT hT 19 ha (by decide)) (Nat.le_of_ble_eq_true rfl) (by omega) (by omega) dX11_look_3 ?_
  try simp (disch := omega) only [incS_s, incS_k, incS_j, thC_keep, ad11, ad21, ad31, ad41, ad12, nc0, nc1, nc2, nc3, nc4, nc5, nc6, nc7, nc8, nc9, nc10, nc11, nc12, nc13, nc14, nc15, nc16, nc17, nc18, nc19, nc20, nc21, fnC_inc, fnC_up, dsZ_j, dsZ_8, dsT_k, loM_j, meT_j]
  refine A_ifne_b (tgt := 75) dX11_look_6 (by decide) (fun h6 => ?_) (fun h6 => ?_)
  · refine A_iconst dX11_look_75 ?_
    exact A_iret dX11_look_76 (by rw [hr]; clear ih; simp only [loL]; first | (rw [if_pos (Or.inl (of_decide_eq_true h6))]; done) | (rw [if_pos (Or.inr (Or.inl (of_decide_eq_true h15)))]; done) | (rw [if_pos (Or.inr (Or.inr (hen.mpr h27)))]; done) | (rw [if_neg hno, if_pos ⟨of_decide_eq_true h38, h49⟩]; done)) (by rw [hs]; clear ih; simp only [loL]; first | (rw [if_pos (Or.inl (of_decide_eq_true h6))]; done) | (rw [if_pos (Or.inr (Or.inl (of_decide_eq_true h15)))]; done) | (rw [if_pos (Or.inr (Or.inr (hen.mpr h27)))]; done) | (rw [if_neg hno, if_pos ⟨of_decide_eq_true h38, h49⟩]; done))
  · refine A_aload_n dX11_look_9 rfl 0 rfl ?_
    refine A_ldcs (i := 17) (by decide +kernel) dX11_look_10 ?_
    refine A_Va1 mv_X11_147 lk_84 rfl rfl (c_seesT hT 17 ha (by decide)) (Nat.le_of_ble_eq_true rfl) (by omega) (by omega) dX11_look_12 ?_
    try simp (disch := omega) only [incS_s, incS_k, incS_j, thC_keep, ad11, ad21, ad31, ad41, ad12, nc0, nc1, nc2, nc3, nc4, nc5, nc6, nc7, nc8, nc9, nc10, nc11, nc12, nc13, nc14, nc15, nc16, nc17, nc18, nc19, nc20, nc21, fnC_inc, fnC_up, dsZ_j, dsZ_8, dsT_k, loM_j, meT_j]
    refine A_ifne_b (tgt := 75) dX11_look_15 (by decide) (fun h15 => ?_) (fun h15 => ?_)
    · refine A_iconst dX11_look_75 ?_
      exact A_iret dX11_look_76 (by rw [hr]; clear ih; simp only [loL]; first | (rw [if_pos (Or.inl (of_decide_eq_true h6))]; done) | (rw [if_pos (Or.inr (Or.inl (of_decide_eq_true h15)))]; done) | (rw [if_pos (Or.inr (Or.inr (hen.mpr h27)))]; done) | (rw [if_neg hno, if_pos ⟨of_decide_eq_true h38, h49⟩]; done)) (by rw [hs]; clear ih; simp only [loL]; first | (rw [if_pos (Or.inl (of_decide_eq_true h6))]; done) | (rw [if_pos (Or.inr (Or.inl (of_decide_eq_true h15)))]; done) | (rw [if_pos (Or.inr (Or.inr (hen.mpr h27)))]; done) | (rw [if_neg hno, if_pos ⟨of_decide_eq_true h38, h49⟩]; done))
    · refine A_aload_n dX11_look_18 rfl 0 rfl ?_
      refine A_getr fl_X11_17 lk_84 rfl dX11_look_19 ?_
      refine A_aload_n dX11_look_22 rfl 0 rfl ?_
      refine A_geti fl_X11_144 lk_84 rfl dX11_look_23 ?_
      try simp (disch := omega) only [up_k, up_j, up_s, incS_s, incS_k, incS_j, thC_keep, ad11, ad21, ad31, ad41, ad12, nc0, nc1, nc2, nc3, nc4, nc5, nc6, nc7, nc8, nc9, nc10, nc11, nc12, nc13, nc14, nc15, nc16, nc17, nc18, nc19, nc20, nc21, fnC_inc, fnC_up, dsZ_j, dsZ_8, dsT_k, loM_j, meT_j]
      refine J_iald lk_86 (by first | exact hqi | exact i32_eq (by assumption) | exact i32_eq ⟨by omega, by omega⟩ | with_reducible exact i32_i32 _ | with_reducible exact i32_eq (b2i_inr _) | rfl) (by omega) (by omega) (by decide) dX11_look_26 ?_
      try simp (disch := omega) only [up_k, up_j, up_s, incS_s, incS_k, incS_j, thC_keep, ad11, ad21, ad31, ad41, ad12, nc0, nc1, nc2, nc3, nc4, nc5, nc6, nc7, nc8, nc9, nc10, nc11, nc12, nc13, nc14, nc15, nc16, nc17, nc18, nc19, nc20, nc21, fnC_inc, fnC_up, dsZ_j, dsZ_8, dsT_k, loM_j, meT_j]
      refine J_if_eq (tgt := 75) dX11_look_27 (by decide) (by first | exact hqi | exact i32_eq (by assumption) | exact i32_eq ⟨by omega, by omega⟩ | with_reducible exact i32_i32 _ | with_reducible exact i32_eq (b2i_inr _) | rfl) (fun h27 => ?_) (fun h27 => ?_)
      · refine A_iconst dX11_look_75 ?_
        exact A_iret dX11_look_76 (by rw [hr]; clear ih; simp only [loL]; first | (rw [if_pos (Or.inl (of_decide_eq_true h6))]; done) | (rw [if_pos (Or.inr (Or.inl (of_decide_eq_true h15)))]; done) | (rw [if_pos (Or.inr (Or.inr (hen.mpr h27)))]; done) | (rw [if_neg hno, if_pos ⟨of_decide_eq_true h38, h49⟩]; done)) (by rw [hs]; clear ih; simp only [loL]; first | (rw [if_pos (Or.inl (of_decide_eq_true h6))]; done) | (rw [if_pos (Or.inr (Or.inl (of_decide_eq_true h15)))]; done) | (rw [if_pos (Or.inr (Or.inr (hen.mpr h27)))]; done) | (rw [if_neg hno, if_pos ⟨of_decide_eq_true h38, h49⟩]; done))
      · have hno : ¬ (K (σ 84 8) = 19 ∨ K (σ 84 8) = 17 ∨ K (σ 84 8) = 25) := by
          have q1 := of_decide_eq_false h6
          have q2 := of_decide_eq_false h15
          have q3 : ¬ K (σ 84 8) = 25 := fun z => h27 (hen.mp z)
          try simp only [nc17, nc19] at q1 q2
          omega
        have hne : σ 84 8 ≠ e := fun z => hno (Or.inr (Or.inr (by rw [z]; exact hT.E)))
        refine A_aload_n dX11_look_30 rfl 0 rfl ?_
        refine A_aload_n dX11_look_31 rfl 0 rfl ?_
        refine A_geti fl_X11_144 lk_84 rfl dX11_look_32 ?_
        try simp (disch := omega) only [up_k, up_j, up_s, incS_s, incS_k, incS_j, thC_keep, ad11, ad21, ad31, ad41, ad12, nc0, nc1, nc2, nc3, nc4, nc5, nc6, nc7, nc8, nc9, nc10, nc11, nc12, nc13, nc14, nc15, nc16, nc17, nc18, nc19, nc20, nc21, fnC_inc, fnC_up, dsZ_j, dsZ_8, dsT_k, loM_j, meT_j]
        refine A_Va1 mv_X11_151 lk_84 rfl rfl (c_isNameT hT _ ha) (Nat.le_of_ble_eq_true rfl) (by omega) (by omega) dX11_look_35 ?_
        try simp (disch := omega) only [incS_s, incS_k, incS_j, thC_keep, ad11, ad21, ad31, ad41, ad12, nc0, nc1, nc2, nc3, nc4, nc5, nc6, nc7, nc8, nc9, nc10, nc11, nc12, nc13, nc14, nc15, nc16, nc17, nc18, nc19, nc20, nc21, fnC_inc, fnC_up, dsZ_j, dsZ_8, dsT_k, loM_j, meT_j]
        refine A_ifeq_b (tgt := 62) dX11_look_38 (by decide) (fun h38 => ?_) (fun h38 => ?_)
        · refine A_inc fl_X11_144 lk_84 rfl 0 rfl dX11_look_62 dX11_look_63 dX11_look_64 dX11_look_67 dX11_look_68 dX11_look_69 ?_
          refine A_goto (tgt := 0) dX11_look_72 (by decide) ?_
          refine A_lv [0] rfl ?_
          have hst : loL K V S (n + 1) σ = loL K V S n (incS 8 σ) := by
            simp only [loL]; rw [if_neg hno, if_neg (by first | (rintro ⟨-, z⟩; rw [h49] at z; cases z) | (rintro ⟨z, -⟩; exact of_decide_eq_false h38 z))]
          rw [hst] at hr hs
          exact ih n (by omega) (incS 8 σ) r σ1 (hT.i (by decide)) hC (by rw [incS_s]; omega) (by rw [incS_s]; omega) hr hs
        · refine A_aload_n dX11_look_41 rfl 0 rfl ?_
          refine A_aload_n dX11_look_42 rfl 0 rfl ?_
          refine A_geti fl_X11_144 lk_84 rfl dX11_look_43 ?_
          try simp (disch := omega) only [up_k, up_j, up_s, incS_s, incS_k, incS_j, thC_keep, ad11, ad21, ad31, ad41, ad12, nc0, nc1, nc2, nc3, nc4, nc5, nc6, nc7, nc8, nc9, nc10, nc11, nc12, nc13, nc14, nc15, nc16, nc17, nc18, nc19, nc20, nc21, fnC_inc, fnC_up, dsZ_j, dsZ_8, dsT_k, loM_j, meT_j]
          refine A_Va1 mv_X11_295 lk_84 rfl rfl (c_X11_isKnown _ hT hC.2.1 hC.2.2.2.2.2 ha) (Nat.le_of_ble_eq_true rfl) (by omega) (by omega) dX11_look_46 ?_
          try simp (disch := omega) only [incS_s, incS_k, incS_j, thC_keep, ad11, ad21, ad31, ad41, ad12, nc0, nc1, nc2, nc3, nc4, nc5, nc6, nc7, nc8, nc9, nc10, nc11, nc12, nc13, nc14, nc15, nc16, nc17, nc18, nc19, nc20, nc21, fnC_inc, fnC_up, dsZ_j, dsZ_8, dsT_k, loM_j, meT_j]
          refine A_ifne_b (tgt := 62) dX11_look_49 (by decide) (fun h49 => ?_) (fun h49 => ?_)
          · refine A_inc fl_X11_144 lk_84 rfl 0 rfl dX11_look_62 dX11_look_63 dX11_look_64 dX11_look_67 dX11_look_68 dX11_look_69 ?_
            refine A_goto (tgt := 0) dX11_look_72 (by decide) ?_
            refine A_lv [0] rfl ?_
            have hst : loL K V S (n + 1) σ = loL K V S n (incS 8 σ) := by
              simp only [loL]; rw [if_neg hno, if_neg (by first | (rintro ⟨-, z⟩; rw [h49] at z; cases z) | (rintro ⟨z, -⟩; exact of_decide_eq_false h38 z))]
            rw [hst] at hr hs
            exact ih n (by omega) (incS 8 σ) r σ1 (hT.i (by decide)) hC (by rw [incS_s]; omega) (by rw [incS_s]; omega) hr hs
          · refine A_aload_n dX11_look_52 rfl 0 rfl ?_
            refine A_iconst dX11_look_53 ?_
            refine A_aload_n dX11_look_54 rfl 0 rfl ?_
            refine A_geti fl_X11_144 lk_84 rfl dX11_look_55 ?_
            try simp (disch := omega) only [up_k, up_j, up_s, incS_s, incS_k, incS_j, thC_keep, ad11, ad21, ad31, ad41, ad12, nc0, nc1, nc2, nc3, nc4, nc5, nc6, nc7, nc8, nc9, nc10, nc11, nc12, nc13, nc14, nc15, nc16, nc17, nc18, nc19, nc20, nc21, fnC_inc, fnC_up, dsZ_j, dsZ_8, dsT_k, loM_j, meT_j]
            refine A_Va2 mv_X11_261 lk_84 rfl rfl (c_wrongT hT _ _ ha) (Nat.le_of_ble_eq_true rfl) (by omega) (by omega) dX11_look_58 ?_
            try simp (disch := omega) only [incS_s, incS_k, incS_j, thC_keep, ad11, ad21, ad31, ad41, ad12, nc0, nc1, nc2, nc3, nc4, nc5, nc6, nc7, nc8, nc9, nc10, nc11, nc12, nc13, nc14, nc15, nc16, nc17, nc18, nc19, nc20, nc21, fnC_inc, fnC_up, dsZ_j, dsZ_8, dsT_k, loM_j, meT_j]
            exact A_iret dX11_look_61 (by rw [hr]; clear ih; simp only [loL]; first | (rw [if_pos (Or.inl (of_decide_eq_true h6))]; done) | (rw [if_pos (Or.inr (Or.inl (of_decide_eq_true h15)))]; done) | (rw [if_pos (Or.inr (Or.inr (hen.mpr h27)))]; done) | (rw [if_neg hno, if_pos ⟨of_decide_eq_true h38, h49⟩]; done)) (by rw [hs]; clear ih; simp only [loL]; first | (rw [if_pos (Or.inl (of_decide_eq_true h6))]; done) | (rw [if_pos (Or.inr (Or.inl (of_decide_eq_true h15)))]; done) | (rw [if_pos (Or.inr (Or.inr (hen.mpr h27)))]; done) | (rw [if_neg hno, if_pos ⟨of_decide_eq_true h38, h49⟩]; done))
set_option maxRecDepth 100000 in
set_option maxHeartbeats 4000000 in
theorem c_X11_look  (hT : Tk σ e K V N S) (hC : Cn σ) (ha : 0 ≤ σ 84 8 ∧ σ 84 8 ≤ e) : Ct l G yX11_look cX11_look 1 (some .int) 6 0 0 [.ref (lay G 84)] σ (some (.int (I32 (loM K V S σ).1))) ((loM K V S σ).2) := by
  refine Ct.of (by decide +kernel) (Nat.le_of_ble_eq_true rfl) (fun f => ?_)
  show AW _ _ _ _ _ _ _ _ _ _ [(0, _)] _ _
  refine A_lv [0] rfl ?_
  exact w_X11_look e K V N S 1502 σ _ _ hT hC ha (by have := hT.e; omega) rfl rfl
set_option maxRecDepth 100000 in
set_option maxHeartbeats 4000000 in
theorem w_X11_meal77 {f : Fm} (e : Int) (K V N S : Int → Int) (first : Int) : ∀ (n : Nat) (σ : Sg) (r : Option Value) (σ1 : Sg), Tk σ e K V N S → Cn σ → (0 ≤ σ 84 8 ∧ σ 84 8 < e) → e - σ 84 8 < n → r = some (.int (I32 (meL K V S n σ).1)) → σ1 = (meL K V S n σ).2 → AW l G f (RX11, cX11_meal, 3, (some .int)) (7, 0, 0) (QT G f 0 0 r σ1) [] 0 0 77 [(0, .ref (lay G 84)), (1, .int (I32 first))] [] σ := by
  intro n
  induction n using Nat.strongRecOn with | _ n ih =>
  intro σ r σ1 hT hC ha hn hr hs
  obtain ⟨n, rfl⟩ : ∃ q, n = q + 1 := ⟨n - 1, by omega⟩
  have he := hT.e
  have hM : MI e K V N S (incS 8 σ) := ⟨hT.i (by decide), hC, by rw [incS_s]; omega⟩
  obtain ⟨hT8, hC8, ha8⟩ := id hM
  obtain ⟨hC1, hC2, hC3, hC4, hC5, hC6⟩ := id hC
  have hqi := meC_i32 (σ := incS 8 σ) (K := K) (V := V) (S := S)
  refine A_inc fl_X11_144 lk_84 rfl 0 rfl dX11_meal_77 dX11_meal_78 dX11_meal_79 dX11_meal_82 dX11_meal_83 dX11_meal_84 ?_
  refine A_aload_n dX11_meal_87 rfl 0 rfl ?_
  refine A_geti fl_X11_289 lk_84 rfl dX11_meal_88 ?_
  try simp (disch := omega) only [up_k, up_j, up_s, incS_s, incS_k, incS_j, thC_keep, ad11, ad21, ad31, ad41, ad12, nc0, nc1, nc2, nc3, nc4, nc5, nc6, nc7, nc8, nc9, nc10, nc11, nc12, nc13, nc14, nc15, nc16, nc17, nc18, nc19, nc20, nc21, fnC_inc, fnC_up, dsZ_j, dsZ_8, dsT_k, loM_j, meT_j]
  refine A_bipush dX11_meal_91 (by decide +kernel) ?_
  refine J_icmp_ne (tgt := 106) dX11_meal_93 (by decide) (by first | exact hqi | exact i32_eq (by assumption) | exact i32_eq ⟨by omega, by omega⟩ | with_reducible exact i32_i32 _ | with_reducible exact i32_eq (b2i_inr _) | rfl) (by first | exact hqi | exact i32_eq (by assumption) | exact i32_eq ⟨by omega, by omega⟩ | with_reducible exact i32_i32 _ | with_reducible exact i32_eq (b2i_inr _) | rfl) (fun h93 => ?_) (fun h93 => ?_)
  · have h93b : incS 8 σ 84 25 ≠ 8 := h93
    have eC : meC K V S (incS 8 σ) = loM K V S (meT (incS 8 σ)) := if_neg h93b
    refine A_aload_n dX11_meal_106 rfl 0 rfl ?_
    refine A_getr fl_X11_69 lk_84 rfl dX11_meal_107 ?_
    refine A_aload_n dX11_meal_110 rfl 0 rfl ?_
    refine A_geti fl_X11_289 lk_84 rfl dX11_meal_111 ?_
    try simp (disch := omega) only [up_k, up_j, up_s, incS_s, incS_k, incS_j, thC_keep, ad11, ad21, ad31, ad41, ad12, nc0, nc1, nc2, nc3, nc4, nc5, nc6, nc7, nc8, nc9, nc10, nc11, nc12, nc13, nc14, nc15, nc16, nc17, nc18, nc19, nc20, nc21, fnC_inc, fnC_up, dsZ_j, dsZ_8, dsT_k, loM_j, meT_j]
    refine A_aload_n dX11_meal_114 rfl 0 rfl ?_
    refine A_geti fl_X11_144 lk_84 rfl dX11_meal_115 ?_
    try simp (disch := omega) only [up_k, up_j, up_s, incS_s, incS_k, incS_j, thC_keep, ad11, ad21, ad31, ad41, ad12, nc0, nc1, nc2, nc3, nc4, nc5, nc6, nc7, nc8, nc9, nc10, nc11, nc12, nc13, nc14, nc15, nc16, nc17, nc18, nc19, nc20, nc21, fnC_inc, fnC_up, dsZ_j, dsZ_8, dsT_k, loM_j, meT_j]
    refine J_iast lk_103 (by first | exact hqi | exact i32_eq (by assumption) | exact i32_eq ⟨by omega, by omega⟩ | with_reducible exact i32_i32 _ | with_reducible exact i32_eq (b2i_inr _) | rfl) (by omega) (by omega) (by decide) dX11_meal_118 ?_
    refine A_aload_n dX11_meal_119 rfl 0 rfl ?_
    refine A_getr fl_X11_72 lk_84 rfl dX11_meal_120 ?_
    refine A_aload_n dX11_meal_123 rfl 0 rfl ?_
    refine A_geti fl_X11_289 lk_84 rfl dX11_meal_124 ?_
    try simp (disch := omega) only [up_k, up_j, up_s, incS_s, incS_k, incS_j, thC_keep, ad11, ad21, ad31, ad41, ad12, nc0, nc1, nc2, nc3, nc4, nc5, nc6, nc7, nc8, nc9, nc10, nc11, nc12, nc13, nc14, nc15, nc16, nc17, nc18, nc19, nc20, nc21, fnC_inc, fnC_up, dsZ_j, dsZ_8, dsT_k, loM_j, meT_j]
    refine A_aload_n dX11_meal_127 rfl 0 rfl ?_
    refine A_geti fl_X11_247 lk_84 rfl dX11_meal_128 ?_
    try simp (disch := omega) only [up_k, up_j, up_s, incS_s, incS_k, incS_j, thC_keep, ad11, ad21, ad31, ad41, ad12, nc0, nc1, nc2, nc3, nc4, nc5, nc6, nc7, nc8, nc9, nc10, nc11, nc12, nc13, nc14, nc15, nc16, nc17, nc18, nc19, nc20, nc21, fnC_inc, fnC_up, dsZ_j, dsZ_8, dsT_k, loM_j, meT_j]
    refine J_iast lk_104 (by first | exact hqi | exact i32_eq (by assumption) | exact i32_eq ⟨by omega, by omega⟩ | with_reducible exact i32_i32 _ | with_reducible exact i32_eq (b2i_inr _) | rfl) (by omega) (by omega) (by decide) dX11_meal_131 ?_
    refine A_aload_n dX11_meal_132 rfl 0 rfl ?_
    refine A_getr fl_X11_63 lk_84 rfl dX11_meal_133 ?_
    refine A_aload_n dX11_meal_136 rfl 0 rfl ?_
    refine A_geti fl_X11_289 lk_84 rfl dX11_meal_137 ?_
    try simp (disch := omega) only [up_k, up_j, up_s, incS_s, incS_k, incS_j, thC_keep, ad11, ad21, ad31, ad41, ad12, nc0, nc1, nc2, nc3, nc4, nc5, nc6, nc7, nc8, nc9, nc10, nc11, nc12, nc13, nc14, nc15, nc16, nc17, nc18, nc19, nc20, nc21, fnC_inc, fnC_up, dsZ_j, dsZ_8, dsT_k, loM_j, meT_j]
    refine A_aload_n dX11_meal_140 rfl 0 rfl ?_
    refine A_geti fl_X11_250 lk_84 rfl dX11_meal_141 ?_
    try simp (disch := omega) only [up_k, up_j, up_s, incS_s, incS_k, incS_j, thC_keep, ad11, ad21, ad31, ad41, ad12, nc0, nc1, nc2, nc3, nc4, nc5, nc6, nc7, nc8, nc9, nc10, nc11, nc12, nc13, nc14, nc15, nc16, nc17, nc18, nc19, nc20, nc21, fnC_inc, fnC_up, dsZ_j, dsZ_8, dsT_k, loM_j, meT_j]
    refine A_iconst dX11_meal_144 ?_
    refine A_isub dX11_meal_145 ?_
    refine J_iast lk_101 (by first | exact hqi | exact i32_eq (by assumption) | exact i32_eq ⟨by omega, by omega⟩ | with_reducible exact i32_i32 _ | with_reducible exact i32_eq (b2i_inr _) | rfl) (by omega) (by omega) (by decide) dX11_meal_146 ?_
    refine A_inc fl_X11_289 lk_84 rfl 0 rfl dX11_meal_147 dX11_meal_148 dX11_meal_149 dX11_meal_152 dX11_meal_153 dX11_meal_154 ?_
    show AW _ _ _ _ _ _ _ _ _ _ _ _ (meT (incS 8 σ))
    refine A_aload_n dX11_meal_157 rfl 0 rfl ?_
    refine A_Va0 mv_X11_292 lk_84 rfl rfl (c_X11_look (hT8.meU) (hC8.meU h93b) (by rw [meT_j (by decide)]; exact ha8)) (Nat.le_of_ble_eq_true rfl) (by omega) (by omega) dX11_meal_158 ?_
    try simp (disch := omega) only [incS_s, incS_k, incS_j, thC_keep, ad11, ad21, ad31, ad41, ad12, nc0, nc1, nc2, nc3, nc4, nc5, nc6, nc7, nc8, nc9, nc10, nc11, nc12, nc13, nc14, nc15, nc16, nc17, nc18, nc19, nc20, nc21, fnC_inc, fnC_up, dsZ_j, dsZ_8, dsT_k, loM_j, meT_j]
    rw [← eC]
    refine A_istore_n (lv2 := [(2, _), (0, _), (1, _)]) dX11_meal_161 rfl (by decide) rfl ?_
    refine A_iload_n dX11_meal_162 rfl 0 rfl ?_
    refine J_if_eq (tgt := 168) dX11_meal_163 (by decide) (by first | exact hqi | exact i32_eq (by assumption) | exact i32_eq ⟨by omega, by omega⟩ | with_reducible exact i32_i32 _ | with_reducible exact i32_eq (b2i_inr _) | rfl) (fun h163 => ?_) (fun h163 => ?_)
    · obtain ⟨hMq, hle, -⟩ := hM.me h163
      refine A_aload_n dX11_meal_168 rfl 1 rfl ?_
      refine A_ldcs (i := 19) (by decide +kernel) dX11_meal_169 ?_
      refine A_Va1 mv_X11_147 lk_84 rfl rfl (c_seesT hMq.1 19 hMq.2.2 (by decide)) (Nat.le_of_ble_eq_true rfl) (by omega) (by omega) dX11_meal_171 ?_
      try simp (disch := omega) only [incS_s, incS_k, incS_j, thC_keep, ad11, ad21, ad31, ad41, ad12, nc0, nc1, nc2, nc3, nc4, nc5, nc6, nc7, nc8, nc9, nc10, nc11, nc12, nc13, nc14, nc15, nc16, nc17, nc18, nc19, nc20, nc21, fnC_inc, fnC_up, dsZ_j, dsZ_8, dsT_k, loM_j, meT_j]
      refine A_ifne_b (tgt := 77) dX11_meal_174 (by decide) (fun h174 => ?_) (fun h174 => ?_)
      · have hkq : K ((meC K V S (incS 8 σ)).2 84 8) = 19 := of_decide_eq_true h174
        have ed : meL K V S (n + 1) σ = meL K V S n (meC K V S (incS 8 σ)).2 := by simp only [meL]; rw [if_pos h163, if_pos hkq]
        rw [ed] at hr hs
        have hin := hT.in hkq (by decide)
        refine A_lv [1, 2] rfl ?_
        rw [incS_s] at hle
        exact ih n (by omega) _ r σ1 hMq.1 hMq.2.1 hin (by omega) hr hs
      · have hkq : ¬ K ((meC K V S (incS 8 σ)).2 84 8) = 19 := of_decide_eq_false h174
        have ed : meL K V S (n + 1) σ = (0, (meC K V S (incS 8 σ)).2) := by simp only [meL]; rw [if_pos h163, if_neg hkq]
        rw [ed] at hr hs
        refine A_iconst dX11_meal_177 ?_
        exact A_iret dX11_meal_178 (by rw [hr]) (by rw [hs] <;> (try dsimp only) <;> (try rw [incS_s]))
    · have ed : meL K V S (n + 1) σ = meC K V S (incS 8 σ) := by simp only [meL]; rw [if_neg h163]
      rw [ed] at hr hs
      refine A_iload_n dX11_meal_166 rfl 0 rfl ?_
      exact A_iret dX11_meal_167 (by rw [hr]) (by rw [hs] <;> (try dsimp only) <;> (try rw [incS_s]))
  · have eC : meC K V S (incS 8 σ) = (4, up (incS 8 σ) 84 4 (S (incS 8 σ 84 8))) := if_pos h93
    have ed : meL K V S (n + 1) σ = meC K V S (incS 8 σ) := by simp only [meL]; rw [if_neg (by rw [eC]; exact (by decide : ¬ (4 : Int) = 0))]
    rw [ed, eC] at hr hs
    refine A_aload_n dX11_meal_96 rfl 0 rfl ?_
    refine A_iconst dX11_meal_97 ?_
    refine A_aload_n dX11_meal_98 rfl 0 rfl ?_
    refine A_geti fl_X11_144 lk_84 rfl dX11_meal_99 ?_
    try simp (disch := omega) only [up_k, up_j, up_s, incS_s, incS_k, incS_j, thC_keep, ad11, ad21, ad31, ad41, ad12, nc0, nc1, nc2, nc3, nc4, nc5, nc6, nc7, nc8, nc9, nc10, nc11, nc12, nc13, nc14, nc15, nc16, nc17, nc18, nc19, nc20, nc21, fnC_inc, fnC_up, dsZ_j, dsZ_8, dsT_k, loM_j, meT_j]
    refine A_Va2 mv_X11_261 lk_84 rfl rfl (c_wrongT hT8 _ _ (by rw [incS_s] at ha8; exact ha8)) (Nat.le_of_ble_eq_true rfl) (by omega) (by omega) dX11_meal_102 ?_
    try simp (disch := omega) only [incS_s, incS_k, incS_j, thC_keep, ad11, ad21, ad31, ad41, ad12, nc0, nc1, nc2, nc3, nc4, nc5, nc6, nc7, nc8, nc9, nc10, nc11, nc12, nc13, nc14, nc15, nc16, nc17, nc18, nc19, nc20, nc21, fnC_inc, fnC_up, dsZ_j, dsZ_8, dsT_k, loM_j, meT_j]
    exact A_iret dX11_meal_105 (by rw [hr]) (by rw [hs] <;> (try dsimp only) <;> (try rw [incS_s]))
set_option maxRecDepth 100000 in
set_option maxHeartbeats 4000000 in
theorem c_X11_meal (first : Int) (hT : Tk σ e K V N S) (hC : Cn σ) (hfi : 0 ≤ first ∧ first ≤ e) (hg : K (σ 84 8) = 22 ∧ K (σ 84 8 + 1) = 18) : Ct l G yX11_meal cX11_meal 3 (some .int) 7 0 0 [.ref (lay G 84), .int (I32 first)] σ (some (.int (I32 (meM K V S first σ).1))) ((meM K V S first σ).2) := by
  obtain ⟨g1, g2⟩ := hg
  obtain ⟨hC1, hC2, hC3, hC4, hC5, hC6⟩ := id hC
  have ha := hT.in g1 (by decide)
  have ha1 := hT.in g2 (by decide)
  refine Ct.of (by decide +kernel) (Nat.le_of_ble_eq_true rfl) (fun f => ?_)
  show AW _ _ _ _ _ _ _ _ _ _ [(0, _), (1, _)] _ _
  refine A_aload_n dX11_meal_0 rfl 0 rfl ?_
  refine A_geti fl_X11_250 lk_84 rfl dX11_meal_1 ?_
  try simp (disch := omega) only [up_k, up_j, up_s, incS_s, incS_k, incS_j, thC_keep, ad11, ad21, ad31, ad41, ad12, nc0, nc1, nc2, nc3, nc4, nc5, nc6, nc7, nc8, nc9, nc10, nc11, nc12, nc13, nc14, nc15, nc16, nc17, nc18, nc19, nc20, nc21, fnC_inc, fnC_up, dsZ_j, dsZ_8, dsT_k, loM_j, meT_j]
  refine A_iconst dX11_meal_4 ?_
  refine J_icmp_ne (tgt := 15) dX11_meal_5 (by decide) (by first | exact i32_eq (by assumption) | exact i32_eq ⟨by omega, by omega⟩ | with_reducible exact i32_i32 _ | with_reducible exact i32_eq (b2i_inr _) | rfl) (by first | exact i32_eq (by assumption) | exact i32_eq ⟨by omega, by omega⟩ | with_reducible exact i32_i32 _ | with_reducible exact i32_eq (b2i_inr _) | rfl) (fun h5 => ?_) (fun h5 => ?_)
  · refine A_aload_n dX11_meal_15 rfl 0 rfl ?_
    refine A_aload_n dX11_meal_16 rfl 0 rfl ?_
    refine A_aload_n dX11_meal_17 rfl 0 rfl ?_
    refine A_geti fl_X11_144 lk_84 rfl dX11_meal_18 ?_
    try simp (disch := omega) only [up_k, up_j, up_s, incS_s, incS_k, incS_j, thC_keep, ad11, ad21, ad31, ad41, ad12, nc0, nc1, nc2, nc3, nc4, nc5, nc6, nc7, nc8, nc9, nc10, nc11, nc12, nc13, nc14, nc15, nc16, nc17, nc18, nc19, nc20, nc21, fnC_inc, fnC_up, dsZ_j, dsZ_8, dsT_k, loM_j, meT_j]
    refine A_Va1 mv_X11_265 lk_84 rfl rfl (c_nameT hT _ ⟨by omega, by omega⟩) (Nat.le_of_ble_eq_true rfl) (by omega) (by omega) dX11_meal_21 ?_
    try simp (disch := omega) only [incS_s, incS_k, incS_j, thC_keep, ad11, ad21, ad31, ad41, ad12, nc0, nc1, nc2, nc3, nc4, nc5, nc6, nc7, nc8, nc9, nc10, nc11, nc12, nc13, nc14, nc15, nc16, nc17, nc18, nc19, nc20, nc21, fnC_inc, fnC_up, dsZ_j, dsZ_8, dsT_k, loM_j, meT_j]
    refine A_Va1 mv_X11_272 lk_84 rfl rfl (c_X11_isTaken σ _ hC1 hC2 hC3) (Nat.le_of_ble_eq_true rfl) (by omega) (by omega) dX11_meal_24 ?_
    try simp (disch := omega) only [incS_s, incS_k, incS_j, thC_keep, ad11, ad21, ad31, ad41, ad12, nc0, nc1, nc2, nc3, nc4, nc5, nc6, nc7, nc8, nc9, nc10, nc11, nc12, nc13, nc14, nc15, nc16, nc17, nc18, nc19, nc20, nc21, fnC_inc, fnC_up, dsZ_j, dsZ_8, dsT_k, loM_j, meT_j]
    refine A_ifeq_b (tgt := 40) dX11_meal_27 (by decide) (fun h27 => ?_) (fun h27 => ?_)
    · refine A_aload_n dX11_meal_40 rfl 0 rfl ?_
      refine A_getr fl_X11_60 lk_84 rfl dX11_meal_41 ?_
      refine A_aload_n dX11_meal_44 rfl 0 rfl ?_
      refine A_geti fl_X11_250 lk_84 rfl dX11_meal_45 ?_
      try simp (disch := omega) only [up_k, up_j, up_s, incS_s, incS_k, incS_j, thC_keep, ad11, ad21, ad31, ad41, ad12, nc0, nc1, nc2, nc3, nc4, nc5, nc6, nc7, nc8, nc9, nc10, nc11, nc12, nc13, nc14, nc15, nc16, nc17, nc18, nc19, nc20, nc21, fnC_inc, fnC_up, dsZ_j, dsZ_8, dsT_k, loM_j, meT_j]
      refine A_aload_n dX11_meal_48 rfl 0 rfl ?_
      refine A_aload_n dX11_meal_49 rfl 0 rfl ?_
      refine A_geti fl_X11_144 lk_84 rfl dX11_meal_50 ?_
      try simp (disch := omega) only [up_k, up_j, up_s, incS_s, incS_k, incS_j, thC_keep, ad11, ad21, ad31, ad41, ad12, nc0, nc1, nc2, nc3, nc4, nc5, nc6, nc7, nc8, nc9, nc10, nc11, nc12, nc13, nc14, nc15, nc16, nc17, nc18, nc19, nc20, nc21, fnC_inc, fnC_up, dsZ_j, dsZ_8, dsT_k, loM_j, meT_j]
      refine A_Va1 mv_X11_265 lk_84 rfl rfl (c_nameT hT _ ⟨by omega, by omega⟩) (Nat.le_of_ble_eq_true rfl) (by omega) (by omega) dX11_meal_53 ?_
      try simp (disch := omega) only [incS_s, incS_k, incS_j, thC_keep, ad11, ad21, ad31, ad41, ad12, nc0, nc1, nc2, nc3, nc4, nc5, nc6, nc7, nc8, nc9, nc10, nc11, nc12, nc13, nc14, nc15, nc16, nc17, nc18, nc19, nc20, nc21, fnC_inc, fnC_up, dsZ_j, dsZ_8, dsT_k, loM_j, meT_j]
      refine J_last lk_100 (by first | exact i32_eq (by assumption) | exact i32_eq ⟨by omega, by omega⟩ | with_reducible exact i32_i32 _ | with_reducible exact i32_eq (b2i_inr _) | rfl) (by omega) (by omega) (by decide) dX11_meal_56 ?_
      refine A_inc fl_X11_250 lk_84 rfl 0 rfl dX11_meal_57 dX11_meal_58 dX11_meal_59 dX11_meal_62 dX11_meal_63 dX11_meal_64 ?_
      refine A_inc fl_X11_144 lk_84 rfl 0 rfl dX11_meal_67 dX11_meal_68 dX11_meal_69 dX11_meal_72 dX11_meal_73 dX11_meal_74 ?_
      refine A_lv [0, 1] rfl ?_
      refine w_X11_meal77 e K V N S first 1502 _ _ _ (by repeat (first | exact hT | refine Tk.i (by decide) ?_ | refine Tk.tC ?_ _ | refine Tk.x (by decide) ?_ | refine Tk.o (by decide) ?_)) ⟨hC1, hC2, ⟨by simp (disch := omega) only [up_k, up_j, up_s, incS_s, incS_k, incS_j, thC_keep, ad11, ad21, ad31, ad41, ad12, nc0, nc1, nc2, nc3, nc4, nc5, nc6, nc7, nc8, nc9, nc10, nc11, nc12, nc13, nc14, nc15, nc16, nc17, nc18, nc19, nc20, nc21, fnC_inc, fnC_up, dsZ_j, dsZ_8, dsT_k, loM_j, meT_j]; omega, by simp (disch := omega) only [up_k, up_j, up_s, incS_s, incS_k, incS_j, thC_keep, ad11, ad21, ad31, ad41, ad12, nc0, nc1, nc2, nc3, nc4, nc5, nc6, nc7, nc8, nc9, nc10, nc11, nc12, nc13, nc14, nc15, nc16, nc17, nc18, nc19, nc20, nc21, fnC_inc, fnC_up, dsZ_j, dsZ_8, dsT_k, loM_j, meT_j]; omega⟩, hC4, hC5, hC6⟩ (by simp (disch := omega) only [up_k, up_j, up_s, incS_s, incS_k, incS_j, thC_keep, ad11, ad21, ad31, ad41, ad12, nc0, nc1, nc2, nc3, nc4, nc5, nc6, nc7, nc8, nc9, nc10, nc11, nc12, nc13, nc14, nc15, nc16, nc17, nc18, nc19, nc20, nc21, fnC_inc, fnC_up, dsZ_j, dsZ_8, dsT_k, loM_j, meT_j]; omega) (by have := hT.e; simp (disch := omega) only [up_k, up_j, up_s, incS_s, incS_k, incS_j, thC_keep, ad11, ad21, ad31, ad41, ad12, nc0, nc1, nc2, nc3, nc4, nc5, nc6, nc7, nc8, nc9, nc10, nc11, nc12, nc13, nc14, nc15, nc16, nc17, nc18, nc19, nc20, nc21, fnC_inc, fnC_up, dsZ_j, dsZ_8, dsT_k, loM_j, meT_j]; omega) (by simp only [meM]; rw [if_neg h5, if_neg (by rw [h27]; decide)]) (by simp only [meM]; rw [if_neg h5, if_neg (by rw [h27]; decide)])
    · refine A_aload_n dX11_meal_30 rfl 0 rfl ?_
      refine A_iconst dX11_meal_31 ?_
      refine A_aload_n dX11_meal_32 rfl 0 rfl ?_
      refine A_geti fl_X11_144 lk_84 rfl dX11_meal_33 ?_
      try simp (disch := omega) only [up_k, up_j, up_s, incS_s, incS_k, incS_j, thC_keep, ad11, ad21, ad31, ad41, ad12, nc0, nc1, nc2, nc3, nc4, nc5, nc6, nc7, nc8, nc9, nc10, nc11, nc12, nc13, nc14, nc15, nc16, nc17, nc18, nc19, nc20, nc21, fnC_inc, fnC_up, dsZ_j, dsZ_8, dsT_k, loM_j, meT_j]
      refine A_Va2 mv_X11_261 lk_84 rfl rfl (c_wrongT hT _ _ ⟨by omega, by omega⟩) (Nat.le_of_ble_eq_true rfl) (by omega) (by omega) dX11_meal_36 ?_
      try simp (disch := omega) only [incS_s, incS_k, incS_j, thC_keep, ad11, ad21, ad31, ad41, ad12, nc0, nc1, nc2, nc3, nc4, nc5, nc6, nc7, nc8, nc9, nc10, nc11, nc12, nc13, nc14, nc15, nc16, nc17, nc18, nc19, nc20, nc21, fnC_inc, fnC_up, dsZ_j, dsZ_8, dsT_k, loM_j, meT_j]
      exact A_iret dX11_meal_39 (by simp only [meM]; first | (rw [if_pos h5]; done) | (rw [if_neg h5, if_pos h27]; done)) (by simp only [meM]; first | (rw [if_pos h5]; done) | (rw [if_neg h5, if_pos h27]; done))
  · refine A_aload_n dX11_meal_8 rfl 0 rfl ?_
    refine A_iconst dX11_meal_9 ?_
    refine A_iload_n dX11_meal_10 rfl 1 rfl ?_
    refine A_Va2 mv_X11_261 lk_84 rfl rfl (c_wrongT hT _ _ hfi) (Nat.le_of_ble_eq_true rfl) (by omega) (by omega) dX11_meal_11 ?_
    try simp (disch := omega) only [incS_s, incS_k, incS_j, thC_keep, ad11, ad21, ad31, ad41, ad12, nc0, nc1, nc2, nc3, nc4, nc5, nc6, nc7, nc8, nc9, nc10, nc11, nc12, nc13, nc14, nc15, nc16, nc17, nc18, nc19, nc20, nc21, fnC_inc, fnC_up, dsZ_j, dsZ_8, dsT_k, loM_j, meT_j]
    exact A_iret dX11_meal_14 (by simp only [meM]; first | (rw [if_pos h5]; done) | (rw [if_neg h5, if_pos h27]; done)) (by simp only [meM]; first | (rw [if_pos h5]; done) | (rw [if_neg h5, if_pos h27]; done))
end S39
