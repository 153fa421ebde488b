/-! the reference: compile, test -/
section S46
variable {l : Launch} {G : Gx}
variable {σ : Sg} {e : Int} {K V N S : Int → Int}
theorem c_progT (h : Tk σ e K V N S) (ha : 0 ≤ σ 84 8 ∧ σ 84 8 ≤ e) : Ct l G yX11_program cX11_program 1 (some .boolean) 36 0 0 [.ref (lay G 84)] σ (some (.int (I32 (b2i (qProg K 1501 (σ 84 8, σ 84 9)).1)))) (stR σ (qProg K 1501 (σ 84 8, σ 84 9)).2) := by
  have := c_X11_program (l := l) (G := G) σ (σ 84 8, σ 84 9) e h.1 (h.bd ha)
  rw [stR_I, h.2.1] at this; exact this
theorem c_choiceT (h : Tk σ e K V N S) (ha : 0 ≤ σ 84 8 ∧ σ 84 8 ≤ e) : Ct l G yX11_choiceForm cX11_choiceForm 1 (some .boolean) 33 0 0 [.ref (lay G 84)] σ (some (.int (I32 (b2i (qEx K (σ 84 8, σ 84 9)).1)))) (stR σ (qEx K (σ 84 8, σ 84 9)).2) := by
  have := c_X11_choiceForm (l := l) (G := G) σ (σ 84 8, σ 84 9) e h.1 (h.bd ha)
  rw [stR_I, h.2.1] at this; exact this
def fgS (σ : Sg) : Sg := up (up (up (up (up (up (up (up (up σ 84 3 0) 84 10 0) 84 15 0) 84 23 0) 84 25 0) 84 30 0) 84 36 0) 84 39 0) 84 38 0
def szG (K V : Int → Int) (c : Int) (a : Sg) : Sg := up (up a 84 8 (chE K V a (a 104 c.toNat) (a 103 c.toNat))) 102 c.toNat (chV K V a (a 104 c.toNat) (a 103 c.toNat))
def rc0 (σ : Sg) : Sg := up (fgS (up σ 84 0 0)) 84 4 (-1)
def rc1 (σ : Sg) : Sg := scC (rc0 σ)
def rcE (σ : Sg) : Int := scE (rc0 σ)
def rcK (σ : Sg) : Int → Int := KR (rc1 σ) (rcE σ)
def rc2 (σ : Sg) : Sg := up (rc1 σ) 84 8 0
def qP (σ : Sg) : Bool × Pp := qProg (rcK σ) 1501 (rc2 σ 84 8, rc2 σ 84 9)
def rc3 (σ : Sg) : Sg := stR (rc2 σ) (qP σ).2
def rc5 (σ : Sg) : Sg := if (qP σ).1 = true then up (rc3 σ) 84 8 0 else up (up (rc3 σ) 84 4 (Sx (rc1 σ) (qP σ).2.1)) 84 8 0
def rc6 (σ : Sg) : Int × Sg := if (qP σ).1 = true then mnL (rcK σ) (Vx (rc1 σ)) (Nx (rc1 σ)) (Sx (rc1 σ)) 1502 (rc5 σ) else (1, rc5 σ)
def szL (K V : Int → Int) (er : Int) (n : Nat) (c : Int) (a : Sg) : Sg := if er = 0 then fW (a 84 25) (szG K V) n c a else a
def rc7 (σ : Sg) : Sg := szL (rcK σ) (Vx (rc1 σ)) (rc6 σ).1 8 0 (rc6 σ).2
def rzS (σ : Sg) : Sg := if (rc6 σ).1 = 0 then up (up (rc7 σ) 84 2 0) 84 3 1 else fgS (up (up (rc7 σ) 84 2 0) 84 3 0)
def rzV (σ : Sg) : Int := (rc6 σ).1
theorem rc3_8 : rc3 σ 84 8 = (qP σ).2.1 := rfl
theorem rc3_o {j : Nat} (h : j ≠ 8 ∧ j ≠ 9) : rc3 σ 84 j = rc1 σ 84 j := by
  unfold rc3 stR rc2
  rw [up_j _ _ h.1, up_j _ _ h.2, up_j _ _ h.1]
theorem rc3_k {k : Nat} (h : k ≠ 84) : rc3 σ k = rc1 σ k := by
  unfold rc3 stR rc2
  rw [up_r _ _ _ h, up_r _ _ _ h, up_r _ _ _ h]
theorem rc0_b (h : Rb σ) : Rb (rc0 σ) := h
theorem rc0_t (h : Rt σ) : Rt (rc0 σ) := h
theorem rc1_d (hb : Rb σ) (ht : Rt σ) : ScD (rc0 σ) (rc1 σ) (rcE σ) := sc_ok (rc0_b hb) (rc0_t ht)
theorem rc1_o (hb : Rb σ) (ht : Rt σ) {k : Nat} (h : k ≠ 86 ∧ k ≠ 87 ∧ k ≠ 88) : rc1 σ k = rc0 σ k := (rc1_d hb ht).1 k h
theorem rc1_b (hb : Rb σ) (ht : Rt σ) : Rb (rc1 σ) := by
  unfold Rb
  rw [rc1_o hb ht (by decide), rc1_o hb ht (by decide)]
  exact hb
theorem Tk_1 (hb : Rb σ) (ht : Rt σ) (h9 : 0 ≤ σ 84 9 ∧ σ 84 9 ≤ 1500) : Tk (rc1 σ) (rcE σ) (rcK σ) (Vx (rc1 σ)) (Nx (rc1 σ)) (Sx (rc1 σ)) := by
  obtain ⟨d1, d2, d3, d4, d5⟩ := rc1_d hb ht
  refine Tk_of (rc1_b hb ht) d2 d3 d4 d5 ?_
  rw [rc1_o hb ht (by decide)]
  exact h9
theorem Tk_2 (hb : Rb σ) (ht : Rt σ) (h9 : 0 ≤ σ 84 9 ∧ σ 84 9 ≤ 1500) : Tk (rc2 σ) (rcE σ) (rcK σ) (Vx (rc1 σ)) (Nx (rc1 σ)) (Sx (rc1 σ)) := (Tk_1 hb ht h9).o (by decide)
theorem gF_Prog {K : Int → Int} {e : Int} (hE : K e = 25) (he : e ≤ 1500) : ∀ n, gF e (qProg K n) := by
  intro n
  induction n with
  | zero => intro s hs; exact ⟨hs, Int.le_refl _⟩
  | succ n ih =>
    intro s hs
    have h1 := gT_Item hE he s hs
    simp only [qProg]
    split
    · split
      · exact ⟨h1.1, h1.2.1⟩
      · have h2 := ih _ h1.1
        exact ⟨h2.1, Int.le_trans h1.2.1 h2.2⟩
    · exact ⟨h1.1, h1.2.1⟩
theorem qP_bd (hb : Rb σ) (ht : Rt σ) (h9 : 0 ≤ σ 84 9 ∧ σ 84 9 ≤ 1500) : bd (rcE σ) (qP σ).2 := by
  have hT := Tk_2 hb ht h9
  have he := hT.e
  exact (gF_Prog hT.E he.2 1501 _ (hT.bd ⟨Int.le_refl 0, he.1⟩)).1
theorem Tk_3 (hb : Rb σ) (ht : Rt σ) (h9 : 0 ≤ σ 84 9 ∧ σ 84 9 ≤ 1500) : Tk (rc3 σ) (rcE σ) (rcK σ) (Vx (rc1 σ)) (Nx (rc1 σ)) (Sx (rc1 σ)) := by
  have hT := Tk_1 hb ht h9
  have hq := qP_bd hb ht h9
  obtain ⟨⟨⟨a1, a2⟩, a3, a4, a5, a6⟩, b1, b2, b3, b4⟩ := hT
  have k85 := rc3_k (σ := σ) (k := 85) (by decide)
  have k86 := rc3_k (σ := σ) (k := 86) (by decide)
  have k87 := rc3_k (σ := σ) (k := 87) (by decide)
  have k88 := rc3_k (σ := σ) (k := 88) (by decide)
  have k2 := rc3_o (σ := σ) (j := 2) (by decide)
  refine ⟨⟨⟨by rw [k2]; exact a1, by rw [k85]; exact a2⟩, by unfold Rt; rw [k86, k87, k88]; exact a3, a4, by rw [k86]; exact a5, by unfold TkOk; rw [k85, k86, k87, k88]; exact a6⟩, by rw [KR_cg k85 k86 k87 k88]; exact b1, by rw [nmV_cg k85 k87 k88, nuV_cg k85 k87 k88, k87]; exact b2, b3, hq.2⟩
theorem IV_5 (hb : Rb σ) (ht : Rt σ) (h9 : 0 ≤ σ 84 9 ∧ σ 84 9 ≤ 1500) : IV (rcE σ) (rcK σ) (Vx (rc1 σ)) (Nx (rc1 σ)) (Sx (rc1 σ)) (up (rc3 σ) 84 8 0) := by
  have hT := (Tk_3 hb ht h9).o (j := 8) (v := 0) (by decide)
  have z : ∀ j, j = 10 ∨ j = 15 ∨ j = 23 ∨ j = 25 ∨ j = 30 ∨ j = 36 → up (rc3 σ) 84 8 0 84 j = 0 := by
    intro j hj
    rw [up_j _ _ (by omega), rc3_o (by omega), rc1_o hb ht (by decide)]
    rcases hj with rfl | rfl | rfl | rfl | rfl | rfl <;> rfl
  refine ⟨hT, ?_, ⟨fun j hj => ?_, fun j hj => ?_⟩, fun c hc => ?_⟩
  · unfold Cn
    rw [z 10 (by omega), z 15 (by omega), z 23 (by omega), z 25 (by omega), z 30 (by omega), z 36 (by omega)]
    omega
  · rw [z 15 (by omega)] at hj; omega
  · rw [z 10 (by omega)] at hj; omega
  · rw [z 25 (by omega)] at hc; omega
theorem z30 (hb : Rb σ) (ht : Rt σ) : up (rc3 σ) 84 8 0 84 30 = 0 := by
  rw [up_j _ _ (by omega), rc3_o (by omega), rc1_o hb ht (by decide)]; rfl
theorem PgE_5 (hb : Rb σ) (ht : Rt σ) (h9 : 0 ≤ σ 84 9 ∧ σ 84 9 ≤ 1500) (h : (qP σ).1 = true) : ∃ m, PgE (rcK σ) m 0 := by
  have hT := Tk_2 hb ht h9
  have he := hT.e
  obtain ⟨m, hm⟩ := qProg_ok hT.E he.2 1501 _ (hT.bd ⟨Int.le_refl 0, he.1⟩) (by show rcE σ - 0 < (1501 : Nat); omega) h
  exact ⟨m + 1, PgL_E m _ hm⟩
theorem IV.sp (h : IV e K V N S σ) (K2 V2 : Int → Int) (c : Int) : IV e K V N S (szG K2 V2 c σ) := by
  obtain ⟨h1, h2, h3, h4⟩ := h
  unfold szG
  refine ⟨Tk.x (by decide) (Tk.o (by decide) h1), h2, h3.cg ?_ ?_ (fun j hj => ?_) ?_ ?_, h4.cg ?_ ?_ ?_⟩
  · simp (disch := omega) only [up_k, up_j]
  · simp (disch := omega) only [up_k, up_j]
  · simp (disch := omega) only [up_k, up_j]; exact ⟨trivial, trivial, trivial, fun _ _ => trivial⟩
  · rw [up_r _ _ _ (by decide), up_r _ _ _ (by decide)]
  · rw [up_r _ _ _ (by decide), up_r _ _ _ (by decide)]
  · simp (disch := omega) only [up_k, up_j]
  · rw [up_r _ _ _ (by decide), up_r _ _ _ (by decide)]
  · rw [up_r _ _ _ (by decide), up_r _ _ _ (by decide)]
theorem szG_25 (K V : Int → Int) (c : Int) : szG K V c σ 84 25 = σ 84 25 := by
  unfold szG
  simp (disch := omega) only [up_k, up_j]
theorem mnL_i (h : IV e K V N S σ) {m : Nat} (hp : PgE K m (σ 84 8)) : ∀ n, m < n → Rn (mnL K V N S n σ).1 := by
  intro n
  induction n generalizing m σ with
  | zero => intro hn; omega
  | succ n ih =>
    intro hn
    simp only [mnL]
    split
    · split
      · exact Rn_p rfl
      · exact Rn_p rfl
    · rename_i c
      split
      · rename_i c2
        cases m with
        | zero => exact absurd hp c
        | succ m =>
          obtain ⟨b, g1, g2⟩ := hp
          obtain ⟨q1, q2, -⟩ := mnI_inv h g1 c2
          exact ih q1.i8 (m := m) (by rw [incS_s, q2]; exact g2) (by omega)
      · exact mnI_rn h.i8 _
set_option maxRecDepth 100000 in
set_option maxHeartbeats 4000000 in
theorem c_X11_forget   : Ct l G yX11_forget cX11_forget 1 none 0 0 0 [.ref (lay G 84)] σ (none) (fgS σ) := by
  refine Ct.of (by decide +kernel) (Nat.le_of_ble_eq_true rfl) (fun f => ?_)
  show AW _ _ _ _ _ _ _ _ _ _ [(0, _)] _ _
  refine A_aload_n dX11_forget_0 rfl 0 rfl ?_
  refine A_iconst dX11_forget_1 ?_
  refine A_putz (p := false) fl_X11_316 lk_84 rfl dX11_forget_2 ?_
  refine A_aload_n dX11_forget_5 rfl 0 rfl ?_
  refine A_iconst dX11_forget_6 ?_
  refine A_puti fl_X11_240 lk_84 rfl dX11_forget_7 ?_
  refine A_aload_n dX11_forget_10 rfl 0 rfl ?_
  refine A_iconst dX11_forget_11 ?_
  refine A_puti fl_X11_247 lk_84 rfl dX11_forget_12 ?_
  refine A_aload_n dX11_forget_15 rfl 0 rfl ?_
  refine A_iconst dX11_forget_16 ?_
  refine A_puti fl_X11_250 lk_84 rfl dX11_forget_17 ?_
  refine A_aload_n dX11_forget_20 rfl 0 rfl ?_
  refine A_iconst dX11_forget_21 ?_
  refine A_puti fl_X11_289 lk_84 rfl dX11_forget_22 ?_
  refine A_aload_n dX11_forget_25 rfl 0 rfl ?_
  refine A_iconst dX11_forget_26 ?_
  refine A_puti fl_X11_298 lk_84 rfl dX11_forget_27 ?_
  refine A_aload_n dX11_forget_30 rfl 0 rfl ?_
  refine A_iconst dX11_forget_31 ?_
  refine A_puti fl_X11_269 lk_84 rfl dX11_forget_32 ?_
  refine A_aload_n dX11_forget_35 rfl 0 rfl ?_
  refine A_iconst dX11_forget_36 ?_
  refine A_puti fl_X11_320 lk_84 rfl dX11_forget_37 ?_
  refine A_aload_n dX11_forget_40 rfl 0 rfl ?_
  refine A_iconst dX11_forget_41 ?_
  refine A_puti fl_X11_323 lk_84 rfl dX11_forget_42 ?_
  exact A_vret dX11_forget_45 (by rfl) (by rfl)
set_option maxRecDepth 100000 in
set_option maxHeartbeats 4000000 in
theorem w_X11_compile60p {f : Fm} {Q : State → Prop} {xs : va_W} {kk nn rc rs : Nat} (e : Int) (K V N S : Int → Int) (hm : kk ≤ rc ∧ nn ≤ rs) : ∀ (n : Nat) (c : Int) (a : Sg), (0 ≤ c ∧ c ≤ 8) → IV e K V N S a → (0 ≤ a 84 25 ∧ a 84 25 ≤ 8) → a 84 25 ≤ c + n → (AW l G f (RX11, cX11_compile, 3, (some .int)) (37, rc, rs) Q xs kk nn 104 [(1, .int (I32 0)), (0, .ref (lay G 84))] [] (fW (a 84 25) (szG K V) n c a)) → AW l G f (RX11, cX11_compile, 3, (some .int)) (37, rc, rs) (Q) xs kk nn 60 [(2, .int (I32 c)), (1, .int (I32 0)), (0, .ref (lay G 84))] [] a := by
  intro n
  induction n using Nat.strongRecOn with | _ n ih =>
  intro c a h0 hI2 h25 hn hK
  refine A_iload_n dX11_compile_60 rfl 0 rfl ?_
  refine A_aload_n dX11_compile_61 rfl 2 rfl ?_
  refine A_geti fl_X11_289 lk_84 rfl dX11_compile_62 ?_
  try simp (disch := omega) only [up_k, up_j, up_s, incS_s, incS_k, incS_j, thC_keep, ad11, ad21, ad31, ad41, ad12, nc0, nc1, nc2, nc3, nc4, nc5, nc6, nc7, nc8, nc9, nc10, nc11, nc12, nc13, nc14, nc15, nc16, nc17, nc18, nc19, nc20, nc21, fnC_inc, fnC_up, dsZ_j, dsZ_8, dsT_k, loM_j, meT_j, knR_inc, knR_up, incS_8, tgV_8, rc3_8]
  refine J_icmp_ge (tgt := 104) dX11_compile_65 (by decide) (by first | exact hei | exact i32_eq (by assumption) | exact i32_eq ⟨by omega, by omega⟩ | with_reducible exact i32_i32 _ | with_reducible exact i32_eq (b2i_inr _) | rfl) (by first | exact hei | exact i32_eq (by assumption) | exact i32_eq ⟨by omega, by omega⟩ | with_reducible exact i32_i32 _ | with_reducible exact i32_eq (b2i_inr _) | rfl) (fun h65 => ?_) (fun h65 => ?_)
  · refine A_lv [1, 2] rfl ?_
    have e9 : fW (a 84 25) (szG K V) n c a = a := by
      cases n with
      | zero => rfl
      | succ n => rw [fW_s, if_neg (by omega)]
    rw [e9] at hK
    exact hK
  · obtain ⟨⟨bb, hc1⟩, hc2⟩ := hI2.2.2.2 c.toNat (by omega)
    have hin : 0 ≤ a 103 c.toNat ∧ a 103 c.toNat ≤ e := by
      obtain ⟨s1, s2⟩ := ChO_seg hc1
      have s3 := ChO_lt hc1
      have s4 := s2 _ (Int.le_refl _) s3
      have s5 : K (a 103 c.toNat) ≠ 25 := by unfold InS at s4; omega
      have := hI2.1.in rfl s5
      omega
    have hee := hI2.1.e
    refine A_iload_n dX11_compile_68 rfl 1 rfl ?_
    refine A_if_ne (tgt := 104) dX11_compile_69 (by decide) ⟨by decide, by decide⟩ (fun h => absurd h (by decide)) (fun _ => ?_)
    refine A_aload_n dX11_compile_72 rfl 2 rfl ?_
    refine A_aload_n dX11_compile_73 rfl 2 rfl ?_
    refine A_getr fl_X11_69 lk_84 rfl dX11_compile_74 ?_
    refine A_iload_n dX11_compile_77 rfl 0 rfl ?_
    refine J_iald lk_103 (by first | exact hei | exact i32_eq (by assumption) | exact i32_eq ⟨by omega, by omega⟩ | with_reducible exact i32_i32 _ | with_reducible exact i32_eq (b2i_inr _) | rfl) (by omega) (by omega) (by decide) dX11_compile_78 ?_
    try simp (disch := omega) only [up_k, up_j, up_s, incS_s, incS_k, incS_j, thC_keep, ad11, ad21, ad31, ad41, ad12, nc0, nc1, nc2, nc3, nc4, nc5, nc6, nc7, nc8, nc9, nc10, nc11, nc12, nc13, nc14, nc15, nc16, nc17, nc18, nc19, nc20, nc21, fnC_inc, fnC_up, dsZ_j, dsZ_8, dsT_k, loM_j, meT_j, knR_inc, knR_up, incS_8, tgV_8, rc3_8]
    refine A_puti fl_X11_144 lk_84 rfl dX11_compile_79 ?_
    refine A_aload_n dX11_compile_82 rfl 2 rfl ?_
    refine A_getr fl_X11_66 lk_84 rfl dX11_compile_83 ?_
    refine A_iload_n dX11_compile_86 rfl 0 rfl ?_
    refine A_aload_n dX11_compile_87 rfl 2 rfl ?_
    refine A_aload_n dX11_compile_88 rfl 2 rfl ?_
    refine A_getr fl_X11_72 lk_84 rfl dX11_compile_89 ?_
    refine A_iload_n dX11_compile_92 rfl 0 rfl ?_
    refine J_iald lk_104 (by first | exact hei | exact i32_eq (by assumption) | exact i32_eq ⟨by omega, by omega⟩ | with_reducible exact i32_i32 _ | with_reducible exact i32_eq (b2i_inr _) | rfl) (by omega) (by omega) (by decide) dX11_compile_93 ?_
    try simp (disch := omega) only [up_k, up_j, up_s, incS_s, incS_k, incS_j, thC_keep, ad11, ad21, ad31, ad41, ad12, nc0, nc1, nc2, nc3, nc4, nc5, nc6, nc7, nc8, nc9, nc10, nc11, nc12, nc13, nc14, nc15, nc16, nc17, nc18, nc19, nc20, nc21, fnC_inc, fnC_up, dsZ_j, dsZ_8, dsT_k, loM_j, meT_j, knR_inc, knR_up, incS_8, tgV_8, rc3_8]
    refine A_Va1 mv_X11_310 lk_84 rfl rfl (c_X11_any _ e K V N S _ (hI2.1) hI2.2.1.2.1 hI2.2.1.2.2.2.2.2 hc2 _ bb ⟨by omega, by omega⟩ hc1) (Nat.le_of_ble_eq_true rfl) (by omega) (by assumption) dX11_compile_94 ?_
    try simp (disch := omega) only [incS_s, incS_k, incS_j, thC_keep, ad11, ad21, ad31, ad41, ad12, nc0, nc1, nc2, nc3, nc4, nc5, nc6, nc7, nc8, nc9, nc10, nc11, nc12, nc13, nc14, nc15, nc16, nc17, nc18, nc19, nc20, nc21, fnC_inc, fnC_up, dsZ_j, dsZ_8, dsT_k, loM_j, meT_j, knR_inc, knR_up, incS_8, tgV_8, rc3_8]
    refine J_iast lk_102 (by first | exact hei | exact i32_eq (by assumption) | exact i32_eq ⟨by omega, by omega⟩ | with_reducible exact i32_i32 _ | with_reducible exact i32_eq (b2i_inr _) | rfl) (by omega) (by omega) (by decide) dX11_compile_97 ?_
    refine A_iinc (lv2 := [(2, _), (1, _), (0, _)]) dX11_compile_98 0 rfl (by decide) rfl ?_
    refine A_goto (tgt := 60) dX11_compile_101 (by decide) ?_
    refine A_lv [0, 1, 2] rfl ?_
    refine ih (n - 1) (by omega) (c + 1) (szG K V c a) (by omega) (hI2.sp K V c) (by rw [szG_25]; exact h25) (by rw [szG_25]; omega) ?_
    obtain ⟨n, rfl⟩ : ∃ q, n = q + 1 := ⟨n - 1, by omega⟩
    rw [fW_s, if_pos (by omega)] at hK
    rw [szG_25]
    exact hK
theorem w_X11_compile60 {f : Fm} {Q : State → Prop} {xs : va_W} {kk nn rc rs : Nat} (e : Int) (K V N S : Int → Int) (er : Int) (her : Rn er) (hm : kk ≤ rc ∧ nn ≤ rs) (a : Sg) (hI : er = 0 → IV e K V N S a) (hK : AW l G f (RX11, cX11_compile, 3, (some .int)) (37, rc, rs) Q xs kk nn 104 [(1, .int (I32 er)), (0, .ref (lay G 84))] [] (szL K V er 8 0 a)) : AW l G f (RX11, cX11_compile, 3, (some .int)) (37, rc, rs) Q xs kk nn 60 [(2, .int (I32 0)), (1, .int (I32 er)), (0, .ref (lay G 84))] [] a := by
  by_cases h : er = 0
  · subst h
    have h25 := (hI rfl).2.1.2.2.2.1
    exact w_X11_compile60p e K V N S hm 8 0 a ⟨by omega, by omega⟩ (hI rfl) h25 (by omega) hK
  · have e9 : szL K V er 8 0 a = a := if_neg h
    rw [e9] at hK
    refine A_iload_n dX11_compile_60 rfl 0 rfl ?_
    refine A_aload_n dX11_compile_61 rfl 2 rfl ?_
    refine A_geti fl_X11_289 lk_84 rfl dX11_compile_62 ?_
    refine J_icmp_ge (tgt := 104) dX11_compile_65 (by decide) rfl rfl (fun _ => ?_) (fun _ => ?_)
    · refine A_lv [1, 2] rfl ?_
      exact hK
    · refine A_iload_n dX11_compile_68 rfl 1 rfl ?_
      refine J_if_ne (tgt := 104) dX11_compile_69 (by decide) her.t (fun _ => ?_) (fun z => absurd z h)
      refine A_lv [1, 2] rfl ?_
      exact hK
set_option maxRecDepth 100000 in
set_option maxHeartbeats 4000000 in
theorem c_X11_compile  (hb : Rb σ) (ht : Rt σ) (h9 : 0 ≤ σ 84 9 ∧ σ 84 9 ≤ 1500) : Ct l G yX11_compile cX11_compile 3 (some .int) 37 18 72 [.ref (lay G 84)] σ (some (.int (I32 (rzV σ)))) (rzS σ) := by
  have hT2 := Tk_2 hb ht h9
  have hT3 := Tk_3 hb ht h9
  have hqb := qP_bd hb ht h9
  have hI5 := IV_5 hb ht h9
  have hee := hT2.e
  refine Ct.of (by decide +kernel) (Nat.le_of_ble_eq_true rfl) (fun f => ?_)
  show AW _ _ _ _ _ _ _ _ _ _ [(0, _)] _ _
  refine A_aload_n dX11_compile_0 rfl 0 rfl ?_
  refine A_iconst dX11_compile_1 ?_
  refine A_puti fl_X11_96 lk_84 rfl dX11_compile_2 ?_
  refine A_aload_n dX11_compile_5 rfl 0 rfl ?_
  refine A_Vv0 mv_X11_326 lk_84 rfl rfl (c_X11_forget) (Nat.le_of_ble_eq_true rfl) (by omega) (by omega) dX11_compile_6 ?_
  try simp (disch := omega) only [incS_s, incS_k, incS_j, thC_keep, ad11, ad21, ad31, ad41, ad12, nc0, nc1, nc2, nc3, nc4, nc5, nc6, nc7, nc8, nc9, nc10, nc11, nc12, nc13, nc14, nc15, nc16, nc17, nc18, nc19, nc20, nc21, fnC_inc, fnC_up, dsZ_j, dsZ_8, dsT_k, loM_j, meT_j, knR_inc, knR_up, incS_8, tgV_8, rc3_8]
  refine A_aload_n dX11_compile_9 rfl 0 rfl ?_
  refine A_iconst dX11_compile_10 ?_
  refine A_puti fl_X11_13 lk_84 rfl dX11_compile_11 ?_
  refine A_aload_n dX11_compile_14 rfl 0 rfl ?_
  refine A_Vv0 mv_X11_329 lk_84 rfl rfl (c_X11_scan _ (rc0_b hb)) (Nat.le_of_ble_eq_true rfl) (by omega) (by omega) dX11_compile_15 ?_
  try simp (disch := omega) only [incS_s, incS_k, incS_j, thC_keep, ad11, ad21, ad31, ad41, ad12, nc0, nc1, nc2, nc3, nc4, nc5, nc6, nc7, nc8, nc9, nc10, nc11, nc12, nc13, nc14, nc15, nc16, nc17, nc18, nc19, nc20, nc21, fnC_inc, fnC_up, dsZ_j, dsZ_8, dsT_k, loM_j, meT_j, knR_inc, knR_up, incS_8, tgV_8, rc3_8]
  show AW _ _ _ _ _ _ _ _ _ _ _ _ (rc1 σ)
  refine A_aload_n dX11_compile_18 rfl 0 rfl ?_
  refine A_iconst dX11_compile_19 ?_
  refine A_puti fl_X11_144 lk_84 rfl dX11_compile_20 ?_
  show AW _ _ _ _ _ _ _ _ _ _ _ _ (rc2 σ)
  refine A_aload_n dX11_compile_23 rfl 0 rfl ?_
  refine A_Va0 mv_X11_332 lk_84 rfl rfl (c_progT hT2 ⟨Int.le_refl 0, hee.1⟩) (Nat.le_of_ble_eq_true rfl) (by omega) (by omega) dX11_compile_24 ?_
  try simp (disch := omega) only [incS_s, incS_k, incS_j, thC_keep, ad11, ad21, ad31, ad41, ad12, nc0, nc1, nc2, nc3, nc4, nc5, nc6, nc7, nc8, nc9, nc10, nc11, nc12, nc13, nc14, nc15, nc16, nc17, nc18, nc19, nc20, nc21, fnC_inc, fnC_up, dsZ_j, dsZ_8, dsT_k, loM_j, meT_j, knR_inc, knR_up, incS_8, tgV_8, rc3_8]
  show AW _ _ _ _ _ _ _ _ _ _  _ (.int (I32 (b2i (qP σ).1)) :: _) (rc3 σ)
  refine A_ifeq_b (tgt := 34) dX11_compile_27 (by decide) (fun h27 => ?_) (fun h27 => ?_)
  · refine A_aload_n dX11_compile_34 rfl 0 rfl ?_
    refine A_iconst dX11_compile_35 ?_
    refine A_aload_n dX11_compile_36 rfl 0 rfl ?_
    refine A_geti fl_X11_144 lk_84 rfl dX11_compile_37 ?_
    try simp (disch := omega) only [up_k, up_j, up_s, incS_s, incS_k, incS_j, thC_keep, ad11, ad21, ad31, ad41, ad12, nc0, nc1, nc2, nc3, nc4, nc5, nc6, nc7, nc8, nc9, nc10, nc11, nc12, nc13, nc14, nc15, nc16, nc17, nc18, nc19, nc20, nc21, fnC_inc, fnC_up, dsZ_j, dsZ_8, dsT_k, loM_j, meT_j, knR_inc, knR_up, incS_8, tgV_8, rc3_8]
    refine A_Va2 mv_X11_261 lk_84 rfl rfl (c_wrongT hT3 _ _ hqb.1) (Nat.le_of_ble_eq_true rfl) (by omega) (by omega) dX11_compile_40 ?_
    try simp (disch := omega) only [incS_s, incS_k, incS_j, thC_keep, ad11, ad21, ad31, ad41, ad12, nc0, nc1, nc2, nc3, nc4, nc5, nc6, nc7, nc8, nc9, nc10, nc11, nc12, nc13, nc14, nc15, nc16, nc17, nc18, nc19, nc20, nc21, fnC_inc, fnC_up, dsZ_j, dsZ_8, dsT_k, loM_j, meT_j, knR_inc, knR_up, incS_8, tgV_8, rc3_8]
    refine A_istore_n (lv2 := [(1, _), (0, _)]) dX11_compile_43 rfl (by decide) rfl ?_
    refine A_aload_n dX11_compile_44 rfl 1 rfl ?_
    refine A_iconst dX11_compile_45 ?_
    refine A_puti fl_X11_144 lk_84 rfl dX11_compile_46 ?_
    refine A_iload_n dX11_compile_49 rfl 0 rfl ?_
    refine J_if_ne (tgt := 58) dX11_compile_50 (by decide) (by first | exact hei | exact i32_eq (by assumption) | exact i32_eq ⟨by omega, by omega⟩ | with_reducible exact i32_i32 _ | with_reducible exact i32_eq (b2i_inr _) | rfl) (fun h50 => ?_) (fun h50 => ?_)
    · refine A_iconst dX11_compile_58 ?_
      refine A_istore_n (lv2 := [(2, _), (1, _), (0, _)]) dX11_compile_59 rfl (by decide) rfl ?_
      refine A_lv [0, 1, 2] rfl ?_
      refine w_X11_compile60 (rcE σ) (rcK σ) (Vx (rc1 σ)) (Nx (rc1 σ)) (Sx (rc1 σ)) 1 ⟨by decide, by decide⟩ (by omega) _ (fun h0 => absurd h0 (by decide)) ?_
      refine A_aload_n dX11_compile_104 rfl 1 rfl ?_
      refine A_iconst dX11_compile_105 ?_
      refine A_puti fl_X11_99 lk_84 rfl dX11_compile_106 ?_
      refine A_aload_n dX11_compile_109 rfl 1 rfl ?_
      refine A_iload_n dX11_compile_110 rfl 0 rfl ?_
      refine J_if_ne (tgt := 118) dX11_compile_111 (by decide) (by first | exact hei | exact i32_eq (by assumption) | exact i32_eq ⟨by omega, by omega⟩ | with_reducible exact i32_i32 _ | with_reducible exact i32_eq (b2i_inr _) | rfl) (fun h111 => ?_) (fun h111 => ?_)
      · refine A_iconst dX11_compile_118 ?_
        refine A_putz (p := false) fl_X11_316 lk_84 rfl dX11_compile_119 ?_
        refine A_iload_n dX11_compile_122 rfl 0 rfl ?_
        refine J_if_eq (tgt := 130) dX11_compile_123 (by decide) (by first | exact hei | exact i32_eq (by assumption) | exact i32_eq ⟨by omega, by omega⟩ | with_reducible exact i32_i32 _ | with_reducible exact i32_eq (b2i_inr _) | rfl) (fun h123 => ?_) (fun h123 => ?_)
        · exact absurd h123 (by decide)
          --end
        · refine A_aload_n dX11_compile_126 rfl 1 rfl ?_
          refine A_Vv0 mv_X11_326 lk_84 rfl rfl (c_X11_forget) (Nat.le_of_ble_eq_true rfl) (by omega) (by omega) dX11_compile_127 ?_
          try simp (disch := omega) only [incS_s, incS_k, incS_j, thC_keep, ad11, ad21, ad31, ad41, ad12, nc0, nc1, nc2, nc3, nc4, nc5, nc6, nc7, nc8, nc9, nc10, nc11, nc12, nc13, nc14, nc15, nc16, nc17, nc18, nc19, nc20, nc21, fnC_inc, fnC_up, dsZ_j, dsZ_8, dsT_k, loM_j, meT_j, knR_inc, knR_up, incS_8, tgV_8, rc3_8]
          refine A_iload_n dX11_compile_130 rfl 0 rfl ?_
          refine A_wid (k2 := 18) (n2 := 72) (by decide) (by decide) ?_
          exact A_iret dX11_compile_131 (by have e6 : rc6 σ = (1, up (up (rc3 σ) 84 4 (Sx (rc1 σ) (qP σ).2.1)) 84 8 0) := (by unfold rc6 rc5; rw [if_neg (by rw [h27]; decide), if_neg (by rw [h27]; decide)]); unfold rzV; rw [e6]) (by have e6 : rc6 σ = (1, up (up (rc3 σ) 84 4 (Sx (rc1 σ) (qP σ).2.1)) 84 8 0) := (by unfold rc6 rc5; rw [if_neg (by rw [h27]; decide), if_neg (by rw [h27]; decide)]); unfold rzS; rw [if_neg (by rw [e6]; exact (by decide : ¬ (1 : Int) = 0))]; unfold rc7; rw [e6]; rfl)
      · exact absurd h111 (by decide)
        --end
    · exact absurd h50 (by decide)
      --end
  · obtain ⟨m, hm⟩ := PgE_5 hb ht h9 h27
    have hrn := mnL_i hI5 (m := m) (by rw [up_s]; exact hm) 1502 (by have := PgE_len hI5.1 m 0 (by omega) hm; omega)
    have hei := hrn.t
    refine A_iconst dX11_compile_30 ?_
    refine A_goto (tgt := 43) dX11_compile_31 (by decide) ?_
    refine A_istore_n (lv2 := [(1, _), (0, _)]) dX11_compile_43 rfl (by decide) rfl ?_
    refine A_aload_n dX11_compile_44 rfl 1 rfl ?_
    refine A_iconst dX11_compile_45 ?_
    refine A_puti fl_X11_144 lk_84 rfl dX11_compile_46 ?_
    refine A_iload_n dX11_compile_49 rfl 0 rfl ?_
    refine A_if_ne (tgt := 58) dX11_compile_50 (by decide) ⟨by decide, by decide⟩ (fun h => absurd h (by decide)) (fun _ => ?_)
    refine A_aload_n dX11_compile_53 rfl 1 rfl ?_
    refine A_Vm0 (k2 := 18) (n2 := 72) mv_X11_335 lk_84 rfl rfl (c_X11_meaning m hI5 (z30 hb ht) ⟨by rw [up_s]; omega, by rw [up_s]; exact hee.1⟩ (by rw [up_s]; exact hm)) (Nat.le_of_ble_eq_true rfl) (by omega) (by omega) rfl rfl dX11_compile_54 ?_
    try simp (disch := omega) only [incS_s, incS_k, incS_j, thC_keep, ad11, ad21, ad31, ad41, ad12, nc0, nc1, nc2, nc3, nc4, nc5, nc6, nc7, nc8, nc9, nc10, nc11, nc12, nc13, nc14, nc15, nc16, nc17, nc18, nc19, nc20, nc21, fnC_inc, fnC_up, dsZ_j, dsZ_8, dsT_k, loM_j, meT_j, knR_inc, knR_up, incS_8, tgV_8, rc3_8]
    refine A_istore_n (lv2 := [(1, _), (0, _)]) dX11_compile_57 rfl (by decide) rfl ?_
    refine A_iconst dX11_compile_58 ?_
    refine A_istore_n (lv2 := [(2, _), (1, _), (0, _)]) dX11_compile_59 rfl (by decide) rfl ?_
    refine A_lv [0, 1, 2] rfl ?_
    refine w_X11_compile60 (rcE σ) (rcK σ) (Vx (rc1 σ)) (Nx (rc1 σ)) (Sx (rc1 σ)) _ hrn (by omega) _ (fun h0 => mnL_inv m 1502 _ hI5 (by rw [up_s]; exact hm) (by have := PgE_len hI5.1 m 0 (by omega) hm; omega) h0) ?_
    refine A_aload_n dX11_compile_104 rfl 1 rfl ?_
    refine A_iconst dX11_compile_105 ?_
    refine A_puti fl_X11_99 lk_84 rfl dX11_compile_106 ?_
    refine A_aload_n dX11_compile_109 rfl 1 rfl ?_
    refine A_iload_n dX11_compile_110 rfl 0 rfl ?_
    refine J_if_ne (tgt := 118) dX11_compile_111 (by decide) (by first | exact hei | exact i32_eq (by assumption) | exact i32_eq ⟨by omega, by omega⟩ | with_reducible exact i32_i32 _ | with_reducible exact i32_eq (b2i_inr _) | rfl) (fun h111 => ?_) (fun h111 => ?_)
    · refine A_iconst dX11_compile_118 ?_
      refine A_putz (p := false) fl_X11_316 lk_84 rfl dX11_compile_119 ?_
      refine A_iload_n dX11_compile_122 rfl 0 rfl ?_
      refine J_if_eq (tgt := 130) dX11_compile_123 (by decide) (by first | exact hei | exact i32_eq (by assumption) | exact i32_eq ⟨by omega, by omega⟩ | with_reducible exact i32_i32 _ | with_reducible exact i32_eq (b2i_inr _) | rfl) (fun h123 => ?_) (fun h123 => ?_)
      · exact absurd h123 h111
        --end
      · refine A_aload_n dX11_compile_126 rfl 1 rfl ?_
        refine A_Vv0 mv_X11_326 lk_84 rfl rfl (c_X11_forget) (Nat.le_of_ble_eq_true rfl) (by omega) (by omega) dX11_compile_127 ?_
        try simp (disch := omega) only [incS_s, incS_k, incS_j, thC_keep, ad11, ad21, ad31, ad41, ad12, nc0, nc1, nc2, nc3, nc4, nc5, nc6, nc7, nc8, nc9, nc10, nc11, nc12, nc13, nc14, nc15, nc16, nc17, nc18, nc19, nc20, nc21, fnC_inc, fnC_up, dsZ_j, dsZ_8, dsT_k, loM_j, meT_j, knR_inc, knR_up, incS_8, tgV_8, rc3_8]
        refine A_iload_n dX11_compile_130 rfl 0 rfl ?_
        refine A_wid (k2 := 18) (n2 := 72) (by decide) (by decide) ?_
        exact A_iret dX11_compile_131 (by have e6 : rc6 σ = mnL (rcK σ) (Vx (rc1 σ)) (Nx (rc1 σ)) (Sx (rc1 σ)) 1502 (up (rc3 σ) 84 8 0) := (by unfold rc6 rc5; rw [if_pos h27, if_pos h27]); unfold rzV; rw [e6]) (by have e6 : rc6 σ = mnL (rcK σ) (Vx (rc1 σ)) (Nx (rc1 σ)) (Sx (rc1 σ)) 1502 (up (rc3 σ) 84 8 0) := (by unfold rc6 rc5; rw [if_pos h27, if_pos h27]); unfold rzS; rw [if_neg (by rw [e6]; exact h111)]; unfold rc7; rw [e6]; rfl)
    · refine A_iconst dX11_compile_114 ?_
      refine A_goto (tgt := 119) dX11_compile_115 (by decide) ?_
      refine A_putz (p := true) fl_X11_316 lk_84 rfl dX11_compile_119 ?_
      refine A_iload_n dX11_compile_122 rfl 0 rfl ?_
      refine J_if_eq (tgt := 130) dX11_compile_123 (by decide) (by first | exact hei | exact i32_eq (by assumption) | exact i32_eq ⟨by omega, by omega⟩ | with_reducible exact i32_i32 _ | with_reducible exact i32_eq (b2i_inr _) | rfl) (fun h123 => ?_) (fun h123 => ?_)
      · refine A_iload_n dX11_compile_130 rfl 0 rfl ?_
        refine A_wid (k2 := 18) (n2 := 72) (by decide) (by decide) ?_
        exact A_iret dX11_compile_131 (by have e6 : rc6 σ = mnL (rcK σ) (Vx (rc1 σ)) (Nx (rc1 σ)) (Sx (rc1 σ)) 1502 (up (rc3 σ) 84 8 0) := (by unfold rc6 rc5; rw [if_pos h27, if_pos h27]); unfold rzV; rw [e6]) (by have e6 : rc6 σ = mnL (rcK σ) (Vx (rc1 σ)) (Nx (rc1 σ)) (Sx (rc1 σ)) 1502 (up (rc3 σ) 84 8 0) := (by unfold rc6 rc5; rw [if_pos h27, if_pos h27]); unfold rzS; rw [if_pos (by rw [e6]; exact h111)]; unfold rc7; rw [e6]; rfl)
      · exact absurd h111 h123
        --end
def rt0 (σ : Sg) : Sg := up (up (up σ 84 0 0) 84 4 (-1)) 84 38 0
def rt1 (σ : Sg) : Sg := scC (rt0 σ)
def rtE (σ : Sg) : Int := scE (rt0 σ)
def rtK (σ : Sg) : Int → Int := KR (rt1 σ) (rtE σ)
def rt2 (σ : Sg) : Sg := up (rt1 σ) 84 8 0
def qT (σ : Sg) : Bool × Pp := qEx (rtK σ) (rt2 σ 84 8, rt2 σ 84 9)
def rt3 (σ : Sg) : Sg := stR (rt2 σ) (qT σ).2
def okT (σ : Sg) : Bool := (qT σ).1 && decide (rtK σ (qT σ).2.1 = 25)
def rt5 (σ : Sg) : Sg := if okT σ = true then up (rt3 σ) 84 8 0 else up (up (rt3 σ) 84 4 (Sx (rt1 σ) (qT σ).2.1)) 84 8 0
def rt6 (σ : Sg) : Int × Sg := if okT σ = true then loM (rtK σ) (Vx (rt1 σ)) (Sx (rt1 σ)) (rt5 σ) else (1, rt5 σ)
def rt8 (σ : Sg) : Sg := if (rt6 σ).1 = 0 then up (up (rt6 σ).2 84 8 (chE (rtK σ) (Vx (rt1 σ)) (rt6 σ).2 (rt3 σ 84 15) 0)) 84 38 (chV (rtK σ) (Vx (rt1 σ)) (rt6 σ).2 (rt3 σ 84 15) 0) else up (rt6 σ).2 84 8 0
def rtS (σ : Sg) : Sg := up (rt8 σ) 84 2 0
def rtV (σ : Sg) : Int := (rt6 σ).1
theorem rt3_8 : rt3 σ 84 8 = (qT σ).2.1 := rfl
theorem rt3_o {j : Nat} (h : j ≠ 8 ∧ j ≠ 9) : rt3 σ 84 j = rt1 σ 84 j := by
  unfold rt3 stR rt2
  rw [up_j _ _ h.1, up_j _ _ h.2, up_j _ _ h.1]
theorem rt3_k {k : Nat} (h : k ≠ 84) : rt3 σ k = rt1 σ k := by
  unfold rt3 stR rt2
  rw [up_r _ _ _ h, up_r _ _ _ h, up_r _ _ _ h]
theorem rt1_d (hb : Rb σ) (ht : Rt σ) : ScD (rt0 σ) (rt1 σ) (rtE σ) := sc_ok (show Rb (rt0 σ) from hb) (show Rt (rt0 σ) from ht)
theorem rt1_o (hb : Rb σ) (ht : Rt σ) {k : Nat} (h : k ≠ 86 ∧ k ≠ 87 ∧ k ≠ 88) : rt1 σ k = rt0 σ k := (rt1_d hb ht).1 k h
theorem rt1_b (hb : Rb σ) (ht : Rt σ) : Rb (rt1 σ) := by
  unfold Rb
  rw [rt1_o hb ht (by decide), rt1_o hb ht (by decide)]
  exact hb
theorem Tt_1 (hb : Rb σ) (ht : Rt σ) (h9 : 0 ≤ σ 84 9 ∧ σ 84 9 ≤ 1500) : Tk (rt1 σ) (rtE σ) (rtK σ) (Vx (rt1 σ)) (Nx (rt1 σ)) (Sx (rt1 σ)) := by
  obtain ⟨d1, d2, d3, d4, d5⟩ := rt1_d hb ht
  refine Tk_of (rt1_b hb ht) d2 d3 d4 d5 ?_
  rw [rt1_o hb ht (by decide)]
  exact h9
theorem Tt_2 (hb : Rb σ) (ht : Rt σ) (h9 : 0 ≤ σ 84 9 ∧ σ 84 9 ≤ 1500) : Tk (rt2 σ) (rtE σ) (rtK σ) (Vx (rt1 σ)) (Nx (rt1 σ)) (Sx (rt1 σ)) := (Tt_1 hb ht h9).o (by decide)
theorem qT_bd (hb : Rb σ) (ht : Rt σ) (h9 : 0 ≤ σ 84 9 ∧ σ 84 9 ≤ 1500) : bd (rtE σ) (qT σ).2 := by
  have hT := Tt_2 hb ht h9
  have he := hT.e
  exact (gF_Ex hT.E he.2 _ (hT.bd ⟨Int.le_refl 0, he.1⟩)).1
theorem Tt_3 (hb : Rb σ) (ht : Rt σ) (h9 : 0 ≤ σ 84 9 ∧ σ 84 9 ≤ 1500) : Tk (rt3 σ) (rtE σ) (rtK σ) (Vx (rt1 σ)) (Nx (rt1 σ)) (Sx (rt1 σ)) := by
  have hT := Tt_1 hb ht h9
  have hq := qT_bd hb ht h9
  obtain ⟨⟨⟨a1, a2⟩, a3, a4, a5, a6⟩, b1, b2, b3, b4⟩ := hT
  have k85 := rt3_k (σ := σ) (k := 85) (by decide)
  have k86 := rt3_k (σ := σ) (k := 86) (by decide)
  have k87 := rt3_k (σ := σ) (k := 87) (by decide)
  have k88 := rt3_k (σ := σ) (k := 88) (by decide)
  have k2 := rt3_o (σ := σ) (j := 2) (by decide)
  refine ⟨⟨⟨by rw [k2]; exact a1, by rw [k85]; exact a2⟩, by unfold Rt; rw [k86, k87, k88]; exact a3, a4, by rw [k86]; exact a5, by unfold TkOk; rw [k85, k86, k87, k88]; exact a6⟩, by rw [KR_cg k85 k86 k87 k88]; exact b1, by rw [nmV_cg k85 k87 k88, nuV_cg k85 k87 k88, k87]; exact b2, b3, hq.2⟩
theorem Ct_3 (hb : Rb σ) (ht : Rt σ) (hC : Cn σ) : Cn (up (rt3 σ) 84 8 0) := by
  have z : ∀ j, j = 10 ∨ j = 15 ∨ j = 23 ∨ j = 25 ∨ j = 30 ∨ j = 36 → up (rt3 σ) 84 8 0 84 j = σ 84 j := by
    intro j hj
    rw [up_j _ _ (by omega), rt3_o (by omega), rt1_o hb ht (by decide)]
    rcases hj with rfl | rfl | rfl | rfl | rfl | rfl <;> rfl
  exact hC.cg (z 10 (by omega)) (z 15 (by omega)) (z 23 (by omega)) (z 25 (by omega)) (z 30 (by omega)) (z 36 (by omega))
theorem ChO_T (h : (qT σ).1 = true) : ChO (rtK σ) 0 (qT σ).2.1 := ⟨h, rfl⟩
set_option maxRecDepth 100000 in
set_option maxHeartbeats 4000000 in
theorem c_X11_test  (hb : Rb σ) (ht : Rt σ) (h9 : 0 ≤ σ 84 9 ∧ σ 84 9 ≤ 1500) (hC : Cn σ) : Ct l G yX11_test cX11_test 2 (some .int) 37 0 0 [.ref (lay G 84)] σ (some (.int (I32 (rtV σ)))) (rtS σ) := by
  have hT2 := Tt_2 hb ht h9
  have hT3 := Tt_3 hb ht h9
  have hqb := qT_bd hb ht h9
  have hee := hT2.e
  have hen := Tk.end hT3 hqb.1
  have ht1 := hT3.1.2.1 (qT σ).2.1.toNat
  obtain ⟨⟨hq1, hq2⟩, hq3, hq4⟩ := id hqb
  refine Ct.of (by decide +kernel) (Nat.le_of_ble_eq_true rfl) (fun f => ?_)
  show AW _ _ _ _ _ _ _ _ _ _ [(0, _)] _ _
  refine A_aload_n dX11_test_0 rfl 0 rfl ?_
  refine A_iconst dX11_test_1 ?_
  refine A_puti fl_X11_96 lk_84 rfl dX11_test_2 ?_
  refine A_aload_n dX11_test_5 rfl 0 rfl ?_
  refine A_iconst dX11_test_6 ?_
  refine A_puti fl_X11_13 lk_84 rfl dX11_test_7 ?_
  refine A_aload_n dX11_test_10 rfl 0 rfl ?_
  refine A_iconst dX11_test_11 ?_
  refine A_puti fl_X11_323 lk_84 rfl dX11_test_12 ?_
  refine A_aload_n dX11_test_15 rfl 0 rfl ?_
  refine A_Vv0 mv_X11_329 lk_84 rfl rfl (c_X11_scan _ (show Rb (rt0 σ) from hb)) (Nat.le_of_ble_eq_true rfl) (by omega) (by omega) dX11_test_16 ?_
  try simp (disch := omega) only [incS_s, incS_k, incS_j, thC_keep, ad11, ad21, ad31, ad41, ad12, nc0, nc1, nc2, nc3, nc4, nc5, nc6, nc7, nc8, nc9, nc10, nc11, nc12, nc13, nc14, nc15, nc16, nc17, nc18, nc19, nc20, nc21, fnC_inc, fnC_up, dsZ_j, dsZ_8, dsT_k, loM_j, meT_j, knR_inc, knR_up, incS_8, tgV_8, rt3_8]
  show AW _ _ _ _ _ _ _ _ _ _ _ _ (rt1 σ)
  refine A_aload_n dX11_test_19 rfl 0 rfl ?_
  refine A_iconst dX11_test_20 ?_
  refine A_puti fl_X11_144 lk_84 rfl dX11_test_21 ?_
  show AW _ _ _ _ _ _ _ _ _ _ _ _ (rt2 σ)
  refine A_aload_n dX11_test_24 rfl 0 rfl ?_
  refine A_Va0 mv_X11_200 lk_84 rfl rfl (c_choiceT hT2 ⟨Int.le_refl 0, hee.1⟩) (Nat.le_of_ble_eq_true rfl) (by omega) (by omega) dX11_test_25 ?_
  try simp (disch := omega) only [incS_s, incS_k, incS_j, thC_keep, ad11, ad21, ad31, ad41, ad12, nc0, nc1, nc2, nc3, nc4, nc5, nc6, nc7, nc8, nc9, nc10, nc11, nc12, nc13, nc14, nc15, nc16, nc17, nc18, nc19, nc20, nc21, fnC_inc, fnC_up, dsZ_j, dsZ_8, dsT_k, loM_j, meT_j, knR_inc, knR_up, incS_8, tgV_8, rt3_8]
  show AW _ _ _ _ _ _ _ _ _ _  _ (.int (I32 (b2i (qT σ).1)) :: _) (rt3 σ)
  refine A_ifeq_b (tgt := 47) dX11_test_28 (by decide) (fun h28 => ?_) (fun h28 => ?_)
  · refine A_aload_n dX11_test_47 rfl 0 rfl ?_
    refine A_iconst dX11_test_48 ?_
    refine A_aload_n dX11_test_49 rfl 0 rfl ?_
    refine A_geti fl_X11_144 lk_84 rfl dX11_test_50 ?_
    try simp (disch := omega) only [up_k, up_j, up_s, incS_s, incS_k, incS_j, thC_keep, ad11, ad21, ad31, ad41, ad12, nc0, nc1, nc2, nc3, nc4, nc5, nc6, nc7, nc8, nc9, nc10, nc11, nc12, nc13, nc14, nc15, nc16, nc17, nc18, nc19, nc20, nc21, fnC_inc, fnC_up, dsZ_j, dsZ_8, dsT_k, loM_j, meT_j, knR_inc, knR_up, incS_8, tgV_8, rt3_8]
    refine A_Va2 mv_X11_261 lk_84 rfl rfl (c_wrongT hT3 _ _ hqb.1) (Nat.le_of_ble_eq_true rfl) (by omega) (by omega) dX11_test_53 ?_
    try simp (disch := omega) only [incS_s, incS_k, incS_j, thC_keep, ad11, ad21, ad31, ad41, ad12, nc0, nc1, nc2, nc3, nc4, nc5, nc6, nc7, nc8, nc9, nc10, nc11, nc12, nc13, nc14, nc15, nc16, nc17, nc18, nc19, nc20, nc21, fnC_inc, fnC_up, dsZ_j, dsZ_8, dsT_k, loM_j, meT_j, knR_inc, knR_up, incS_8, tgV_8, rt3_8]
    refine A_istore_n (lv2 := [(1, _), (0, _)]) dX11_test_56 rfl (by decide) rfl ?_
    refine A_aload_n dX11_test_57 rfl 1 rfl ?_
    refine A_iconst dX11_test_58 ?_
    refine A_puti fl_X11_144 lk_84 rfl dX11_test_59 ?_
    refine A_iload_n dX11_test_62 rfl 0 rfl ?_
    refine J_if_ne (tgt := 71) dX11_test_63 (by decide) (by first | exact hlo | exact i32_eq (by assumption) | exact i32_eq ⟨by omega, by omega⟩ | with_reducible exact i32_i32 _ | with_reducible exact i32_eq (b2i_inr _) | rfl) (fun h63 => ?_) (fun h63 => ?_)
    · refine A_aload_n dX11_test_71 rfl 1 rfl ?_
      refine A_iconst dX11_test_72 ?_
      refine A_puti fl_X11_144 lk_84 rfl dX11_test_73 ?_
      refine A_iload_n dX11_test_76 rfl 0 rfl ?_
      refine J_if_ne (tgt := 92) dX11_test_77 (by decide) (by first | exact hlo | exact i32_eq (by assumption) | exact i32_eq ⟨by omega, by omega⟩ | with_reducible exact i32_i32 _ | with_reducible exact i32_eq (b2i_inr _) | rfl) (fun h77 => ?_) (fun h77 => ?_)
      · refine A_aload_n dX11_test_92 rfl 1 rfl ?_
        refine A_iconst dX11_test_93 ?_
        refine A_puti fl_X11_99 lk_84 rfl dX11_test_94 ?_
        refine A_iload_n dX11_test_97 rfl 0 rfl ?_
        exact A_iret dX11_test_98 (by have hno : okT σ = false := (by unfold okT; rw [h28]; rfl); have e6 : rt6 σ = (1, up (up (rt3 σ) 84 4 (Sx (rt1 σ) (qT σ).2.1)) 84 8 0) := (by unfold rt6 rt5; rw [if_neg (by rw [hno]; decide), if_neg (by rw [hno]; decide)]); unfold rtV; rw [e6]) (by have hno : okT σ = false := (by unfold okT; rw [h28]; rfl); have e6 : rt6 σ = (1, up (up (rt3 σ) 84 4 (Sx (rt1 σ) (qT σ).2.1)) 84 8 0) := (by unfold rt6 rt5; rw [if_neg (by rw [hno]; decide), if_neg (by rw [hno]; decide)]); unfold rtS rt8; rw [if_neg (by rw [e6]; exact (by decide : ¬ (1 : Int) = 0))]; rw [e6] <;> (try rfl))
      · exact absurd h77 (by decide)
        --end
    · exact absurd h63 (by decide)
      --end
  · refine A_aload_n dX11_test_31 rfl 0 rfl ?_
    refine A_getr fl_X11_17 lk_84 rfl dX11_test_32 ?_
    refine A_aload_n dX11_test_35 rfl 0 rfl ?_
    refine A_geti fl_X11_144 lk_84 rfl dX11_test_36 ?_
    try simp (disch := omega) only [up_k, up_j, up_s, incS_s, incS_k, incS_j, thC_keep, ad11, ad21, ad31, ad41, ad12, nc0, nc1, nc2, nc3, nc4, nc5, nc6, nc7, nc8, nc9, nc10, nc11, nc12, nc13, nc14, nc15, nc16, nc17, nc18, nc19, nc20, nc21, fnC_inc, fnC_up, dsZ_j, dsZ_8, dsT_k, loM_j, meT_j, knR_inc, knR_up, incS_8, tgV_8, rt3_8]
    refine J_iald lk_86 (by first | exact hlo | exact i32_eq (by assumption) | exact i32_eq ⟨by omega, by omega⟩ | with_reducible exact i32_i32 _ | with_reducible exact i32_eq (b2i_inr _) | rfl) (by omega) (by omega) (by decide) dX11_test_39 ?_
    try simp (disch := omega) only [up_k, up_j, up_s, incS_s, incS_k, incS_j, thC_keep, ad11, ad21, ad31, ad41, ad12, nc0, nc1, nc2, nc3, nc4, nc5, nc6, nc7, nc8, nc9, nc10, nc11, nc12, nc13, nc14, nc15, nc16, nc17, nc18, nc19, nc20, nc21, fnC_inc, fnC_up, dsZ_j, dsZ_8, dsT_k, loM_j, meT_j, knR_inc, knR_up, incS_8, tgV_8, rt3_8]
    refine J_if_ne (tgt := 47) dX11_test_40 (by decide) (by first | exact hlo | exact i32_eq (by assumption) | exact i32_eq ⟨by omega, by omega⟩ | with_reducible exact i32_i32 _ | with_reducible exact i32_eq (b2i_inr _) | rfl) (fun h40 => ?_) (fun h40 => ?_)
    · refine A_aload_n dX11_test_47 rfl 0 rfl ?_
      refine A_iconst dX11_test_48 ?_
      refine A_aload_n dX11_test_49 rfl 0 rfl ?_
      refine A_geti fl_X11_144 lk_84 rfl dX11_test_50 ?_
      try simp (disch := omega) only [up_k, up_j, up_s, incS_s, incS_k, incS_j, thC_keep, ad11, ad21, ad31, ad41, ad12, nc0, nc1, nc2, nc3, nc4, nc5, nc6, nc7, nc8, nc9, nc10, nc11, nc12, nc13, nc14, nc15, nc16, nc17, nc18, nc19, nc20, nc21, fnC_inc, fnC_up, dsZ_j, dsZ_8, dsT_k, loM_j, meT_j, knR_inc, knR_up, incS_8, tgV_8, rt3_8]
      refine A_Va2 mv_X11_261 lk_84 rfl rfl (c_wrongT hT3 _ _ hqb.1) (Nat.le_of_ble_eq_true rfl) (by omega) (by omega) dX11_test_53 ?_
      try simp (disch := omega) only [incS_s, incS_k, incS_j, thC_keep, ad11, ad21, ad31, ad41, ad12, nc0, nc1, nc2, nc3, nc4, nc5, nc6, nc7, nc8, nc9, nc10, nc11, nc12, nc13, nc14, nc15, nc16, nc17, nc18, nc19, nc20, nc21, fnC_inc, fnC_up, dsZ_j, dsZ_8, dsT_k, loM_j, meT_j, knR_inc, knR_up, incS_8, tgV_8, rt3_8]
      refine A_istore_n (lv2 := [(1, _), (0, _)]) dX11_test_56 rfl (by decide) rfl ?_
      refine A_aload_n dX11_test_57 rfl 1 rfl ?_
      refine A_iconst dX11_test_58 ?_
      refine A_puti fl_X11_144 lk_84 rfl dX11_test_59 ?_
      refine A_iload_n dX11_test_62 rfl 0 rfl ?_
      refine J_if_ne (tgt := 71) dX11_test_63 (by decide) (by first | exact hlo | exact i32_eq (by assumption) | exact i32_eq ⟨by omega, by omega⟩ | with_reducible exact i32_i32 _ | with_reducible exact i32_eq (b2i_inr _) | rfl) (fun h63 => ?_) (fun h63 => ?_)
      · refine A_aload_n dX11_test_71 rfl 1 rfl ?_
        refine A_iconst dX11_test_72 ?_
        refine A_puti fl_X11_144 lk_84 rfl dX11_test_73 ?_
        refine A_iload_n dX11_test_76 rfl 0 rfl ?_
        refine J_if_ne (tgt := 92) dX11_test_77 (by decide) (by first | exact hlo | exact i32_eq (by assumption) | exact i32_eq ⟨by omega, by omega⟩ | with_reducible exact i32_i32 _ | with_reducible exact i32_eq (b2i_inr _) | rfl) (fun h77 => ?_) (fun h77 => ?_)
        · refine A_aload_n dX11_test_92 rfl 1 rfl ?_
          refine A_iconst dX11_test_93 ?_
          refine A_puti fl_X11_99 lk_84 rfl dX11_test_94 ?_
          refine A_iload_n dX11_test_97 rfl 0 rfl ?_
          exact A_iret dX11_test_98 (by have hno : okT σ = false := (by unfold okT; rw [h28, Bool.true_and]; exact decide_eq_false (fun z => h40 (hen.mp z))); have e6 : rt6 σ = (1, up (up (rt3 σ) 84 4 (Sx (rt1 σ) (qT σ).2.1)) 84 8 0) := (by unfold rt6 rt5; rw [if_neg (by rw [hno]; decide), if_neg (by rw [hno]; decide)]); unfold rtV; rw [e6]) (by have hno : okT σ = false := (by unfold okT; rw [h28, Bool.true_and]; exact decide_eq_false (fun z => h40 (hen.mp z))); have e6 : rt6 σ = (1, up (up (rt3 σ) 84 4 (Sx (rt1 σ) (qT σ).2.1)) 84 8 0) := (by unfold rt6 rt5; rw [if_neg (by rw [hno]; decide), if_neg (by rw [hno]; decide)]); unfold rtS rt8; rw [if_neg (by rw [e6]; exact (by decide : ¬ (1 : Int) = 0))]; rw [e6] <;> (try rfl))
        · exact absurd h77 (by decide)
          --end
      · exact absurd h63 (by decide)
        --end
    · have hok : okT σ = true := by unfold okT; rw [h28, Bool.true_and]; exact decide_eq_true (hen.mpr h40)
      have hlo : i32 (loM (rtK σ) (Vx (rt1 σ)) (Sx (rt1 σ)) (up (rt3 σ) 84 8 0)).1 = (loM (rtK σ) (Vx (rt1 σ)) (Sx (rt1 σ)) (up (rt3 σ) 84 8 0)).1 := loM_i32
      have hTq := Tk.lk (Tk.o (j := 8) (v := 0) (by decide) hT3)
      have hCq := Cn.lk (K := rtK σ) (V := Vx (rt1 σ)) (S := Sx (rt1 σ)) (Ct_3 hb ht hC)
      refine A_iconst dX11_test_43 ?_
      refine A_goto (tgt := 56) dX11_test_44 (by decide) ?_
      refine A_istore_n (lv2 := [(1, _), (0, _)]) dX11_test_56 rfl (by decide) rfl ?_
      refine A_aload_n dX11_test_57 rfl 1 rfl ?_
      refine A_iconst dX11_test_58 ?_
      refine A_puti fl_X11_144 lk_84 rfl dX11_test_59 ?_
      refine A_iload_n dX11_test_62 rfl 0 rfl ?_
      refine A_if_ne (tgt := 71) dX11_test_63 (by decide) ⟨by decide, by decide⟩ (fun h => absurd h (by decide)) (fun _ => ?_)
      refine A_aload_n dX11_test_66 rfl 1 rfl ?_
      refine A_Va0 mv_X11_292 lk_84 rfl rfl (c_X11_look (Tk.o (by decide) hT3) (Ct_3 hb ht hC) ⟨by rw [up_s]; omega, by rw [up_s]; exact hee.1⟩) (Nat.le_of_ble_eq_true rfl) (by omega) (by omega) dX11_test_67 ?_
      try simp (disch := omega) only [incS_s, incS_k, incS_j, thC_keep, ad11, ad21, ad31, ad41, ad12, nc0, nc1, nc2, nc3, nc4, nc5, nc6, nc7, nc8, nc9, nc10, nc11, nc12, nc13, nc14, nc15, nc16, nc17, nc18, nc19, nc20, nc21, fnC_inc, fnC_up, dsZ_j, dsZ_8, dsT_k, loM_j, meT_j, knR_inc, knR_up, incS_8, tgV_8, rt3_8]
      refine A_istore_n (lv2 := [(1, _), (0, _)]) dX11_test_70 rfl (by decide) rfl ?_
      refine A_aload_n dX11_test_71 rfl 1 rfl ?_
      refine A_iconst dX11_test_72 ?_
      refine A_puti fl_X11_144 lk_84 rfl dX11_test_73 ?_
      refine A_iload_n dX11_test_76 rfl 0 rfl ?_
      refine J_if_ne (tgt := 92) dX11_test_77 (by decide) (by first | exact hlo | exact i32_eq (by assumption) | exact i32_eq ⟨by omega, by omega⟩ | with_reducible exact i32_i32 _ | with_reducible exact i32_eq (b2i_inr _) | rfl) (fun h77 => ?_) (fun h77 => ?_)
      · refine A_aload_n dX11_test_92 rfl 1 rfl ?_
        refine A_iconst dX11_test_93 ?_
        refine A_puti fl_X11_99 lk_84 rfl dX11_test_94 ?_
        refine A_iload_n dX11_test_97 rfl 0 rfl ?_
        exact A_iret dX11_test_98 (by have e6 : rt6 σ = (loM (rtK σ) (Vx (rt1 σ)) (Sx (rt1 σ)) (up (rt3 σ) 84 8 0)) := (by unfold rt6 rt5; rw [if_pos hok, if_pos hok]); unfold rtV; rw [e6]) (by have e6 : rt6 σ = (loM (rtK σ) (Vx (rt1 σ)) (Sx (rt1 σ)) (up (rt3 σ) 84 8 0)) := (by unfold rt6 rt5; rw [if_pos hok, if_pos hok]); unfold rtS rt8; rw [if_neg (by rw [e6]; exact h77)]; rw [e6] <;> (try rfl))
      · refine A_aload_n dX11_test_80 rfl 1 rfl ?_
        refine A_aload_n dX11_test_81 rfl 1 rfl ?_
        refine A_aload_n dX11_test_82 rfl 1 rfl ?_
        refine A_geti fl_X11_247 lk_84 rfl dX11_test_83 ?_
        try simp (disch := omega) only [up_k, up_j, up_s, incS_s, incS_k, incS_j, thC_keep, ad11, ad21, ad31, ad41, ad12, nc0, nc1, nc2, nc3, nc4, nc5, nc6, nc7, nc8, nc9, nc10, nc11, nc12, nc13, nc14, nc15, nc16, nc17, nc18, nc19, nc20, nc21, fnC_inc, fnC_up, dsZ_j, dsZ_8, dsT_k, loM_j, meT_j, knR_inc, knR_up, incS_8, tgV_8, rt3_8]
        refine A_Va1 mv_X11_310 lk_84 rfl rfl (c_X11_any (loM (rtK σ) (Vx (rt1 σ)) (Sx (rt1 σ)) (up (rt3 σ) 84 8 0)).2 (rtE σ) (rtK σ) (Vx (rt1 σ)) (Nx (rt1 σ)) (Sx (rt1 σ)) (rt3 σ 84 15) hTq hCq.2.1 hCq.2.2.2.2.2 (show 0 ≤ rt3 σ 84 15 ∧ rt3 σ 84 15 ≤ 16 from (Ct_3 hb ht hC).2.1) 0 _ ⟨by omega, hee.1⟩ (ChO_T h28)) (Nat.le_of_ble_eq_true rfl) (by omega) (by omega) dX11_test_86 ?_
        try simp (disch := omega) only [incS_s, incS_k, incS_j, thC_keep, ad11, ad21, ad31, ad41, ad12, nc0, nc1, nc2, nc3, nc4, nc5, nc6, nc7, nc8, nc9, nc10, nc11, nc12, nc13, nc14, nc15, nc16, nc17, nc18, nc19, nc20, nc21, fnC_inc, fnC_up, dsZ_j, dsZ_8, dsT_k, loM_j, meT_j, knR_inc, knR_up, incS_8, tgV_8, rt3_8]
        refine A_puti fl_X11_323 lk_84 rfl dX11_test_89 ?_
        refine A_aload_n dX11_test_92 rfl 1 rfl ?_
        refine A_iconst dX11_test_93 ?_
        refine A_puti fl_X11_99 lk_84 rfl dX11_test_94 ?_
        refine A_iload_n dX11_test_97 rfl 0 rfl ?_
        exact A_iret dX11_test_98 (by have e6 : rt6 σ = (loM (rtK σ) (Vx (rt1 σ)) (Sx (rt1 σ)) (up (rt3 σ) 84 8 0)) := (by unfold rt6 rt5; rw [if_pos hok, if_pos hok]); unfold rtV; rw [e6]) (by have e6 : rt6 σ = (loM (rtK σ) (Vx (rt1 σ)) (Sx (rt1 σ)) (up (rt3 σ) 84 8 0)) := (by unfold rt6 rt5; rw [if_pos hok, if_pos hok]); unfold rtS rt8; rw [if_pos (by rw [e6]; exact h77)]; rw [e6] <;> (try rfl))
end S46
