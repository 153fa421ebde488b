/-! the reference: choices worked out, compile, test -/
section S44
variable {l : Launch} {G : Gx}
variable {σ : Sg} {e : Int} {K V N S : Int → Int}
def tgG (σ : Sg) (t d s : Int) : Int := ior s (ishl (iand (ishr (σ 97 d.toNat) t) 1) d)
def tgV (σ : Sg) (t : Int) : Int := fW (σ 84 15) (tgG σ t) 16 0 0
def nmE (σ : Sg) (ah v : Int) : Int := if fnC σ 93 ah v = -1 then tgV σ (fnC σ 110 (σ 84 36) v) else ishl 1 (fnC σ 93 ah v)
def allE (σ : Sg) : Int := ishl 1 (σ 84 15) - 1
def xJ (K : Int → Int) (k : Int) (op : Int → Int → Int) (one : Int → Int × Int) : Nat → Int × Int → Int × Int
  | 0, q => q
  | n + 1, q => if K q.2 = k then xJ K k op one n (op q.1 (one (q.2 + 1)).1, (one (q.2 + 1)).2) else q
def xB (K : Int → Int) (one : Int → Int × Int) (a : Int) : Int × Int := xJ K 13 iand one 1501 (one a)
def xA (K : Int → Int) (one : Int → Int × Int) (a : Int) : Int × Int := xJ K 14 ior (xB K one) 1501 (xB K one a)
def xO (K V nm : Int → Int) (all : Int) : Nat → Int → Int × Int
  | 0, a => (nm (V a), a + 1)
  | m + 1, a => if K a = 15 then (iand all (ixor (xO K V nm all m (a + 1)).1 (-1)), (xO K V nm all m (a + 1)).2) else if K a = 20 then ((xA K (xO K V nm all m) (a + 1)).1, (xA K (xO K V nm all m) (a + 1)).2 + 1) else (nm (V a), a + 1)
theorem tgV_cg {σ τ : Sg} (h1 : τ 84 15 = σ 84 15) (h2 : τ 97 = σ 97) (t : Int) : tgV τ t = tgV σ t := by
  unfold tgV
  rw [h1, show tgG τ t = tgG σ t from by funext d s; unfold tgG; rw [h2]]
theorem nmE_cg {σ τ : Sg} (h1 : τ 84 15 = σ 84 15) (h2 : τ 97 = σ 97) (h3 : τ 93 = σ 93) (h4 : τ 110 = σ 110) (h5 : τ 84 36 = σ 84 36) (ah v : Int) : nmE τ ah v = nmE σ ah v := by
  unfold nmE
  rw [fnC_cg h3, fnC_cg h4, h5, tgV_cg h1 h2]
theorem tgV_8 (a t : Int) : tgV (up σ 84 8 a) t = tgV σ t := tgV_cg (up_j _ _ (by decide)) (up_r _ _ _ (by decide)) t
/-- where each stops: as the form did -/
theorem xJ_pos {k : Int} {op : Int → Int → Int} {one : Int → Int × Int} {p : Ps} (h1 : ∀ s : Pp, (p s).1 = true → (one s.1).2 = (p s).2.1 ∧ (p s).2.2 = s.2) : ∀ (n : Nat) (s : Pp) (v : Int), (rJ K k p n s).1 = true → (xJ K k op one n (v, s.1)).2 = (rJ K k p n s).2.1 ∧ (rJ K k p n s).2.2 = s.2 := by
  intro n
  induction n with
  | zero => intro s v h; exact ⟨rfl, rfl⟩
  | succ n ih =>
    intro s v h
    simp only [rJ, xJ] at h ⊢
    by_cases c : K s.1 = k
    · rw [if_pos c] at h ⊢
      rw [if_pos c]
      by_cases c2 : (pA rG p s).1 = true
      · rw [if_pos c2] at h ⊢
        obtain ⟨q1, q2, q3⟩ := pA_ok c2
        rw [rG_ok q1] at q2 q3
        obtain ⟨q4, q5⟩ := h1 _ q2
        rw [q3] at h ⊢
        have q4 : (one (s.1 + 1)).2 = _ := q4
        rw [q4]
        have r := ih _ (op v (one (s.1 + 1)).1) h
        exact ⟨r.1, r.2.trans q5⟩
      · rw [if_neg c2] at h; cases h
    · rw [if_neg c, if_neg c]; exact ⟨rfl, rfl⟩
theorem xB_pos {one : Int → Int × Int} {p : Ps} (h1 : ∀ s : Pp, (p s).1 = true → (one s.1).2 = (p s).2.1 ∧ (p s).2.2 = s.2) (s : Pp) (h : (rBoth K p s).1 = true) : (xB K one s.1).2 = (rBoth K p s).2.1 ∧ (rBoth K p s).2.2 = s.2 := by
  obtain ⟨q1, q2, q3⟩ := pA_ok h
  obtain ⟨q4, q5⟩ := h1 s q1
  have e1 : (rBoth K p s).2 = (rJ K 13 p 1501 (p s).2).2 := q3
  obtain ⟨r1, r2⟩ := xJ_pos (op := iand) h1 1501 (p s).2 (one s.1).1 q2
  rw [e1, ← r1]
  unfold xB
  rw [← q4]
  exact ⟨rfl, r2.trans q5⟩
theorem xA_pos {one : Int → Int × Int} {p : Ps} (h1 : ∀ s : Pp, (p s).1 = true → (one s.1).2 = (p s).2.1 ∧ (p s).2.2 = s.2) (s : Pp) (h : (rAny K p s).1 = true) : (xA K one s.1).2 = (rAny K p s).2.1 ∧ (rAny K p s).2.2 = s.2 := by
  obtain ⟨q1, q2, q3⟩ := pA_ok h
  obtain ⟨q4, q5⟩ := xB_pos h1 s q1
  have e1 : (rAny K p s).2 = (rJ K 14 (rBoth K p) 1501 (rBoth K p s).2).2 := q3
  obtain ⟨r1, r2⟩ := xJ_pos (op := ior) (fun s h => xB_pos h1 s h) 1501 (rBoth K p s).2 (xB K one s.1).1 q2
  rw [e1, ← r1]
  unfold xA
  rw [← q4]
  exact ⟨rfl, r2.trans q5⟩
theorem xO_pos (nm : Int → Int) (all : Int) : ∀ (m : Nat) (s : Pp), (rOne K m s).1 = true → (xO K V nm all m s.1).2 = (rOne K m s).2.1 ∧ (rOne K m s).2.2 = s.2 := by
  intro m
  induction m with
  | zero =>
    intro s h
    simp only [rOne, xO] at h ⊢
    by_cases c : K s.1 = 22
    · rw [if_pos c] at h ⊢; rw [rG_ok h]; exact ⟨rfl, rfl⟩
    · rw [if_neg c] at h; cases h
  | succ m ih =>
    intro s h
    simp only [rOne, xO] at h ⊢
    by_cases c : K s.1 = 22
    · rw [if_pos c] at h ⊢
      rw [if_neg (by rw [c]; decide), if_neg (by rw [c]; decide), rG_ok h]; exact ⟨rfl, rfl⟩
    · rw [if_neg c] at h ⊢
      by_cases c2 : K s.1 = 15
      · rw [if_pos c2] at h ⊢
        rw [if_pos c2]
        obtain ⟨q1, q2, q3⟩ := pA_ok h
        rw [rG_ok q1] at q2 q3
        rw [q3]
        exact ih _ q2
      · rw [if_neg c2] at h ⊢
        rw [if_neg c2]
        by_cases c3 : K s.1 = 20
        · rw [if_pos c3] at h ⊢
          rw [if_pos c3]
          obtain ⟨q1, q2, q3⟩ := pA_ok h
          rw [rG_ok q1] at q2 q3
          obtain ⟨q4, q5, q6⟩ := pA_ok q2
          obtain ⟨q7, q8⟩ := xA_pos ih _ q4
          rw [q3, q6]
          unfold rC at q5 ⊢
          by_cases c4 : K ((rAny K (rOne K m) (s.1 + 1, s.2)).2).1 = 21
          · rw [if_pos c4] at q5 ⊢
            rw [rG_ok q5]
            have q7 : (xA K (xO K V nm all m) (s.1 + 1)).2 = _ := q7
            exact ⟨congrArg (fun z => z + 1) q7, q8⟩
          · rw [if_neg c4] at q5; cases q5
        · rw [if_neg c3] at h; cases h
theorem incS_8 (a : Int) : incS 8 (up σ 84 8 a) = up σ 84 8 (a + 1) := by
  unfold incS
  rw [up_s, up_up]
theorem bd_in (hT : Tk σ e K V N S) {p : Ps} (hp : gF e p) {a cf : Int} (ha : 0 ≤ a ∧ a ≤ e) (hcf : 0 ≤ cf ∧ cf ≤ 1500) : 0 ≤ (p (a, cf)).2.1 ∧ (p (a, cf)).2.1 ≤ e := (hp (a, cf) ⟨ha, hcf⟩).1.1
set_option maxRecDepth 100000 in
set_option maxHeartbeats 4000000 in
theorem w_X11_tagged {f : Fm} {Q : State → Prop} {xs : va_W} {kk nn rc rs : Nat} (σ : Sg) (t : Int) (h15 : 0 ≤ σ 84 15 ∧ σ 84 15 ≤ 16) (hm : kk ≤ rc ∧ nn ≤ rs) : ∀ (n : Nat) (i : Int) (s : Int), 0 ≤ i → inr i → σ 84 15 ≤ i + n → AW l G f (RX11, cX11_tagged, 4, (some .int)) (0, rc, rs) Q xs kk nn 33 [(2, .int (I32 (fW (σ 84 15) (tgG σ t) n i s))), (0, .ref (lay G 84)), (1, .int (I32 t))] [] (σ) → AW l G f (RX11, cX11_tagged, 4, (some .int)) (0, rc, rs) Q xs kk nn 4 [(3, .int (I32 i)), (2, .int (I32 s)), (0, .ref (lay G 84)), (1, .int (I32 t))] [] (σ) := by
  intro n
  induction n using Nat.strongRecOn with | _ n ih =>
  intro i s h0 hii hn  hK
  obtain ⟨hi1, hi2⟩ := hii
  refine A_iload_n dX11_tagged_4 rfl 0 rfl ?_
  refine A_aload_n dX11_tagged_5 rfl 2 rfl ?_
  refine A_geti fl_X11_247 lk_84 rfl dX11_tagged_6 ?_
  refine J_icmp_ge (tgt := 33) dX11_tagged_9 (by decide) (by first | exact i32_eq (by assumption) | exact i32_eq ⟨by omega, by omega⟩ | with_reducible exact i32_i32 _ | with_reducible exact i32_eq (b2i_inr _) | rfl) (by first | exact i32_eq (by assumption) | exact i32_eq ⟨by omega, by omega⟩ | with_reducible exact i32_i32 _ | with_reducible exact i32_eq (b2i_inr _) | rfl) (fun h9 => ?_) (fun h9 => ?_)
  · refine A_lv [1, 2, 3] rfl ?_
    clear ih
    rcases n with _ | n <;> simp only [fW] at hK <;> (repeat' split at hK) <;> first | contradiction | (exfalso; omega) | exact hK | (simp_all; done)
  · refine A_iload_n dX11_tagged_12 rfl 1 rfl ?_
    refine A_aload_n dX11_tagged_13 rfl 2 rfl ?_
    refine A_getr fl_X11_51 lk_84 rfl dX11_tagged_14 ?_
    refine A_iload_n dX11_tagged_17 rfl 0 rfl ?_
    refine J_iald lk_97 (by first | exact i32_eq (by assumption) | exact i32_eq ⟨by omega, by omega⟩ | with_reducible exact i32_i32 _ | with_reducible exact i32_eq (b2i_inr _) | rfl) (by omega) (by omega) (by decide) dX11_tagged_18 ?_
    refine A_iload_n dX11_tagged_19 rfl 3 rfl ?_
    refine A_ishr dX11_tagged_20 ?_
    refine A_iconst dX11_tagged_21 ?_
    refine A_iand dX11_tagged_22 ?_
    refine A_iload_n dX11_tagged_23 rfl 0 rfl ?_
    refine A_ishl dX11_tagged_24 ?_
    refine A_ior dX11_tagged_25 ?_
    refine A_istore_n (lv2 := [(2, _), (3, _), (0, _), (1, _)]) dX11_tagged_26 rfl (by decide) rfl ?_
    refine A_iinc (lv2 := [(3, _), (2, _), (0, _), (1, _)]) dX11_tagged_27 1 rfl (by decide) rfl ?_
    refine A_goto (tgt := 4) dX11_tagged_30 (by decide) ?_
    refine A_lv [0, 1, 2, 3] rfl ?_
    refine ih (n - 1) (by omega) (i + 1) _ (by omega) ⟨by omega, by omega⟩ (by omega) ?_
    obtain ⟨n, rfl⟩ : ∃ q, n = q + 1 := ⟨n - 1, by omega⟩
    clear ih
    rw [fW_s] at hK
    simp only [Nat.add_sub_cancel]
    simp only [tgG] at hK
    (repeat' split at hK) <;> first | contradiction | (exfalso; omega) | exact hK | (simp_all; done)
set_option maxRecDepth 100000 in
set_option maxHeartbeats 4000000 in
theorem c_X11_tagged (t : Int) (h15 : 0 ≤ σ 84 15 ∧ σ 84 15 ≤ 16) : Ct l G yX11_tagged cX11_tagged 4 (some .int) 0 0 0 [.ref (lay G 84), .int (I32 t)] σ (some (.int (I32 (tgV σ t)))) (σ) := by
  refine Ct.of (by decide +kernel) (Nat.le_of_ble_eq_true rfl) (fun f => ?_)
  show AW _ _ _ _ _ _ _ _ _ _ [(0, _), (1, _)] _ _
  refine A_iconst dX11_tagged_0 ?_
  refine A_istore_n (lv2 := [(2, _), (0, _), (1, _)]) dX11_tagged_1 rfl (by decide) rfl ?_
  refine A_iconst dX11_tagged_2 ?_
  refine A_istore_n (lv2 := [(3, _), (2, _), (0, _), (1, _)]) dX11_tagged_3 rfl (by decide) rfl ?_
  refine A_lv [0, 1, 2, 3] rfl ?_
  refine w_X11_tagged σ t h15 (by omega) 16 0 0 (by omega) ⟨by omega, by omega⟩ (by omega) ?_
  refine A_iload_n dX11_tagged_33 rfl 0 rfl ?_
  exact A_iret dX11_tagged_34 (by rfl) (by rfl)
set_option maxRecDepth 100000 in
set_option maxHeartbeats 4000000 in
theorem c_X11_all   : Ct l G yX11_all cX11_all 1 (some .int) 0 0 0 [.ref (lay G 84)] σ (some (.int (I32 (allE σ)))) (σ) := by
  refine Ct.of (by decide +kernel) (Nat.le_of_ble_eq_true rfl) (fun f => ?_)
  show AW _ _ _ _ _ _ _ _ _ _ [(0, _)] _ _
  refine A_iconst dX11_all_0 ?_
  refine A_aload_n dX11_all_1 rfl 0 rfl ?_
  refine A_geti fl_X11_247 lk_84 rfl dX11_all_2 ?_
  refine A_ishl dX11_all_5 ?_
  refine A_iconst dX11_all_6 ?_
  refine A_isub dX11_all_7 ?_
  exact A_iret dX11_all_8 (by rfl) (by rfl)
set_option maxRecDepth 100000 in
set_option maxHeartbeats 4000000 in
theorem w_X11_both6 {f : Fm} (σ : Sg) (e : Int) (K V N S : Int → Int) (ah : Int) (hT : Tk σ e K V N S) (h15 : 0 ≤ σ 84 15 ∧ σ 84 15 ≤ 16) (h36 : 0 ≤ σ 84 36 ∧ σ 84 36 ≤ 16) (hah : 0 ≤ ah ∧ ah ≤ 16) (m : Nat) (o1 : ∀ (a cf : Int), (0 ≤ a ∧ a ≤ e) → (0 ≤ cf ∧ cf ≤ 1500) → (rOne K m (a, cf)).1 = true → Ct l G yX11_one cX11_one 5 (some .int) (7 + 3 * m) 0 0 [.ref (lay G 84), .int (I32 ah)] (up σ 84 8 (a)) (some (.int (I32 (xO K V (nmE σ ah) (allE σ) m a).1))) (up σ 84 8 ((xO K V (nmE σ ah) (allE σ) m a).2))) : ∀ (n : Nat) (s1 a cf : Int) (r : Option Value) (σ1 : Sg), (0 ≤ a ∧ a ≤ e) → (0 ≤ cf ∧ cf ≤ 1500) → e - a < n → (rJ K 13 (rOne K m) n (a, cf)).1 = true → r = some (.int (I32 (xJ K 13 iand (xO K V (nmE σ ah) (allE σ) m) n (s1, a)).1)) → σ1 = (up σ 84 8 ((xJ K 13 iand (xO K V (nmE σ ah) (allE σ) m) n (s1, a)).2)) → AW l G f (RX11, cX11_both, 3, (some .int)) (8 + 3 * m, 0, 0) (QT G f 0 0 r σ1) [] 0 0 6 [(2, .int (I32 s1)), (0, .ref (lay G 84)), (1, .int (I32 ah))] [] (up σ 84 8 (a)) := by
  intro n
  induction n using Nat.strongRecOn with | _ n ih =>
  intro s1 a cf r σ1 ha hcf hn hg hr hs
  obtain ⟨n, rfl⟩ : ∃ q, n = q + 1 := ⟨n - 1, by omega⟩
  have he := hT.e
  have hE := hT.E
  refine A_aload_n dX11_both_6 rfl 1 rfl ?_
  refine A_ldcs (i := 13) (by decide +kernel) dX11_both_7 ?_
  refine A_Va1 mv_X11_160 lk_84 rfl rfl (c_takesT (σ := (up σ 84 8 (a))) (hT.o (by decide)) 13 (by rw [up_s]; exact ha) (by decide)) (Nat.le_of_ble_eq_true rfl) (by omega) (by omega) dX11_both_9 ?_
  try simp (disch := omega) only [incS_s, incS_k, incS_j, thC_keep, ad11, ad21, ad31, ad41, ad12, nc0, nc1, nc2, nc3, nc4, nc5, nc6, nc7, nc8, nc9, nc10, nc11, nc12, nc13, nc14, nc15, nc16, nc17, nc18, nc19, nc20, nc21, fnC_inc, fnC_up, dsZ_j, dsZ_8, dsT_k, loM_j, meT_j, knR_inc, knR_up, incS_8, tgV_8]
  refine A_ifeq_b (tgt := 26) dX11_both_12 (by decide) (fun h12 => ?_) (fun h12 => ?_)
  · have hk : ¬ K a = 13 := by have := of_decide_eq_false h12; simpa only [up_s] using this
    rw [tkS_f (by rw [up_s]; exact hk)]
    have ex : xJ K 13 iand (xO K V (nmE σ ah) (allE σ) m) (n + 1) (s1, a) = (s1, a) := by
      show (if K a = 13 then _ else _) = _
      rw [if_neg hk]
    rw [ex] at hr hs
    refine A_iload_n dX11_both_26 rfl 0 rfl ?_
    exact A_iret dX11_both_27 (by rw [hr]) (by rw [hs])
  · have hk : K a = 13 := by have := of_decide_eq_true h12; simpa only [up_s] using this
    rw [tkS_t (by rw [up_s]; exact hk), incS_8]
    simp only [rJ] at hg
    rw [if_pos hk] at hg
    have hpA : (pA rG (rOne K m) (a, cf)).1 = true := by
      by_cases c2 : (pA rG (rOne K m) (a, cf)).1 = true
      · exact c2
      · rw [if_neg c2] at hg; cases hg
    rw [if_pos hpA] at hg
    obtain ⟨hq1, hq2, hq3⟩ := pA_ok hpA
    rw [rG_ok hq1] at hq2 hq3
    rw [hq3] at hg
    have hin := hT.in hk (by decide)
    obtain ⟨hp1, hp2⟩ := xO_pos (nmE σ ah) (allE σ) m _ hq2
    have hbb := bd_in hT (gF_One hE m) (a := a + 1) (by omega) hcf
    have hge := ((gF_One hE m) (a + 1, cf) ⟨by show 0 ≤ a + 1 ∧ a + 1 ≤ e; omega, hcf⟩).2
    have hge : a + 1 ≤ _ := hge
    have hp1 : ((xO K V (nmE σ ah) (allE σ) m) (a + 1)).2 = ((rOne K m) (a + 1, cf)).2.1 := hp1
    have hp2 : ((rOne K m) (a + 1, cf)).2.2 = cf := hp2
    have ex : xJ K 13 iand (xO K V (nmE σ ah) (allE σ) m) (n + 1) (s1, a) = xJ K 13 iand (xO K V (nmE σ ah) (allE σ) m) n (iand s1 ((xO K V (nmE σ ah) (allE σ) m) (a + 1)).1, ((xO K V (nmE σ ah) (allE σ) m) (a + 1)).2) := by
      show (if K a = 13 then _ else _) = _
      rw [if_pos hk]
    rw [ex] at hr hs
    refine A_iload_n dX11_both_15 rfl 0 rfl ?_
    refine A_aload_n dX11_both_16 rfl 1 rfl ?_
    refine A_iload_n dX11_both_17 rfl 2 rfl ?_
    refine A_Va1 mv_X11_304 lk_84 rfl rfl (o1 _ cf (by omega) hcf hq2) (Nat.le_of_ble_eq_true rfl) (by omega) (by omega) dX11_both_18 ?_
    try simp (disch := omega) only [incS_s, incS_k, incS_j, thC_keep, ad11, ad21, ad31, ad41, ad12, nc0, nc1, nc2, nc3, nc4, nc5, nc6, nc7, nc8, nc9, nc10, nc11, nc12, nc13, nc14, nc15, nc16, nc17, nc18, nc19, nc20, nc21, fnC_inc, fnC_up, dsZ_j, dsZ_8, dsT_k, loM_j, meT_j, knR_inc, knR_up, incS_8, tgV_8]
    refine A_iand dX11_both_21 ?_
    refine A_istore_n (lv2 := [(2, _), (0, _), (1, _)]) dX11_both_22 rfl (by decide) rfl ?_
    refine A_goto (tgt := 6) dX11_both_23 (by decide) ?_
    refine A_lv [0, 1, 2] rfl ?_
    refine ih n (by omega) _ _ cf r σ1 (by rw [hp1]; exact hbb) hcf (by rw [hp1]; omega) ?_ hr hs
    rw [hp1]
    have e9 : ((rOne K m) (a + 1, cf)).2 = (((rOne K m) (a + 1, cf)).2.1, cf) := Prod.ext rfl hp2
    rw [e9] at hg
    exact hg
set_option maxRecDepth 100000 in
set_option maxHeartbeats 4000000 in
theorem w_X11_both (σ : Sg) (e : Int) (K V N S : Int → Int) (ah : Int) (hT : Tk σ e K V N S) (h15 : 0 ≤ σ 84 15 ∧ σ 84 15 ≤ 16) (h36 : 0 ≤ σ 84 36 ∧ σ 84 36 ≤ 16) (hah : 0 ≤ ah ∧ ah ≤ 16) (m : Nat) (o1 : ∀ (a cf : Int), (0 ≤ a ∧ a ≤ e) → (0 ≤ cf ∧ cf ≤ 1500) → (rOne K m (a, cf)).1 = true → Ct l G yX11_one cX11_one 5 (some .int) (7 + 3 * m) 0 0 [.ref (lay G 84), .int (I32 ah)] (up σ 84 8 (a)) (some (.int (I32 (xO K V (nmE σ ah) (allE σ) m a).1))) (up σ 84 8 ((xO K V (nmE σ ah) (allE σ) m a).2))) (a cf : Int) (ha : 0 ≤ a ∧ a ≤ e) (hcf : 0 ≤ cf ∧ cf ≤ 1500) (hg : (rBoth K (rOne K m) (a, cf)).1 = true) : Ct l G yX11_both cX11_both 3 (some .int) (8 + 3 * m) 0 0 [.ref (lay G 84), .int (I32 ah)] (up σ 84 8 (a)) (some (.int (I32 (xB K (xO K V (nmE σ ah) (allE σ) m) a).1))) ((up σ 84 8 ((xB K (xO K V (nmE σ ah) (allE σ) m) a).2))) := by
  have he := hT.e
  have hE := hT.E
  obtain ⟨hq1, hq2, hq3⟩ := pA_ok hg
  obtain ⟨hp1, hp2⟩ := xO_pos (nmE σ ah) (allE σ) m _ hq1
  have hbb := bd_in hT (gF_One hE m) ha hcf
  have hp1 : ((xO K V (nmE σ ah) (allE σ) m) a).2 = ((rOne K m) (a, cf)).2.1 := hp1
  have hp2 : ((rOne K m) (a, cf)).2.2 = cf := hp2
  refine Ct.of (by decide +kernel) (Nat.le_of_ble_eq_true rfl) (fun f => ?_)
  show AW _ _ _ _ _ _ _ _ _ _ [(0, _), (1, _)] _ _
  refine A_aload_n dX11_both_0 rfl 0 rfl ?_
  refine A_iload_n dX11_both_1 rfl 1 rfl ?_
  refine A_Va1 mv_X11_304 lk_84 rfl rfl (o1 _ cf ha hcf hq1) (Nat.le_of_ble_eq_true rfl) (by omega) (by omega) dX11_both_2 ?_
  try simp (disch := omega) only [incS_s, incS_k, incS_j, thC_keep, ad11, ad21, ad31, ad41, ad12, nc0, nc1, nc2, nc3, nc4, nc5, nc6, nc7, nc8, nc9, nc10, nc11, nc12, nc13, nc14, nc15, nc16, nc17, nc18, nc19, nc20, nc21, fnC_inc, fnC_up, dsZ_j, dsZ_8, dsT_k, loM_j, meT_j, knR_inc, knR_up, incS_8, tgV_8]
  refine A_istore_n (lv2 := [(2, _), (0, _), (1, _)]) dX11_both_5 rfl (by decide) rfl ?_
  refine A_lv [0, 1, 2] rfl ?_
  refine w_X11_both6 σ e K V N S ah hT h15 h36 hah m o1 1501 _ _ cf _ _ (by rw [hp1]; exact hbb) hcf (by rw [hp1]; omega) ?_ rfl rfl
  rw [hp1]
  have e9 : ((rOne K m) (a, cf)).2 = (((rOne K m) (a, cf)).2.1, cf) := Prod.ext rfl hp2
  rw [e9] at hq2
  exact hq2
set_option maxRecDepth 100000 in
set_option maxHeartbeats 4000000 in
theorem w_X11_any6 {f : Fm} (σ : Sg) (e : Int) (K V N S : Int → Int) (ah : Int) (hT : Tk σ e K V N S) (h15 : 0 ≤ σ 84 15 ∧ σ 84 15 ≤ 16) (h36 : 0 ≤ σ 84 36 ∧ σ 84 36 ≤ 16) (hah : 0 ≤ ah ∧ ah ≤ 16) (m : Nat) (o1 : ∀ (a cf : Int), (0 ≤ a ∧ a ≤ e) → (0 ≤ cf ∧ cf ≤ 1500) → (rBoth K (rOne K m) (a, cf)).1 = true → Ct l G yX11_both cX11_both 3 (some .int) (8 + 3 * m) 0 0 [.ref (lay G 84), .int (I32 ah)] (up σ 84 8 (a)) (some (.int (I32 (xB K (xO K V (nmE σ ah) (allE σ) m) a).1))) (up σ 84 8 ((xB K (xO K V (nmE σ ah) (allE σ) m) a).2))) : ∀ (n : Nat) (s1 a cf : Int) (r : Option Value) (σ1 : Sg), (0 ≤ a ∧ a ≤ e) → (0 ≤ cf ∧ cf ≤ 1500) → e - a < n → (rJ K 14 (rBoth K (rOne K m)) n (a, cf)).1 = true → r = some (.int (I32 (xJ K 14 ior (xB K (xO K V (nmE σ ah) (allE σ) m)) n (s1, a)).1)) → σ1 = (up σ 84 8 ((xJ K 14 ior (xB K (xO K V (nmE σ ah) (allE σ) m)) n (s1, a)).2)) → AW l G f (RX11, cX11_any, 3, (some .int)) (9 + 3 * m, 0, 0) (QT G f 0 0 r σ1) [] 0 0 6 [(2, .int (I32 s1)), (0, .ref (lay G 84)), (1, .int (I32 ah))] [] (up σ 84 8 (a)) := by
  intro n
  induction n using Nat.strongRecOn with | _ n ih =>
  intro s1 a cf r σ1 ha hcf hn hg hr hs
  obtain ⟨n, rfl⟩ : ∃ q, n = q + 1 := ⟨n - 1, by omega⟩
  have he := hT.e
  have hE := hT.E
  refine A_aload_n dX11_any_6 rfl 1 rfl ?_
  refine A_ldcs (i := 14) (by decide +kernel) dX11_any_7 ?_
  refine A_Va1 mv_X11_160 lk_84 rfl rfl (c_takesT (σ := (up σ 84 8 (a))) (hT.o (by decide)) 14 (by rw [up_s]; exact ha) (by decide)) (Nat.le_of_ble_eq_true rfl) (by omega) (by omega) dX11_any_9 ?_
  try simp (disch := omega) only [incS_s, incS_k, incS_j, thC_keep, ad11, ad21, ad31, ad41, ad12, nc0, nc1, nc2, nc3, nc4, nc5, nc6, nc7, nc8, nc9, nc10, nc11, nc12, nc13, nc14, nc15, nc16, nc17, nc18, nc19, nc20, nc21, fnC_inc, fnC_up, dsZ_j, dsZ_8, dsT_k, loM_j, meT_j, knR_inc, knR_up, incS_8, tgV_8]
  refine A_ifeq_b (tgt := 26) dX11_any_12 (by decide) (fun h12 => ?_) (fun h12 => ?_)
  · have hk : ¬ K a = 14 := by have := of_decide_eq_false h12; simpa only [up_s] using this
    rw [tkS_f (by rw [up_s]; exact hk)]
    have ex : xJ K 14 ior (xB K (xO K V (nmE σ ah) (allE σ) m)) (n + 1) (s1, a) = (s1, a) := by
      show (if K a = 14 then _ else _) = _
      rw [if_neg hk]
    rw [ex] at hr hs
    refine A_iload_n dX11_any_26 rfl 0 rfl ?_
    exact A_iret dX11_any_27 (by rw [hr]) (by rw [hs])
  · have hk : K a = 14 := by have := of_decide_eq_true h12; simpa only [up_s] using this
    rw [tkS_t (by rw [up_s]; exact hk), incS_8]
    simp only [rJ] at hg
    rw [if_pos hk] at hg
    have hpA : (pA rG (rBoth K (rOne K m)) (a, cf)).1 = true := by
      by_cases c2 : (pA rG (rBoth K (rOne K m)) (a, cf)).1 = true
      · exact c2
      · rw [if_neg c2] at hg; cases hg
    rw [if_pos hpA] at hg
    obtain ⟨hq1, hq2, hq3⟩ := pA_ok hpA
    rw [rG_ok hq1] at hq2 hq3
    rw [hq3] at hg
    have hin := hT.in hk (by decide)
    obtain ⟨hp1, hp2⟩ := xB_pos (xO_pos (nmE σ ah) (allE σ) m) _ hq2
    have hbb := bd_in hT (gF_Both hE (gF_One hE m)) (a := a + 1) (by omega) hcf
    have hge := ((gF_Both hE (gF_One hE m)) (a + 1, cf) ⟨by show 0 ≤ a + 1 ∧ a + 1 ≤ e; omega, hcf⟩).2
    have hge : a + 1 ≤ _ := hge
    have hp1 : ((xB K (xO K V (nmE σ ah) (allE σ) m)) (a + 1)).2 = ((rBoth K (rOne K m)) (a + 1, cf)).2.1 := hp1
    have hp2 : ((rBoth K (rOne K m)) (a + 1, cf)).2.2 = cf := hp2
    have ex : xJ K 14 ior (xB K (xO K V (nmE σ ah) (allE σ) m)) (n + 1) (s1, a) = xJ K 14 ior (xB K (xO K V (nmE σ ah) (allE σ) m)) n (ior s1 ((xB K (xO K V (nmE σ ah) (allE σ) m)) (a + 1)).1, ((xB K (xO K V (nmE σ ah) (allE σ) m)) (a + 1)).2) := by
      show (if K a = 14 then _ else _) = _
      rw [if_pos hk]
    rw [ex] at hr hs
    refine A_iload_n dX11_any_15 rfl 0 rfl ?_
    refine A_aload_n dX11_any_16 rfl 1 rfl ?_
    refine A_iload_n dX11_any_17 rfl 2 rfl ?_
    refine A_Va1 mv_X11_301 lk_84 rfl rfl (o1 _ cf (by omega) hcf hq2) (Nat.le_of_ble_eq_true rfl) (by omega) (by omega) dX11_any_18 ?_
    try simp (disch := omega) only [incS_s, incS_k, incS_j, thC_keep, ad11, ad21, ad31, ad41, ad12, nc0, nc1, nc2, nc3, nc4, nc5, nc6, nc7, nc8, nc9, nc10, nc11, nc12, nc13, nc14, nc15, nc16, nc17, nc18, nc19, nc20, nc21, fnC_inc, fnC_up, dsZ_j, dsZ_8, dsT_k, loM_j, meT_j, knR_inc, knR_up, incS_8, tgV_8]
    refine A_ior dX11_any_21 ?_
    refine A_istore_n (lv2 := [(2, _), (0, _), (1, _)]) dX11_any_22 rfl (by decide) rfl ?_
    refine A_goto (tgt := 6) dX11_any_23 (by decide) ?_
    refine A_lv [0, 1, 2] rfl ?_
    refine ih n (by omega) _ _ cf r σ1 (by rw [hp1]; exact hbb) hcf (by rw [hp1]; omega) ?_ hr hs
    rw [hp1]
    have e9 : ((rBoth K (rOne K m)) (a + 1, cf)).2 = (((rBoth K (rOne K m)) (a + 1, cf)).2.1, cf) := Prod.ext rfl hp2
    rw [e9] at hg
    exact hg
set_option maxRecDepth 100000 in
set_option maxHeartbeats 4000000 in
theorem w_X11_any (σ : Sg) (e : Int) (K V N S : Int → Int) (ah : Int) (hT : Tk σ e K V N S) (h15 : 0 ≤ σ 84 15 ∧ σ 84 15 ≤ 16) (h36 : 0 ≤ σ 84 36 ∧ σ 84 36 ≤ 16) (hah : 0 ≤ ah ∧ ah ≤ 16) (m : Nat) (o1 : ∀ (a cf : Int), (0 ≤ a ∧ a ≤ e) → (0 ≤ cf ∧ cf ≤ 1500) → (rBoth K (rOne K m) (a, cf)).1 = true → Ct l G yX11_both cX11_both 3 (some .int) (8 + 3 * m) 0 0 [.ref (lay G 84), .int (I32 ah)] (up σ 84 8 (a)) (some (.int (I32 (xB K (xO K V (nmE σ ah) (allE σ) m) a).1))) (up σ 84 8 ((xB K (xO K V (nmE σ ah) (allE σ) m) a).2))) (a cf : Int) (ha : 0 ≤ a ∧ a ≤ e) (hcf : 0 ≤ cf ∧ cf ≤ 1500) (hg : (rAny K (rOne K m) (a, cf)).1 = true) : Ct l G yX11_any cX11_any 3 (some .int) (9 + 3 * m) 0 0 [.ref (lay G 84), .int (I32 ah)] (up σ 84 8 (a)) (some (.int (I32 (xA K (xO K V (nmE σ ah) (allE σ) m) a).1))) ((up σ 84 8 ((xA K (xO K V (nmE σ ah) (allE σ) m) a).2))) := by
  have he := hT.e
  have hE := hT.E
  obtain ⟨hq1, hq2, hq3⟩ := pA_ok hg
  obtain ⟨hp1, hp2⟩ := xB_pos (xO_pos (nmE σ ah) (allE σ) m) _ hq1
  have hbb := bd_in hT (gF_Both hE (gF_One hE m)) ha hcf
  have hp1 : ((xB K (xO K V (nmE σ ah) (allE σ) m)) a).2 = ((rBoth K (rOne K m)) (a, cf)).2.1 := hp1
  have hp2 : ((rBoth K (rOne K m)) (a, cf)).2.2 = cf := hp2
  refine Ct.of (by decide +kernel) (Nat.le_of_ble_eq_true rfl) (fun f => ?_)
  show AW _ _ _ _ _ _ _ _ _ _ [(0, _), (1, _)] _ _
  refine A_aload_n dX11_any_0 rfl 0 rfl ?_
  refine A_iload_n dX11_any_1 rfl 1 rfl ?_
  refine A_Va1 mv_X11_301 lk_84 rfl rfl (o1 _ cf ha hcf hq1) (Nat.le_of_ble_eq_true rfl) (by omega) (by omega) dX11_any_2 ?_
  try simp (disch := omega) only [incS_s, incS_k, incS_j, thC_keep, ad11, ad21, ad31, ad41, ad12, nc0, nc1, nc2, nc3, nc4, nc5, nc6, nc7, nc8, nc9, nc10, nc11, nc12, nc13, nc14, nc15, nc16, nc17, nc18, nc19, nc20, nc21, fnC_inc, fnC_up, dsZ_j, dsZ_8, dsT_k, loM_j, meT_j, knR_inc, knR_up, incS_8, tgV_8]
  refine A_istore_n (lv2 := [(2, _), (0, _), (1, _)]) dX11_any_5 rfl (by decide) rfl ?_
  refine A_lv [0, 1, 2] rfl ?_
  refine w_X11_any6 σ e K V N S ah hT h15 h36 hah m o1 1501 _ _ cf _ _ (by rw [hp1]; exact hbb) hcf (by rw [hp1]; omega) ?_ rfl rfl
  rw [hp1]
  have e9 : ((rBoth K (rOne K m)) (a, cf)).2 = (((rBoth K (rOne K m)) (a, cf)).2.1, cf) := Prod.ext rfl hp2
  rw [e9] at hq2
  exact hq2
set_option maxRecDepth 100000 in
set_option maxHeartbeats 4000000 in
theorem w_X11_oneE (σ : Sg) (e : Int) (K V N S : Int → Int) (ah : Int) (hT : Tk σ e K V N S) (h15 : 0 ≤ σ 84 15 ∧ σ 84 15 ≤ 16) (h36 : 0 ≤ σ 84 36 ∧ σ 84 36 ≤ 16) (hah : 0 ≤ ah ∧ ah ≤ 16) (m : Nat) (hmm : m ≤ 8) (o1 : ∀ q, m = q + 1 → ∀ (a cf : Int), (0 ≤ a ∧ a ≤ e) → (0 ≤ cf ∧ cf ≤ 1500) → (rOne K q (a, cf)).1 = true → Ct l G yX11_one cX11_one 5 (some .int) (7 + 3 * q) 0 0 [.ref (lay G 84), .int (I32 ah)] (up σ 84 8 (a)) (some (.int (I32 (xO K V (nmE σ ah) (allE σ) q a).1))) (up σ 84 8 ((xO K V (nmE σ ah) (allE σ) q a).2))) (o2 : ∀ q, m = q + 1 → ∀ (a cf : Int), (0 ≤ a ∧ a ≤ e) → (0 ≤ cf ∧ cf ≤ 1500) → (rAny K (rOne K q) (a, cf)).1 = true → Ct l G yX11_any cX11_any 3 (some .int) (9 + 3 * q) 0 0 [.ref (lay G 84), .int (I32 ah)] (up σ 84 8 (a)) (some (.int (I32 (xA K (xO K V (nmE σ ah) (allE σ) q) a).1))) (up σ 84 8 ((xA K (xO K V (nmE σ ah) (allE σ) q) a).2))) (a cf : Int) (ha : 0 ≤ a ∧ a ≤ e) (hcf : 0 ≤ cf ∧ cf ≤ 1500) (hg : (rOne K m (a, cf)).1 = true) : Ct l G yX11_one cX11_one 5 (some .int) (7 + 3 * m) 0 0 [.ref (lay G 84), .int (I32 ah)] (up σ 84 8 (a)) (some (.int (I32 (xO K V (nmE σ ah) (allE σ) m a).1))) ((up σ 84 8 ((xO K V (nmE σ ah) (allE σ) m a).2))) := by
  have he := hT.e
  have hE := hT.E
  refine Ct.of (by decide +kernel) (Nat.le_of_ble_eq_true rfl) (fun f => ?_)
  show AW _ _ _ _ _ _ _ _ _ _ [(0, _), (1, _)] _ _
  refine A_aload_n dX11_one_0 rfl 0 rfl ?_
  refine A_ldcs (i := 15) (by decide +kernel) dX11_one_1 ?_
  refine A_Va1 mv_X11_160 lk_84 rfl rfl (c_takesT (σ := (up σ 84 8 (a))) (hT.o (by decide)) 15 (by rw [up_s]; exact ha) (by decide)) (Nat.le_of_ble_eq_true rfl) (by omega) (by omega) dX11_one_3 ?_
  try simp (disch := omega) only [incS_s, incS_k, incS_j, thC_keep, ad11, ad21, ad31, ad41, ad12, nc0, nc1, nc2, nc3, nc4, nc5, nc6, nc7, nc8, nc9, nc10, nc11, nc12, nc13, nc14, nc15, nc16, nc17, nc18, nc19, nc20, nc21, fnC_inc, fnC_up, dsZ_j, dsZ_8, dsT_k, loM_j, meT_j, knR_inc, knR_up, incS_8, tgV_8]
  refine A_ifeq_b (tgt := 22) dX11_one_6 (by decide) (fun h6 => ?_) (fun h6 => ?_)
  · have hk15 : ¬ K a = 15 := by have := of_decide_eq_false h6; simpa only [up_s] using this
    rw [tkS_f (by rw [up_s]; exact hk15)]
    refine A_aload_n dX11_one_22 rfl 0 rfl ?_
    refine A_ldcs (i := 20) (by decide +kernel) dX11_one_23 ?_
    refine A_Va1 mv_X11_160 lk_84 rfl rfl (c_takesT (σ := (up σ 84 8 (a))) (hT.o (by decide)) 20 (by rw [up_s]; exact ha) (by decide)) (Nat.le_of_ble_eq_true rfl) (by omega) (by omega) dX11_one_25 ?_
    try simp (disch := omega) only [incS_s, incS_k, incS_j, thC_keep, ad11, ad21, ad31, ad41, ad12, nc0, nc1, nc2, nc3, nc4, nc5, nc6, nc7, nc8, nc9, nc10, nc11, nc12, nc13, nc14, nc15, nc16, nc17, nc18, nc19, nc20, nc21, fnC_inc, fnC_up, dsZ_j, dsZ_8, dsT_k, loM_j, meT_j, knR_inc, knR_up, incS_8, tgV_8]
    refine A_ifeq_b (tgt := 49) dX11_one_28 (by decide) (fun h28 => ?_) (fun h28 => ?_)
    · have hk20 : ¬ K a = 20 := by have := of_decide_eq_false h28; simpa only [up_s] using this
      rw [tkS_f (by rw [up_s]; exact hk20)]
      refine A_aload_n dX11_one_49 rfl 0 rfl ?_
      refine A_aload_n dX11_one_50 rfl 0 rfl ?_
      refine A_geti fl_X11_144 lk_84 rfl dX11_one_51 ?_
      try simp (disch := omega) only [up_k, up_j, up_s, incS_s, incS_k, incS_j, thC_keep, ad11, ad21, ad31, ad41, ad12, nc0, nc1, nc2, nc3, nc4, nc5, nc6, nc7, nc8, nc9, nc10, nc11, nc12, nc13, nc14, nc15, nc16, nc17, nc18, nc19, nc20, nc21, fnC_inc, fnC_up, dsZ_j, dsZ_8, dsT_k, loM_j, meT_j, knR_inc, knR_up, incS_8, tgV_8]
      refine A_Va1 mv_X11_265 lk_84 rfl rfl (c_nameT (σ := (up σ 84 8 (a))) (hT.o (by decide)) _ ha) (Nat.le_of_ble_eq_true rfl) (by omega) (by omega) dX11_one_54 ?_
      try simp (disch := omega) only [incS_s, incS_k, incS_j, thC_keep, ad11, ad21, ad31, ad41, ad12, nc0, nc1, nc2, nc3, nc4, nc5, nc6, nc7, nc8, nc9, nc10, nc11, nc12, nc13, nc14, nc15, nc16, nc17, nc18, nc19, nc20, nc21, fnC_inc, fnC_up, dsZ_j, dsZ_8, dsT_k, loM_j, meT_j, knR_inc, knR_up, incS_8, tgV_8]
      refine A_lstore_n (lv2 := [(2, _), (0, _), (1, _)]) dX11_one_57 rfl (by decide) rfl ?_
      refine A_inc fl_X11_144 lk_84 rfl 1 rfl dX11_one_58 dX11_one_59 dX11_one_60 dX11_one_63 dX11_one_64 dX11_one_65 ?_
      refine A_aload_n dX11_one_68 rfl 1 rfl ?_
      refine A_getr fl_X11_39 lk_84 rfl dX11_one_69 ?_
      refine A_iload_n dX11_one_72 rfl 2 rfl ?_
      refine A_lload_n dX11_one_73 rfl 0 rfl ?_
      refine A_Sa3 ms_X11_243 (c_X11_find_93 _ ah _ hah) (Nat.le_of_ble_eq_true rfl) (by omega) (by omega) dX11_one_74 ?_
      try simp (disch := omega) only [incS_s, incS_k, incS_j, thC_keep, ad11, ad21, ad31, ad41, ad12, nc0, nc1, nc2, nc3, nc4, nc5, nc6, nc7, nc8, nc9, nc10, nc11, nc12, nc13, nc14, nc15, nc16, nc17, nc18, nc19, nc20, nc21, fnC_inc, fnC_up, dsZ_j, dsZ_8, dsT_k, loM_j, meT_j, knR_inc, knR_up, incS_8, tgV_8]
      refine A_istore (lv2 := [(4, _), (2, _), (0, _), (1, _)]) dX11_one_77 (by decide) rfl ?_
      refine A_iload dX11_one_79 0 rfl ?_
      refine A_iconst dX11_one_81 ?_
      refine J_icmp_eq (tgt := 92) dX11_one_82 (by decide) (by first | with_reducible exact fnC_i32 (by assumption) | exact i32_eq (by assumption) | exact i32_eq ⟨by omega, by omega⟩ | with_reducible exact i32_i32 _ | with_reducible exact i32_eq (b2i_inr _) | rfl) (by first | with_reducible exact fnC_i32 (by assumption) | exact i32_eq (by assumption) | exact i32_eq ⟨by omega, by omega⟩ | with_reducible exact i32_i32 _ | with_reducible exact i32_eq (b2i_inr _) | rfl) (fun h82 => ?_) (fun h82 => ?_)
      · refine A_aload_n dX11_one_92 rfl 2 rfl ?_
        refine A_aload_n dX11_one_93 rfl 2 rfl ?_
        refine A_getr fl_X11_90 lk_84 rfl dX11_one_94 ?_
        refine A_aload_n dX11_one_97 rfl 2 rfl ?_
        refine A_geti fl_X11_269 lk_84 rfl dX11_one_98 ?_
        try simp (disch := omega) only [up_k, up_j, up_s, incS_s, incS_k, incS_j, thC_keep, ad11, ad21, ad31, ad41, ad12, nc0, nc1, nc2, nc3, nc4, nc5, nc6, nc7, nc8, nc9, nc10, nc11, nc12, nc13, nc14, nc15, nc16, nc17, nc18, nc19, nc20, nc21, fnC_inc, fnC_up, dsZ_j, dsZ_8, dsT_k, loM_j, meT_j, knR_inc, knR_up, incS_8, tgV_8]
        refine A_lload_n dX11_one_101 rfl 1 rfl ?_
        refine A_Sa3 ms_X11_243 (c_X11_find_110 _ (σ 84 36) _ h36) (Nat.le_of_ble_eq_true rfl) (by omega) (by omega) dX11_one_102 ?_
        try simp (disch := omega) only [incS_s, incS_k, incS_j, thC_keep, ad11, ad21, ad31, ad41, ad12, nc0, nc1, nc2, nc3, nc4, nc5, nc6, nc7, nc8, nc9, nc10, nc11, nc12, nc13, nc14, nc15, nc16, nc17, nc18, nc19, nc20, nc21, fnC_inc, fnC_up, dsZ_j, dsZ_8, dsT_k, loM_j, meT_j, knR_inc, knR_up, incS_8, tgV_8]
        refine A_Va1 mv_X11_313 lk_84 rfl rfl (c_X11_tagged _ (by rw [up_j _ _ (by decide)]; exact h15)) (Nat.le_of_ble_eq_true rfl) (by omega) (by omega) dX11_one_105 ?_
        try simp (disch := omega) only [incS_s, incS_k, incS_j, thC_keep, ad11, ad21, ad31, ad41, ad12, nc0, nc1, nc2, nc3, nc4, nc5, nc6, nc7, nc8, nc9, nc10, nc11, nc12, nc13, nc14, nc15, nc16, nc17, nc18, nc19, nc20, nc21, fnC_inc, fnC_up, dsZ_j, dsZ_8, dsT_k, loM_j, meT_j, knR_inc, knR_up, incS_8, tgV_8]
        exact A_iret dX11_one_108 (by cases m <;> simp only [xO] <;> first | (rw [if_neg hk15, if_neg hk20]; first | done | (unfold nmE; first | (rw [if_pos h82]; done) | (rw [if_neg h82]; done))) | (unfold nmE; first | (rw [if_pos h82]; done) | (rw [if_neg h82]; done)) | done) (by cases m <;> simp only [xO] <;> first | (rw [if_neg hk15, if_neg hk20]; first | done | (unfold nmE; first | (rw [if_pos h82]; done) | (rw [if_neg h82]; done))) | (unfold nmE; first | (rw [if_pos h82]; done) | (rw [if_neg h82]; done)) | done)
      · refine A_iconst dX11_one_85 ?_
        refine A_iload dX11_one_86 0 rfl ?_
        refine A_ishl dX11_one_88 ?_
        refine A_goto (tgt := 108) dX11_one_89 (by decide) ?_
        exact A_iret dX11_one_108 (by cases m <;> simp only [xO] <;> first | (rw [if_neg hk15, if_neg hk20]; first | done | (unfold nmE; first | (rw [if_pos h82]; done) | (rw [if_neg h82]; done))) | (unfold nmE; first | (rw [if_pos h82]; done) | (rw [if_neg h82]; done)) | done) (by cases m <;> simp only [xO] <;> first | (rw [if_neg hk15, if_neg hk20]; first | done | (unfold nmE; first | (rw [if_pos h82]; done) | (rw [if_neg h82]; done))) | (unfold nmE; first | (rw [if_pos h82]; done) | (rw [if_neg h82]; done)) | done)
    · have hk20 : K a = 20 := by have := of_decide_eq_true h28; simpa only [up_s] using this
      obtain ⟨q, rfl⟩ : ∃ q, m = q + 1 := by
        cases m with
        | zero => exfalso; simp only [rOne] at hg; rw [if_neg (by rw [hk20]; decide)] at hg; cases hg
        | succ q => exact ⟨q, rfl⟩
      simp only [rOne] at hg
      rw [if_neg (by rw [hk20]; decide), if_neg (by rw [hk20]; decide), if_pos hk20] at hg
      obtain ⟨hq1, hq2, hq3⟩ := pA_ok hg
      rw [rG_ok hq1] at hq2
      obtain ⟨hq4, hq5, hq6⟩ := pA_ok hq2
      have hin := hT.in hk20 (by decide)
      rw [tkS_t (by rw [up_s]; exact hk20), incS_8]
      refine A_aload_n dX11_one_31 rfl 0 rfl ?_
      refine A_iload_n dX11_one_32 rfl 1 rfl ?_
      refine A_Va1 mv_X11_310 lk_84 rfl rfl (o2 q rfl _ cf (by omega) hcf hq4) (Nat.le_of_ble_eq_true rfl) (by omega) (by omega) dX11_one_33 ?_
      try simp (disch := omega) only [incS_s, incS_k, incS_j, thC_keep, ad11, ad21, ad31, ad41, ad12, nc0, nc1, nc2, nc3, nc4, nc5, nc6, nc7, nc8, nc9, nc10, nc11, nc12, nc13, nc14, nc15, nc16, nc17, nc18, nc19, nc20, nc21, fnC_inc, fnC_up, dsZ_j, dsZ_8, dsT_k, loM_j, meT_j, knR_inc, knR_up, incS_8, tgV_8]
      refine A_istore_n (lv2 := [(2, _), (0, _), (1, _)]) dX11_one_36 rfl (by decide) rfl ?_
      refine A_inc fl_X11_144 lk_84 rfl 1 rfl dX11_one_37 dX11_one_38 dX11_one_39 dX11_one_42 dX11_one_43 dX11_one_44 ?_
      refine A_iload_n dX11_one_47 rfl 0 rfl ?_
      exact A_iret dX11_one_48 (by simp only [xO]; rw [if_neg hk15, if_pos hk20]) (by simp only [xO]; rw [if_neg hk15, if_pos hk20, incS_8])
  · have hk15 : K a = 15 := by have := of_decide_eq_true h6; simpa only [up_s] using this
    obtain ⟨q, rfl⟩ : ∃ q, m = q + 1 := by
      cases m with
      | zero => exfalso; simp only [rOne] at hg; rw [if_neg (by rw [hk15]; decide)] at hg; cases hg
      | succ q => exact ⟨q, rfl⟩
    simp only [rOne] at hg
    rw [if_neg (by rw [hk15]; decide), if_pos hk15] at hg
    obtain ⟨hq1, hq2, hq3⟩ := pA_ok hg
    rw [rG_ok hq1] at hq2
    have hin := hT.in hk15 (by decide)
    rw [tkS_t (by rw [up_s]; exact hk15), incS_8]
    refine A_aload_n dX11_one_9 rfl 0 rfl ?_
    refine A_Va0 mv_X11_307 lk_84 rfl rfl (c_X11_all) (Nat.le_of_ble_eq_true rfl) (by omega) (by omega) dX11_one_10 ?_
    try simp (disch := omega) only [incS_s, incS_k, incS_j, thC_keep, ad11, ad21, ad31, ad41, ad12, nc0, nc1, nc2, nc3, nc4, nc5, nc6, nc7, nc8, nc9, nc10, nc11, nc12, nc13, nc14, nc15, nc16, nc17, nc18, nc19, nc20, nc21, fnC_inc, fnC_up, dsZ_j, dsZ_8, dsT_k, loM_j, meT_j, knR_inc, knR_up, incS_8, tgV_8]
    rw [show allE (up σ 84 8 (a + 1)) = allE σ from rfl]
    refine A_aload_n dX11_one_13 rfl 0 rfl ?_
    refine A_iload_n dX11_one_14 rfl 1 rfl ?_
    refine A_Va1 mv_X11_304 lk_84 rfl rfl (o1 q rfl _ cf (by omega) hcf hq2) (Nat.le_of_ble_eq_true rfl) (by omega) (by omega) dX11_one_15 ?_
    try simp (disch := omega) only [incS_s, incS_k, incS_j, thC_keep, ad11, ad21, ad31, ad41, ad12, nc0, nc1, nc2, nc3, nc4, nc5, nc6, nc7, nc8, nc9, nc10, nc11, nc12, nc13, nc14, nc15, nc16, nc17, nc18, nc19, nc20, nc21, fnC_inc, fnC_up, dsZ_j, dsZ_8, dsT_k, loM_j, meT_j, knR_inc, knR_up, incS_8, tgV_8]
    refine A_iconst dX11_one_18 ?_
    refine A_ixor dX11_one_19 ?_
    refine A_iand dX11_one_20 ?_
    exact A_iret dX11_one_21 (by simp only [xO]; rw [if_pos hk15]) (by simp only [xO]; rw [if_pos hk15])
theorem c_X11_evals (σ : Sg) (e : Int) (K V N S : Int → Int) (ah : Int) (hT : Tk σ e K V N S) (h15 : 0 ≤ σ 84 15 ∧ σ 84 15 ≤ 16) (h36 : 0 ≤ σ 84 36 ∧ σ 84 36 ≤ 16) (hah : 0 ≤ ah ∧ ah ≤ 16) : ∀ m : Nat, m ≤ 8 → (∀ (a cf : Int), (0 ≤ a ∧ a ≤ e) → (0 ≤ cf ∧ cf ≤ 1500) → (rOne K m (a, cf)).1 = true → Ct l G yX11_one cX11_one 5 (some .int) (7 + 3 * m) 0 0 [.ref (lay G 84), .int (I32 ah)] (up σ 84 8 (a)) (some (.int (I32 (xO K V (nmE σ ah) (allE σ) m a).1))) (up σ 84 8 ((xO K V (nmE σ ah) (allE σ) m a).2))) ∧ (∀ (a cf : Int), (0 ≤ a ∧ a ≤ e) → (0 ≤ cf ∧ cf ≤ 1500) → (rAny K (rOne K m) (a, cf)).1 = true → Ct l G yX11_any cX11_any 3 (some .int) (9 + 3 * m) 0 0 [.ref (lay G 84), .int (I32 ah)] (up σ 84 8 (a)) (some (.int (I32 (xA K (xO K V (nmE σ ah) (allE σ) m) a).1))) (up σ 84 8 ((xA K (xO K V (nmE σ ah) (allE σ) m) a).2))) := by
  intro m
  induction m with
  | zero =>
    intro h8
    have h1 : ∀ (a cf : Int), (0 ≤ a ∧ a ≤ e) → (0 ≤ cf ∧ cf ≤ 1500) → (rOne K 0 (a, cf)).1 = true → Ct l G yX11_one cX11_one 5 (some .int) (7 + 3 * 0) 0 0 [.ref (lay G 84), .int (I32 ah)] (up σ 84 8 (a)) (some (.int (I32 (xO K V (nmE σ ah) (allE σ) 0 a).1))) (up σ 84 8 ((xO K V (nmE σ ah) (allE σ) 0 a).2)) := w_X11_oneE σ e K V N S ah hT h15 h36 hah 0 h8 (fun q hq => by omega) (fun q hq => by omega)
    have h2 : ∀ (a cf : Int), (0 ≤ a ∧ a ≤ e) → (0 ≤ cf ∧ cf ≤ 1500) → (rBoth K (rOne K 0) (a, cf)).1 = true → Ct l G yX11_both cX11_both 3 (some .int) (8 + 3 * 0) 0 0 [.ref (lay G 84), .int (I32 ah)] (up σ 84 8 (a)) (some (.int (I32 (xB K (xO K V (nmE σ ah) (allE σ) 0) a).1))) (up σ 84 8 ((xB K (xO K V (nmE σ ah) (allE σ) 0) a).2)) := w_X11_both σ e K V N S ah hT h15 h36 hah 0 h1
    exact ⟨h1, w_X11_any σ e K V N S ah hT h15 h36 hah 0 h2⟩
  | succ m ih =>
    intro h8
    have ih := ih (by omega)
    have h1 : ∀ (a cf : Int), (0 ≤ a ∧ a ≤ e) → (0 ≤ cf ∧ cf ≤ 1500) → (rOne K (m + 1) (a, cf)).1 = true → Ct l G yX11_one cX11_one 5 (some .int) (7 + 3 * (m + 1)) 0 0 [.ref (lay G 84), .int (I32 ah)] (up σ 84 8 (a)) (some (.int (I32 (xO K V (nmE σ ah) (allE σ) (m + 1) a).1))) (up σ 84 8 ((xO K V (nmE σ ah) (allE σ) (m + 1) a).2)) := w_X11_oneE σ e K V N S ah hT h15 h36 hah (m + 1) h8 (fun q hq => by cases hq; exact ih.1) (fun q hq => by cases hq; exact ih.2)
    have h2 : ∀ (a cf : Int), (0 ≤ a ∧ a ≤ e) → (0 ≤ cf ∧ cf ≤ 1500) → (rBoth K (rOne K (m + 1)) (a, cf)).1 = true → Ct l G yX11_both cX11_both 3 (some .int) (8 + 3 * (m + 1)) 0 0 [.ref (lay G 84), .int (I32 ah)] (up σ 84 8 (a)) (some (.int (I32 (xB K (xO K V (nmE σ ah) (allE σ) (m + 1)) a).1))) (up σ 84 8 ((xB K (xO K V (nmE σ ah) (allE σ) (m + 1)) a).2)) := w_X11_both σ e K V N S ah hT h15 h36 hah (m + 1) h1
    exact ⟨h1, w_X11_any σ e K V N S ah hT h15 h36 hah (m + 1) h2⟩
/-- a choice worked out from a token on, with so many dishes told ahead -/
def chV (K V : Int → Int) (σ : Sg) (ah a : Int) : Int := (xA K (xO K V (nmE σ ah) (allE σ) 8) a).1
def chE (K V : Int → Int) (σ : Sg) (ah a : Int) : Int := (xA K (xO K V (nmE σ ah) (allE σ) 8) a).2
theorem c_X11_any (σ : Sg) (e : Int) (K V N S : Int → Int) (ah : Int) (hT : Tk σ e K V N S) (h15 : 0 ≤ σ 84 15 ∧ σ 84 15 ≤ 16) (h36 : 0 ≤ σ 84 36 ∧ σ 84 36 ≤ 16) (hah : 0 ≤ ah ∧ ah ≤ 16) (a b : Int) (ha : 0 ≤ a ∧ a ≤ e) (hg : ChO K a b) : Ct l G yX11_any cX11_any 3 (some .int) 33 0 0 [.ref (lay G 84), .int (I32 ah)] (up σ 84 8 a) (some (.int (I32 (chV K V σ ah a)))) (up σ 84 8 (chE K V σ ah a)) := (c_X11_evals (l := l) (G := G) σ e K V N S ah hT h15 h36 hah 8 (by omega)).2 a a ha (by have := hT.e; omega) hg.1
end S44
