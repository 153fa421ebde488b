/-! the property of its own, over the reference's words: plans, changes, exchanges -/
section S93
variable {σ τ : Sg}
theorem sm_ge0 {h : Int → Int} : ∀ n : Nat, (∀ j : Int, 0 ≤ j → j < n → 0 ≤ h j) → 0 ≤ sm h n
  | 0, _ => Int.le_refl _
  | n + 1, hn => by
    have h1 := sm_ge0 n (fun j a b => hn j a (by omega))
    have h2 := hn n (by omega) (by omega)
    rw [sm_s]; omega
theorem sm_all0 {h : Int → Int} : ∀ n : Nat, (∀ j : Int, 0 ≤ j → j < n → 0 ≤ h j) → sm h n = 0 → ∀ j : Int, 0 ≤ j → j < n → h j = 0
  | 0, _, _, j, j0, j1 => by omega
  | n + 1, hn, hs, j, j0, j1 => by
    rw [sm_s] at hs
    have h1 := hn n (by omega) (by omega)
    have h2 : 0 ≤ sm h n := sm_ge0 n (fun j a b => hn j a (by omega))
    by_cases c : j < n
    · exact sm_all0 n (fun j a b => hn j a (by omega)) (by omega) j j0 c
    · have : j = n := by omega
      rw [this]; omega
theorem cnt_0 (hP : PI τ) (h : ∀ d c : Int, 0 ≤ d → d < τ 84 39 → 0 ≤ c → c < τ 84 25 → dA τ d c = -1) (s : Int) {d : Int} (d0 : 0 ≤ d) (d1 : d < τ 84 39) : cnt τ s d = 0 := by
  have hC := hP.1.2.2.2.1
  unfold cnt
  refine sm_zero _ (fun c c0 c1 => ?_)
  rw [isB_bt, h d c d0 d1 c0 (by omega)]
  rfl
/-- without a dish no rule apart or most is broken -/
theorem hf_0 (hP : PI τ) (hG : RuG τ) (h : ∀ d c : Int, 0 ≤ d → d < τ 84 39 → 0 ≤ c → c < τ 84 25 → dA τ d c = -1) : hfV τ = 0 := by
  have hR := hP.1.2.2.2.2.1
  have hD := hP.2.2.2.1
  rw [hfV_e hP]
  refine sm_zero _ (fun r r0 r1 => ?_)
  have hg := hG r.toNat (by omega)
  have hI := hP.2.2.1 r.toNat (by omega)
  unfold hfH
  by_cases e : τ 105 r.toNat = 0 ∨ τ 105 r.toNat = 1
  · rw [if_pos e, ruV_e hP ⟨r0, by omega⟩ hg.1 hg.2]
    have z : ∀ n : Nat, (n : Int) ≤ τ 84 39 → sm (cnt τ (mtV τ r)) n = 0 := fun n hn => sm_zero n (fun d d0 d1 => cnt_0 hP h _ d0 (by omega))
    unfold rcN
    by_cases e0 : τ 105 r.toNat = 0
    · rw [if_pos e0]
      unfold apN
      refine sm_zero _ (fun d d0 d1 => ?_)
      rw [cnt_0 hP h _ d0 (by omega), Int.zero_mul, Int.zero_mul]
      rfl
    · have e1 : τ 105 r.toNat = 1 := by omega
      rw [if_neg e0, if_neg (by omega)]
      by_cases c : τ 84 39 < τ 107 r.toNat
      · rw [if_pos c, if_neg (fun y => by have := y.2; rw [z _ (by omega)] at this; omega)]
      · rw [if_neg c]
        refine sm_zero _ (fun a a0 a1 => ?_)
        rw [if_pos e1, if_neg]
        unfold winN
        rw [z _ (by omega), z _ (by omega)]
        omega
  · rw [if_neg e]
/-- each dish suits its choice, no rule apart or most is broken -/
def Pq (a : Sg) : Prop := hfV a = 0 ∧ ∀ d c : Int, 0 ≤ d → d < a 84 39 → 0 ≤ c → c < a 84 25 → dA a d c = -1 ∨ ¬ iand (ishr (a 102 c.toNat) (dA a d c)) 1 = 0
theorem pn_ok (a : Sg) (d c : Int) : pnV a d c = -1 ∨ (¬ iand (ishr (a 102 c.toNat) (pnV a d c)) 1 = 0 ∧ hfV (mp a d c (pnV a d c)) ≤ hfV a) := by
  unfold pnV
  exact fW_inv (fun b : Int => b = -1 ∨ (¬ iand (ishr (a 102 c.toNat) b) 1 = 0 ∧ hfV (mp a d c b) ≤ hfV a)) (fun i b h1 h2 h3 => by
    unfold pnG
    by_cases c1 : iand (ishr (a 102 c.toNat) i) 1 = 0
    · rw [if_pos c1]; exact h3
    · rw [if_neg c1]
      by_cases c2 : hfV (mp a d c i) ≤ hfV a
      · rw [if_pos c2]
        by_cases c3 : b = -1
        · rw [if_pos c3]; exact Or.inr ⟨c1, c2⟩
        · rw [if_neg c3]
          by_cases c4 : tiV a i < tiV a b
          · rw [if_pos c4]; exact Or.inr ⟨c1, c2⟩
          · rw [if_neg c4]; exact h3
      · rw [if_neg c2]; exact h3) 16 0 (-1) (Int.le_refl _) (Or.inl rfl)
theorem Pq_step {C D d c : Int} {a : Sg} (hC : C ≤ 8) (hd : 0 ≤ d ∧ d < D) (hc : 0 ≤ c ∧ c < C) (h : PJ C D (8 * d + c) a) (q : Pq a) : Pq (plG d c a) := by
  have e : plG d c a = mp a d c (pnV a d c) := rfl
  have hD := h.1.2.2.2.1
  have hn : dA a d c = -1 := by unfold dA; exact h.2.2.2 _ (by omega) (by have := h.2.2.1; omega)
  rw [e]
  rcases pn_ok a d c with z | ⟨z1, z2⟩
  · rw [z, show mp a d c (-1) = a from by rw [← hn]; exact mp_self a d c]; exact q
  · refine ⟨?_, fun d2 c2 d0 d1 c0 c1 => ?_⟩
    · have := hfV_bd (σ := mp a d c (pnV a d c))
      have := q.1
      omega
    · have d1' : d2 < a 84 39 := d1
      have c1' : c2 < a 84 25 := c1
      have hC2 := h.2.1
      rw [dA_mp hd.1 ⟨hc.1, by omega⟩ d0 ⟨c0, by omega⟩]
      show (if d2 = d ∧ c2 = c then pnV a d c else dA a d2 c2) = -1 ∨ ¬ iand (ishr (a 102 c2.toNat) (if d2 = d ∧ c2 = c then pnV a d c else dA a d2 c2)) 1 = 0
      by_cases w : d2 = d ∧ c2 = c
      · rw [if_pos w, w.2]; exact Or.inr z1
      · rw [if_neg w]; exact q.2 d2 c2 d0 d1' c0 c1'
theorem Pq_T (hP : PI σ) (hG : RuG σ) {d : Int} (hd : 1 ≤ d ∧ d ≤ 14) : PJ (σ 84 25) d (8 * 14) (plT σ d) ∧ Pq (plT σ d) := by
  have hC := hP.1.2.2.2.1
  have J0 := PJ_0 hP hd
  have e := fun k h => plF_r σ d (k := k) h
  have hGF : RuG (plF σ d) := by
    unfold RuG
    rw [e 84 (by decide), e 105 (by decide), e 106 (by decide), e 107 (by decide)]
    exact hG
  have h0 : ∀ d2 c2 : Int, 0 ≤ d2 → d2 < plF σ d 84 39 → 0 ≤ c2 → c2 < plF σ d 84 25 → dA (plF σ d) d2 c2 = -1 := fun d2 c2 a0 a1 b0 b1 => by
    have h1 := J0.2.1
    have h2 := J0.2.2.1
    unfold dA
    exact J0.2.2.2 _ (by omega) (by omega)
  have Q0 : Pq (plF σ d) := ⟨hf_0 J0.1 hGF h0, fun d2 c2 a0 a1 b0 b1 => Or.inl (h0 d2 c2 a0 a1 b0 b1)⟩
  unfold plT
  have row : ∀ (i : Int) (a : Sg), 0 ≤ i → i < d → PJ (σ 84 25) d (8 * i) a ∧ Pq a → PJ (σ 84 25) d (8 * (i + 1)) (plH (σ 84 25) i a) ∧ Pq (plH (σ 84 25) i a) := by
    intro i a i0 i1 hp
    have := fW_invI (sz := σ 84 25) (g := plG i) (fun c a => PJ (σ 84 25) d (8 * i + c) a ∧ Pq a) (fun c a c0 c1 h3 => ⟨PJ_step h3.1 (by omega), Pq_step (C := σ 84 25) (D := d) (by omega) ⟨i0, i1⟩ ⟨c0, c1⟩ h3.1 h3.2⟩) (fun c a h1 => ⟨h1.1.mono (by omega), h1.2⟩) 8 0 a (Int.le_refl _) ⟨hp.1.mono (by omega), hp.2⟩
    unfold plH
    exact ⟨this.1.mono (by omega), this.2⟩
  exact fW_invI (sz := d) (g := plH (σ 84 25)) (fun c a => PJ (σ 84 25) d (8 * c) a ∧ Pq a) (fun i a h1 h2 h3 => row i a h1 h2 h3) (fun i a h1 => ⟨h1.1.mono (by omega), h1.2⟩) 14 0 _ (Int.le_refl _) ⟨J0.mono (by omega), Q0⟩
theorem Pq_ru (hP : PI τ) (q : Pq τ) {r : Int} (hr : 0 ≤ r ∧ r < τ 84 30) (h : τ 105 r.toNat = 0 ∨ τ 105 r.toNat = 1) : ruV τ r = 0 := by
  have h1 := q.1
  have hR := hP.1.2.2.2.2.1
  rw [hfV_e hP] at h1
  have := sm_all0 _ (fun j j0 j1 => by unfold hfH; have := (ruV_bd (σ := τ) j).1; split <;> omega) h1 r hr.1 (by omega)
  unfold hfH at this
  rwa [if_pos h] at this
/-- all dishes are in the menu as often as there are places that are not empty -/
theorem ti_all (hP : PI τ) : fW (τ 84 15) (fun x a => a + tiV τ x) 16 0 0 = τ 84 39 * τ 84 25 - gapV τ := by
  have hN := hP.1.2.1
  have h := (mq_e hP).2
  have pr : ∀ (n : Nat) (i : Int) (q : Int × Int), (fW (τ 84 15) (mqG τ) n i q).2 = fW (τ 84 15) (fun d a => a + tiV τ d) n i q.2 := by
    intro n
    induction n with
    | zero => intro i q; rfl
    | succ n ih =>
      intro i q
      rw [fW_s, fW_s]
      by_cases c : i < τ 84 15
      · rw [if_pos c, if_pos c, ih]; rfl
      · rw [if_neg c, if_neg c]
  unfold mqT at h
  rw [pr] at h
  exact h
/-! exchanging -/
theorem ex_at {a b : Int} (hab : a ≠ b) (ha : 0 ≤ a) (hb : 0 ≤ b) {C : Int} (hC : 0 ≤ C ∧ C ≤ 8) : ∀ (n : Nat) (i : Int) (q : Sg), 0 ≤ i → i ≤ C → C ≤ i + n → ∀ d c : Int, 0 ≤ d → 0 ≤ c → c < 8 →
    dA (fW C (exG a b) n i q) d c = if i ≤ c ∧ c < C then (if d = a then dA q b c else if d = b then dA q a c else dA q d c) else dA q d c
  | 0, i, q, i0, i1, i2, d, c, d0, c0, c1 => by
    rw [if_neg (by omega)]; rfl
  | n + 1, i, q, i0, i1, i2, d, c, d0, c0, c1 => by
    rw [fW_s]
    by_cases w : i < C
    · rw [if_pos w, ex_at hab ha hb hC n (i + 1) _ (by omega) (by omega) (by omega) d c d0 c0 c1]
      have key : ∀ x : Int, 0 ≤ x → dA (exG a b i q) x c = if c = i then (if x = a then dA q b c else if x = b then dA q a c else dA q x c) else dA q x c := by
        intro x x0
        have e : exG a b i q = mp (mp q a i (dA q b i)) b i (dA q a i) := rfl
        rw [e, dA_mp hb ⟨i0, by omega⟩ x0 ⟨c0, c1⟩, dA_mp ha ⟨i0, by omega⟩ x0 ⟨c0, c1⟩]
        by_cases y : c = i
        · subst y
          rw [if_pos rfl]
          by_cases y1 : x = a
          · subst y1
            rw [if_neg (fun z => hab z.1), if_pos ⟨rfl, rfl⟩, if_pos rfl]
          · rw [if_neg (fun z : x = a ∧ c = c => y1 z.1), if_neg y1]
            by_cases y2 : x = b
            · rw [if_pos ⟨y2, rfl⟩, if_pos y2]
            · rw [if_neg (fun z : x = b ∧ c = c => y2 z.1), if_neg y2]
        · rw [if_neg (fun z => y z.2), if_neg (fun z => y z.2), if_neg y]
      rw [key b hb, key a ha, key d d0]
      by_cases y : c = i
      · subst y
        rw [if_neg (show ¬ (c + 1 ≤ c ∧ c < C) by omega), if_pos rfl, if_pos (show c ≤ c ∧ c < C from ⟨Int.le_refl _, w⟩)]
      · rw [if_neg y, if_neg y, if_neg y]
        by_cases y2 : i + 1 ≤ c ∧ c < C
        · rw [if_pos y2, if_pos (show i ≤ c ∧ c < C from ⟨by omega, y2.2⟩)]
        · rw [if_neg y2, if_neg (show ¬ (i ≤ c ∧ c < C) by omega)]
    · rw [if_neg w, if_neg (show ¬ (i ≤ c ∧ c < C) by omega)]
theorem exT_at (hP : PI τ) {a b : Int} (hab : a ≠ b) (ha : 0 ≤ a) (hb : 0 ≤ b) {d c : Int} (d0 : 0 ≤ d) (c0 : 0 ≤ c) (c1 : c < τ 84 25) : dA (exT τ a b) d c = if d = a then dA τ b c else if d = b then dA τ a c else dA τ d c := by
  have hC := hP.1.2.2.2.1
  have := ex_at (q := up τ 84 0 0) hab ha hb hC 8 0 (Int.le_refl _) hC.1 (by omega) d c d0 c0 (by omega)
  rw [if_pos ⟨c0, c1⟩] at this
  exact this
/-- faults are those of the dishes at the places -/
theorem af_cong {y : Sg} (hP : PI τ) (hPy : PI y) (hG : RuG τ) (hk : ∀ k, k ≠ 84 ∧ k ≠ 111 → y k = τ k) (hj : ∀ j, j ≠ 0 → y 84 j = τ 84 j) (hd : ∀ d c : Int, 0 ≤ d → d < τ 84 39 → 0 ≤ c → c < τ 84 25 → dA y d c = dA τ d c) : afV y = afV τ := by
  have hR := hP.1.2.2.2.2.1
  have hD := hP.2.2.2.1
  have hC := hP.1.2.2.2.1
  have e39 : y 84 39 = τ 84 39 := hj 39 (by decide)
  have e25 : y 84 25 = τ 84 25 := hj 25 (by decide)
  have e30 : y 84 30 = τ 84 30 := hj 30 (by decide)
  have e15 : y 84 15 = τ 84 15 := hj 15 (by decide)
  have eg : gapV y = gapV τ := by
    rw [gapV_e hPy, gapV_e hP, e39, e25]
    refine sm_ext _ (fun d d0 d1 => sm_ext _ (fun c c0 c1 => ?_))
    unfold gpH
    rw [hd d c d0 (by omega) c0 (by omega)]
  have em : ∀ r : Int, mtV y r = mtV τ r := fun r => by
    unfold mtV tgV
    rw [hk 105 (by decide), hk 108 (by decide), hk 109 (by decide), e15, show ∀ t, tgG y t = tgG τ t from fun t => by funext d s; unfold tgG; rw [hk 97 (by decide)]]
  have ec : ∀ s d : Int, 0 ≤ d → d < τ 84 39 → cnt y s d = cnt τ s d := fun s d d0 d1 => by
    unfold cnt
    rw [e25]
    refine sm_ext _ (fun c c0 c1 => ?_)
    rw [isB_bt, isB_bt, hd d c d0 d1 c0 (by omega)]
  have es : ∀ d : Int, 0 ≤ d → d < τ 84 39 → suV2 y d false = suV2 τ d false := fun d d0 d1 => by
    rw [suV2_e hPy, suV2_e hP, e25]
    refine sm_ext _ (fun c c0 c1 => ?_)
    unfold suH enR pcR
    rw [hd d c d0 d1 c0 (by omega), hk 94 (by decide), hk 95 (by decide), hk 96 (by decide)]
  have hGy : RuG y := by
    unfold RuG
    rw [e30, hk 105 (by decide), hk 106 (by decide), hk 107 (by decide)]
    exact hG
  rw [afV_e hPy, afV_e hP, eg, e30]
  refine congrArg _ (sm_ext _ (fun r r0 r1 => ?_))
  have g1 := hG r.toNat (by omega)
  have g2 := hGy r.toNat (by rw [e30]; omega)
  have gI := hP.2.2.1 r.toNat (by omega)
  rw [ruV_e hPy ⟨r0, by rw [e30]; omega⟩ g2.1 g2.2, ruV_e hP ⟨r0, by omega⟩ g1.1 g1.2, hk 105 (by decide), hk 106 (by decide), hk 107 (by decide), e39, em]
  exact rcN_ext hD.1 gI.2.2.1.1 (fun _ d d0 d1 => ec _ d d0 d1) (fun _ d d0 d1 => es d d0 d1)
theorem fW_cong0 {sz : Int} {g h : Int → Int → Int} : ∀ (n : Nat) (i a : Int), 0 ≤ i → (∀ j a, 0 ≤ j → j < sz → g j a = h j a) → fW sz g n i a = fW sz h n i a
  | 0, _, _, _, _ => rfl
  | n + 1, i, a, i0, e => by
    rw [fW_s, fW_s]
    by_cases c : i < sz
    · rw [if_pos c, if_pos c, e i a i0 c]; exact fW_cong0 n (i + 1) _ (by omega) e
    · rw [if_neg c, if_neg c]
theorem dg_cong {y : Sg} (hk : ∀ k, k ≠ 84 ∧ k ≠ 111 → y k = τ k) (hj : ∀ j, j ≠ 0 → y 84 j = τ 84 j) (hd : ∀ d c : Int, 0 ≤ d → d < τ 84 39 → 0 ≤ c → c < τ 84 25 → dA y d c = dA τ d c) (ha : afV y = afV τ) : dgT2 (up y 84 0 0) = dgT2 (up τ 84 0 0) := by
  show dgT2 y = dgT2 τ
  have em : ∀ r : Int, mtV y r = mtV τ r := fun r => by
    unfold mtV tgV
    rw [hk 105 (by decide), hk 108 (by decide), hk 109 (by decide), hj 15 (by decide), show ∀ t, tgG y t = tgG τ t from fun t => by funext d s; unfold tgG; rw [hk 97 (by decide)]]
  unfold dgT2
  rw [ha, hj 39 (by decide), hj 30 (by decide), hj 25 (by decide), hj 15 (by decide), hj 10 (by decide)]
  have s1 : dgC2 y = dgC2 τ := by
    funext w a
    unfold dgC2 cnV
    rw [hj 39 (by decide), hj 30 (by decide), hj 25 (by decide), hj 15 (by decide), hj 10 (by decide), hj 23 (by decide), hj 36 (by decide), hj 2 (by decide)]
  have s2 : dgF2 y = dgF2 τ := by
    funext f a
    unfold dgF2 fT
    rw [hk 90 (by decide), hk 91 (by decide), hk 92 (by decide)]
  have s3 : dgD2 y = dgD2 τ := by
    funext f a
    unfold dgD2 dT enR pcR
    rw [hk 94 (by decide), hk 95 (by decide), hk 96 (by decide), hk 97 (by decide), hk 98 (by decide)]
  have s4 : dgH2 y = dgH2 τ := by
    funext f a
    unfold dgH2
    rw [hk 101 (by decide), hk 102 (by decide)]
  have s5 : dgR2 y = dgR2 τ := by
    funext f a
    unfold dgR2 rT
    rw [hk 105 (by decide), hk 106 (by decide), hk 107 (by decide), em]
  rw [s1, s2, s3, s4, s5]
  have s6 : ∀ A : Int, fW (τ 84 39) (dgM2 y) 14 0 A = fW (τ 84 39) (dgM2 τ) 14 0 A := fun A => fW_cong0 14 0 A (Int.le_refl _) (fun d a d0 d1 => by
    unfold dgM2
    rw [hj 25 (by decide)]
    exact fW_cong0 8 0 _ (Int.le_refl _) (fun c a c0 c1 => by rw [hd d c d0 d1 c0 c1]))
  rw [s6]
/-- two days exchanged twice lead back to the same -/
theorem ex_twice (hP : PI τ) (hG : RuG τ) {a b : Int} (hab : a ≠ b) (ha : 0 ≤ a ∧ a < τ 84 39) (hb : 0 ≤ b ∧ b < τ 84 39) : afV (exT (exT τ a b) b a) = afV τ ∧ dgT2 (up (exT (exT τ a b) b a) 84 0 0) = dgT2 (up τ 84 0 0) := by
  have h1 := PX_T hP ha hb
  have h2 := PX_T h1.1 (a := b) (b := a) (by rw [h1.2.2]; exact hb) (by rw [h1.2.2]; exact ha)
  have k1 : ∀ (s : Sg) (a b : Int) (k : Nat), k ≠ 111 → exT s a b k = up s 84 0 0 k := fun s a b k hk => exF_k a b hk _ _ _
  have hk : ∀ k, k ≠ 84 ∧ k ≠ 111 → exT (exT τ a b) b a k = τ k := fun k hk => by
    rw [k1 _ _ _ k hk.2, up_r _ _ _ hk.1, k1 _ _ _ k hk.2, up_r _ _ _ hk.1]
  have hj : ∀ j, j ≠ 0 → exT (exT τ a b) b a 84 j = τ 84 j := fun j hj => by
    rw [k1 _ _ _ 84 (by decide), up_j _ _ hj, k1 _ _ _ 84 (by decide), up_j _ _ hj]
  have hd : ∀ d c : Int, 0 ≤ d → d < τ 84 39 → 0 ≤ c → c < τ 84 25 → dA (exT (exT τ a b) b a) d c = dA τ d c := fun d c d0 d1 c0 c1 => by
    rw [exT_at h1.1 (Ne.symm hab) hb.1 ha.1 d0 c0 (by rw [h1.2.1]; exact c1), exT_at hP hab ha.1 hb.1 ha.1 c0 c1, exT_at hP hab ha.1 hb.1 hb.1 c0 c1, exT_at hP hab ha.1 hb.1 d0 c0 c1]
    rw [if_pos rfl, if_neg (Ne.symm hab), if_pos rfl]
    by_cases y1 : d = b
    · rw [if_pos y1, y1]
    · rw [if_neg y1]
      by_cases y2 : d = a
      · rw [if_pos y2, y2]
      · rw [if_neg y2, if_neg y2, if_neg y1]
  have e := af_cong hP h2.1 hG hk hj hd
  exact ⟨e, dg_cong hk hj hd e⟩
/-! a best change -/
def IQ (σ : Sg) (q : I3) : Prop := q.1 ≤ afV σ ∧ ((q.2.1 = -1 ∧ q.1 = afV σ) ∨ (¬ q.2.1 = -1 ∧ q.1 = afV (up σ 111 q.2.1.toNat q.2.2)))
theorem IQ_T (σ : Sg) : IQ σ (imT σ) := by
  unfold imT
  refine fW_inv (IQ σ) (fun d q d0 d1 h1 => ?_) 14 0 _ (Int.le_refl _) ⟨Int.le_refl _, Or.inl ⟨rfl, rfl⟩⟩
  unfold imJ
  refine fW_inv (IQ σ) (fun c q c0 c1 h2 => ?_) 8 0 _ (Int.le_refl _) h1
  unfold imH
  refine fW_inv (IQ σ) (fun x q x0 x1 h3 => ?_) 16 0 _ (Int.le_refl _) h2
  unfold imG
  by_cases c1 : iand (ishr (σ 102 c.toNat) x) 1 = 0
  · rw [if_pos c1]; exact h3
  · rw [if_neg c1]
    by_cases c2 : afV (mp σ d c x) < q.1
    · rw [if_pos c2]
      refine ⟨?_, Or.inr ⟨?_, rfl⟩⟩
      · show afV (mp σ d c x) ≤ afV σ
        have := h3.1
        omega
      · show ¬ 8 * d + c = -1
        omega
    · rw [if_neg c2]; exact h3
theorem im_le (τ : Sg) : imRV τ ≤ afV τ ∧ afV (imRS τ) = imRV τ := by
  have h := IQ_T (up τ 84 0 0)
  have e0 : afV (up τ 84 0 0) = afV τ := rfl
  unfold imRV imRS
  refine ⟨by have := h.1; omega, ?_⟩
  rcases h.2 with ⟨h1, h2⟩ | ⟨h1, h2⟩
  · rw [if_pos h1, h2]
  · rw [if_neg h1, h2]
end S93
