/-! choices: which tokens they are of; what meals and rules keep; programs -/
section S42
variable {σ : Sg} {e : Int} {K V N S : Int → Int}
def InS (K : Int → Int) (t : Int) : Prop := K t = 13 ∨ K t = 14 ∨ K t = 15 ∨ K t = 20 ∨ K t = 21 ∨ K t = 22
def Seg (K : Int → Int) (p : Ps) : Prop := ∀ s, (p s).1 = true → s.1 ≤ (p s).2.1 ∧ ∀ t, s.1 ≤ t → t < (p s).2.1 → InS K t
theorem rG_ok {s : Pp} (h : (rG s).1 = true) : rG s = (true, (s.1 + 1, s.2)) := by
  unfold rG at h ⊢
  split
  · rename_i c; rw [if_pos c] at h; cases h
  · rfl
theorem Seg_A {p q : Ps} (hp : Seg K p) (hq : Seg K q) : Seg K (pA p q) := by
  intro s h
  obtain ⟨h1, h2, h3⟩ := pA_ok h
  obtain ⟨a1, a2⟩ := hp s h1
  obtain ⟨b1, b2⟩ := hq _ h2
  rw [h3]
  refine ⟨by omega, fun t t1 t2 => ?_⟩
  by_cases c : t < (p s).2.1
  · exact a2 t t1 c
  · exact b2 t (by omega) t2
theorem Seg_GA {q : Ps} (hq : Seg K q) {s : Pp} (hs : InS K s.1) (h : (pA rG q s).1 = true) : s.1 ≤ (pA rG q s).2.1 ∧ ∀ t, s.1 ≤ t → t < (pA rG q s).2.1 → InS K t := by
  obtain ⟨h1, h2, h3⟩ := pA_ok h
  rw [rG_ok h1] at h2 h3
  obtain ⟨b1, b2⟩ := hq _ h2
  rw [h3]
  have b1 : s.1 + 1 ≤ _ := b1
  refine ⟨by omega, fun t t1 t2 => ?_⟩
  by_cases c : t = s.1
  · rw [c]; exact hs
  · exact b2 t (by show s.1 + 1 ≤ t; omega) t2
theorem Seg_G {s : Pp} (hs : InS K s.1) (h : (rG s).1 = true) : s.1 ≤ (rG s).2.1 ∧ ∀ t, s.1 ≤ t → t < (rG s).2.1 → InS K t := by
  rw [rG_ok h]
  refine ⟨by show s.1 ≤ s.1 + 1; omega, fun t t1 t2 => ?_⟩
  have t2 : t < s.1 + 1 := t2
  have : t = s.1 := by omega
  rw [this]; exact hs
theorem Seg_C {k : Int} (hk : k = 13 ∨ k = 14 ∨ k = 15 ∨ k = 20 ∨ k = 21 ∨ k = 22) : Seg K (rC K k) := by
  intro s h
  unfold rC at h ⊢
  by_cases c : K s.1 = k
  · rw [if_pos c] at h ⊢
    exact Seg_G (by unfold InS; rw [c]; exact hk) h
  · rw [if_neg c] at h; cases h
theorem Seg_J {k : Int} (hk : k = 13 ∨ k = 14) {q : Ps} (hq : Seg K q) : ∀ n, Seg K (rJ K k q n) := by
  intro n
  induction n with
  | zero => intro s h; exact ⟨Int.le_refl _, fun t t1 t2 => by have t2 : t < s.1 := t2; omega⟩
  | succ n ih =>
    intro s h
    simp only [rJ] at h ⊢
    by_cases c : K s.1 = k
    · rw [if_pos c] at h ⊢
      by_cases c2 : (pA rG q s).1 = true
      · rw [if_pos c2] at h ⊢
        have hs : InS K s.1 := by
          unfold InS; rw [c]; omega
        obtain ⟨a1, a2⟩ := Seg_GA hq hs c2
        obtain ⟨b1, b2⟩ := ih _ h
        refine ⟨by omega, fun t t1 t2 => ?_⟩
        by_cases c3 : t < (pA rG q s).2.1
        · exact a2 t t1 c3
        · exact b2 t (by omega) t2
      · rw [if_neg c2] at h; cases h
    · rw [if_neg c]
      exact ⟨Int.le_refl _, fun t t1 t2 => by have t2 : t < s.1 := t2; omega⟩
theorem Seg_Both {one : Ps} (h : Seg K one) : Seg K (rBoth K one) := Seg_A h (Seg_J (Or.inl rfl) h _)
theorem Seg_Any {one : Ps} (h : Seg K one) : Seg K (rAny K one) := Seg_A (Seg_Both h) (Seg_J (Or.inr rfl) (Seg_Both h) _)
theorem Seg_One : ∀ m, Seg K (rOne K m) := by
  intro m
  induction m with
  | zero =>
    intro s h
    simp only [rOne] at h ⊢
    by_cases c : K s.1 = 22
    · rw [if_pos c] at h ⊢; exact Seg_G (by unfold InS; omega) h
    · rw [if_neg c] at h; cases h
  | succ m ih =>
    intro s h
    simp only [rOne] at h ⊢
    by_cases c : K s.1 = 22
    · rw [if_pos c] at h ⊢; exact Seg_G (by unfold InS; omega) h
    · rw [if_neg c] at h ⊢
      by_cases c2 : K s.1 = 15
      · rw [if_pos c2] at h ⊢; exact Seg_GA ih (by unfold InS; omega) h
      · rw [if_neg c2] at h ⊢
        by_cases c3 : K s.1 = 20
        · rw [if_pos c3] at h ⊢; exact Seg_GA (Seg_A (Seg_Any ih) (Seg_C (by omega))) (by unfold InS; omega) h
        · rw [if_neg c3] at h; cases h
theorem ChO_seg {a b : Int} (h : ChO K a b) : a ≤ b ∧ ∀ t, a ≤ t → t < b → InS K t := by
  obtain ⟨h1, h2⟩ := h
  have := Seg_Any (Seg_One 8) _ h1
  rw [h2] at this
  exact this
theorem rOne_gt : ∀ (m : Nat) (s : Pp), (rOne K m s).1 = true → s.1 < (rOne K m s).2.1 := by
  intro m s h
  cases m with
  | zero =>
    simp only [rOne] at h ⊢
    by_cases c : K s.1 = 22
    · rw [if_pos c] at h ⊢; rw [rG_ok h]; show s.1 < s.1 + 1; omega
    · rw [if_neg c] at h; cases h
  | succ m =>
    have GA : ∀ (q : Ps), Seg K q → (pA rG q s).1 = true → s.1 < (pA rG q s).2.1 := by
      intro q hq h
      obtain ⟨h1, h2, h3⟩ := pA_ok h
      rw [rG_ok h1] at h2 h3
      rw [h3]
      have := (hq _ h2).1
      have : s.1 + 1 ≤ _ := this
      omega
    simp only [rOne] at h ⊢
    by_cases c : K s.1 = 22
    · rw [if_pos c] at h ⊢; rw [rG_ok h]; show s.1 < s.1 + 1; omega
    · rw [if_neg c] at h ⊢
      by_cases c2 : K s.1 = 15
      · rw [if_pos c2] at h ⊢; exact GA _ (Seg_One m) h
      · rw [if_neg c2] at h ⊢
        by_cases c3 : K s.1 = 20
        · rw [if_pos c3] at h ⊢; exact GA _ (Seg_A (Seg_Any (Seg_One m)) (Seg_C (by omega))) h
        · rw [if_neg c3] at h; cases h
theorem ChO_lt {a b : Int} (h : ChO K a b) : a < b := by
  obtain ⟨h1, h2⟩ := h
  obtain ⟨h3, h4, h5⟩ := pA_ok h1
  obtain ⟨h6, h7, h8⟩ := pA_ok h3
  have q1 := rOne_gt 8 _ h6
  have q2 := (Seg_J (Or.inl rfl) (Seg_One 8) 1501 _ h7).1
  have q3 := (Seg_J (Or.inr rfl) (Seg_Both (Seg_One 8)) 1501 _ h4).1
  have e1 : (rAny K (rOne K 8) (a, a)).2 = (rJ K 14 (rBoth K (rOne K 8)) 1501 (rBoth K (rOne K 8) (a, a)).2).2 := h5
  have e2 : (rBoth K (rOne K 8) (a, a)).2 = (rJ K 13 (rOne K 8) 1501 (rOne K 8 (a, a)).2).2 := h8
  rw [← e1, h2] at q3
  rw [← e2] at q2
  have q1 : a < _ := q1
  omega
/-- where the look at a choice's names stops -/
theorem lo_stop {c : Int} (hc : K c = 19 ∨ K c = 17 ∨ K c = 25) : ∀ (n : Nat) (σ : Sg), σ 84 8 ≤ c → (∀ t, σ 84 8 ≤ t → t < c → InS K t) → c - σ 84 8 < n → ((loL K V S n σ).1 = 0 → (loL K V S n σ).2 84 8 = c ∧ ∀ t, σ 84 8 ≤ t → t < c → K t = 22 → knR σ (V t) = true) ∧ ((loL K V S n σ).1 ≠ 0 → ∃ t, σ 84 8 ≤ t ∧ t < c ∧ K t = 22 ∧ knR σ (V t) = false ∧ (∀ u, σ 84 8 ≤ u → u < t → K u = 22 → knR σ (V u) = true) ∧ (loL K V S n σ).2 84 4 = S t) := by
  intro n
  induction n with
  | zero => intro σ h1 h2 h3; omega
  | succ n ih =>
    intro σ h1 h2 h3
    simp only [loL]
    by_cases c1 : σ 84 8 = c
    · have c2 : K (σ 84 8) = 19 ∨ K (σ 84 8) = 17 ∨ K (σ 84 8) = 25 := by rw [c1]; exact hc
      rw [if_pos c2]
      exact ⟨fun _ => ⟨c1, fun t t1 t2 => by omega⟩, fun z => absurd rfl z⟩
    · have c2 : ¬ (K (σ 84 8) = 19 ∨ K (σ 84 8) = 17 ∨ K (σ 84 8) = 25) := by
        have := h2 (σ 84 8) (Int.le_refl _) (by omega)
        unfold InS at this
        omega
      rw [if_neg c2]
      by_cases c3 : K (σ 84 8) = 22 ∧ knR σ (V (σ 84 8)) = false
      · rw [if_pos c3]
        refine ⟨fun z => absurd (show (2 : Int) = 0 from z) (by decide), fun _ => ⟨σ 84 8, Int.le_refl _, by omega, c3.1, c3.2, fun u u1 u2 => by omega, up_s σ 84 4 (S (σ 84 8))⟩⟩
      · rw [if_neg c3]
        have e8 : incS 8 σ 84 8 = σ 84 8 + 1 := incS_s _ _
        have ek : ∀ v, knR (incS 8 σ) v = knR σ v := fun v => knR_inc (by decide) v
        obtain ⟨i1, i2⟩ := ih (incS 8 σ) (by rw [e8]; omega) (fun t t1 t2 => h2 t (by rw [e8] at t1; omega) t2) (by rw [e8]; omega)
        refine ⟨fun h0 => ⟨(i1 h0).1, fun t t1 t2 t3 => ?_⟩, fun h0 => ?_⟩
        · by_cases c4 : t = σ 84 8
          · subst c4
            cases hk : knR σ (V (σ 84 8)) with
            | true => rfl
            | false => exact absurd ⟨t3, hk⟩ c3
          · rw [← ek]; exact (i1 h0).2 t (by rw [e8]; omega) t2 t3
        · obtain ⟨t, t1, t2, t3, t4, t5, t6⟩ := i2 h0
          rw [e8] at t1
          refine ⟨t, by omega, t2, t3, by rw [← ek]; exact t4, fun u u1 u2 u3 => ?_, t6⟩
          by_cases c4 : u = σ 84 8
          · subst c4
            cases hk : knR σ (V (σ 84 8)) with
            | true => rfl
            | false => exact absurd ⟨u3, hk⟩ c3
          · rw [← ek]; exact t5 u (by rw [e8]; omega) u2 u3
theorem LsCh_lt {b : Int} : ∀ (m : Nat) (a : Int), LsC K (ChO K) m a b → a + m < b
  | 0, a, hg => by have := ChO_lt hg.1; omega
  | m + 1, a, ⟨c, g1, g2, g3⟩ => by
    have h1 := LsCh_lt m (c + 1) g3
    have := ChO_lt g1
    omega
theorem Dn.me (h : Dn σ) : Dn (meT σ) := h.cg (meT_j (by decide)) (meT_j (by decide)) (fun j hj => by unfold meT; simp (disch := omega) only [incS_k, up_k]; exact ⟨trivial, trivial, trivial, fun _ _ => trivial⟩) (by unfold meT; rw [incS_r _ (by decide), up_r _ _ _ (by decide), up_r _ _ _ (by decide), up_r _ _ _ (by decide)]) (by unfold meT; rw [incS_r _ (by decide), up_r _ _ _ (by decide), up_r _ _ _ (by decide), up_r _ _ _ (by decide)])
theorem Dn.lo (h : Dn σ) : Dn (loM K V S σ).2 := h.cg (loM_j (by decide)) (loM_j (by decide)) (fun j hj => ⟨loM_k (by decide), loM_k (by decide), loM_k (by decide), fun _ _ => loM_k (by decide)⟩) (loL_k (by decide) _ _) (loL_k (by decide) _ _)
theorem meC_inv {c : Int} (h : IV e K V N S σ) (ha : 0 ≤ σ 84 8 ∧ σ 84 8 ≤ e) (hg : ChO K (σ 84 8) c) (hc : K c = 19 ∨ K c = 17) (h0 : (meC K V S σ).1 = 0) : IV e K V N S (meC K V S σ).2 ∧ (meC K V S σ).2 84 8 = c ∧ (meC K V S σ).2 84 30 = σ 84 30 := by
  obtain ⟨hT, hC, hD, hI⟩ := h
  have hM : MI e K V N S σ := ⟨hT, hC, ha⟩
  obtain ⟨⟨m1, m2, m3⟩, -, c8⟩ := hM.me h0
  have hE := hT.e
  have hcin : c ≤ e := by
    rcases hc with z | z
    · have := hT.in z (by decide); omega
    · have := hT.in z (by decide); omega
  have eC : meC K V S σ = loM K V S (meT σ) := if_neg c8
  rw [eC] at h0 m1 m2 ⊢
  obtain ⟨s1, s2⟩ := ChO_seg hg
  have st := (lo_stop (V := V) (S := S) (K := K) (c := c) (by omega) 1502 (meT σ) (by rw [meT_j (by decide)]; exact s1) (by rw [meT_j (by decide)]; exact s2) (by rw [meT_j (by decide)]; omega)).1 h0
  refine ⟨⟨m1, m2, hD.me.lo, ?_⟩, st.1, by rw [loM_j (by decide), meT_j (by decide)]⟩
  intro q hq
  rw [loM_j (by decide), meT_25] at hq
  rw [loM_k (by decide), loM_k (by decide)]
  have e3 : meT σ 103 q = if q = (σ 84 25).toNat then σ 84 8 else σ 103 q := by
    unfold meT
    rw [incS_k _ (by decide), up_k _ _ (by decide), up_k _ _ (by decide), up_at]
  have e4 : meT σ 104 q = if q = (σ 84 25).toNat then σ 84 15 else σ 104 q := by
    unfold meT
    rw [incS_k _ (by decide), up_k _ _ (by decide), up_at, up_k _ _ (by decide)]
  rw [e3, e4]
  by_cases cq : q = (σ 84 25).toNat
  · rw [if_pos cq, if_pos cq]
    exact ⟨⟨c, hg⟩, hC.2.1⟩
  · rw [if_neg cq, if_neg cq]
    exact hI q (by have := hC.2.2.2.1; omega)
theorem meL_inv {b : Int} (hb : K b = 17) : ∀ (m n : Nat) (σ : Sg), IV e K V N S σ → 0 ≤ σ 84 8 → LsC K (ChO K) m (σ 84 8 + 1) b → m < n → (meL K V S n σ).1 = 0 → IV e K V N S (meL K V S n σ).2 ∧ (meL K V S n σ).2 84 8 = b ∧ (meL K V S n σ).2 84 30 = σ 84 30 := by
  intro m
  induction m with
  | zero =>
    intro n σ h ha hg hn h0
    obtain ⟨n, rfl⟩ : ∃ q, n = q + 1 := ⟨n - 1, by omega⟩
    have hlt := LsCh_lt 0 _ hg
    obtain ⟨g1, g2⟩ := hg
    have hbi := h.1.in hb (by decide)
    have g1 : ChO K (incS 8 σ 84 8) b := by rw [incS_s]; exact g1
    simp only [meL] at h0 ⊢
    by_cases c : (meC K V S (incS 8 σ)).1 = 0
    · obtain ⟨i1, i2, i3⟩ := meC_inv h.i8 (by rw [incS_s]; omega) g1 (Or.inr hb) c
      rw [if_pos c, if_neg (by rw [i2, hb]; decide)]
      exact ⟨i1, i2, i3⟩
    · rw [if_neg c] at h0; exact absurd h0 c
  | succ m ih =>
    intro n σ h ha hg hn h0
    obtain ⟨n, rfl⟩ : ∃ q, n = q + 1 := ⟨n - 1, by omega⟩
    obtain ⟨c1, g1, g2, g3⟩ := hg
    have hlt := ChO_lt g1
    have hci := h.1.in g2 (by decide)
    have g1 : ChO K (incS 8 σ 84 8) c1 := by rw [incS_s]; exact g1
    simp only [meL] at h0 ⊢
    by_cases c : (meC K V S (incS 8 σ)).1 = 0
    · obtain ⟨i1, i2, i3⟩ := meC_inv h.i8 (by rw [incS_s]; omega) g1 (Or.inl g2) c
      have c2 : K ((meC K V S (incS 8 σ)).2 84 8) = 19 := by rw [i2]; exact g2
      rw [if_pos c, if_pos c2] at h0 ⊢
      obtain ⟨j1, j2, j3⟩ := ih n _ i1 (by rw [i2]; omega) (by rw [i2]; exact g3) (by omega) h0
      exact ⟨j1, j2, j3.trans i3⟩
    · rw [if_neg c] at h0; exact absurd h0 c
theorem me_inv (h : IV e K V N S σ) {first b : Int} (hg : MlO K (σ 84 8) b) (h0 : (meM K V S first σ).1 = 0) : IV e K V N S (meM K V S first σ).2 ∧ (meM K V S first σ).2 84 8 = b ∧ (meM K V S first σ).2 84 30 = σ 84 30 := by
  obtain ⟨g1, g2, m, g3, g4⟩ := hg
  have ha := h.1.in g1 (by decide)
  have hbi := h.1.in g4 (by decide)
  have hlt := LsCh_lt m _ g3
  have he := h.1.e
  unfold meM at h0 ⊢
  by_cases c1 : σ 84 23 = 4
  · rw [if_pos c1] at h0; exact absurd (show (4 : Int) = 0 from h0) (by decide)
  · rw [if_neg c1] at h0 ⊢
    by_cases c2 : tknR σ (V (σ 84 8)) = true
    · rw [if_pos c2] at h0; exact absurd (show (3 : Int) = 0 from h0) (by decide)
    · rw [if_neg c2] at h0 ⊢
      obtain ⟨hT, hC, hD, hI⟩ := h
      obtain ⟨hC1, hC2, hC3, hC4, hC5, hC6⟩ := id hC
      have hX : IV e K V N S (incS 8 (incS 23 (up σ 100 (σ 84 23).toNat (V (σ 84 8))))) := by
        refine ⟨Tk.i (by decide) (Tk.i (by decide) (Tk.x (by decide) hT)), ?_, ?_, ?_⟩
        · unfold Cn
          simp (disch := omega) only [incS_s, incS_j, up_k]
          exact ⟨hC1, hC2, ⟨by omega, by omega⟩, hC4, hC5, hC6⟩
        · exact hD.cg (by simp (disch := omega) only [incS_j, up_k]) (by simp (disch := omega) only [incS_j, up_k]) (fun j hj => by simp (disch := omega) only [incS_k, up_k]; exact ⟨trivial, trivial, trivial, fun _ _ => trivial⟩) (funext fun j => by simp (disch := omega) only [incS_k, up_k]) (funext fun j => by simp (disch := omega) only [incS_k, up_k])
        · exact hI.cg (by simp (disch := omega) only [incS_j, up_k]) (funext fun j => by simp (disch := omega) only [incS_k, up_k]) (funext fun j => by simp (disch := omega) only [incS_k, up_k])
      have e8 : incS 8 (incS 23 (up σ 100 (σ 84 23).toNat (V (σ 84 8)))) 84 8 = σ 84 8 + 1 := by simp (disch := omega) only [incS_s, incS_j, up_k]
      have e30 : incS 8 (incS 23 (up σ 100 (σ 84 23).toNat (V (σ 84 8)))) 84 30 = σ 84 30 := by simp (disch := omega) only [incS_s, incS_j, up_k]
      obtain ⟨j1, j2, j3⟩ := meL_inv g4 m 1502 _ hX (by rw [e8]; omega) (by rw [e8, ad11]; exact g3) (by omega) h0
      exact ⟨j1, j2, j3.trans e30⟩
theorem IV.ru (h : IV e K V N S σ) {τ : Sg} (hT : Tk τ e K V N S) (hj : ∀ j, j ≠ 8 ∧ j ≠ 30 → τ 84 j = σ 84 j) (h30 : 0 ≤ τ 84 30 ∧ τ 84 30 ≤ 8) (hk : ∀ k, k ≠ 84 ∧ (k < 105 ∨ 109 < k) → τ k = σ k) : IV e K V N S τ := by
  obtain ⟨h1, h2, h3, h4⟩ := h
  obtain ⟨hC1, hC2, hC3, hC4, hC5, hC6⟩ := h2
  refine ⟨hT, ?_, h3.cg (hj 10 (by decide)) (hj 15 (by decide)) (fun j _ => ⟨congrFun (hk 94 (by decide)) j, congrFun (hk 95 (by decide)) j, congrFun (hk 96 (by decide)) j, fun f _ => congrFun (hk 99 (by decide)) _⟩) (hk 90 (by decide)) (hk 91 (by decide)), h4.cg (hj 25 (by decide)) (hk 103 (by decide)) (hk 104 (by decide))⟩
  unfold Cn
  rw [hj 10 (by decide), hj 15 (by decide), hj 23 (by decide), hj 25 (by decide), hj 36 (by decide)]
  exact ⟨hC1, hC2, hC3, hC4, h30, hC6⟩
theorem ru1_T (h : Tk σ e K V N S) (so : Int) : Tk (ru1 σ so) e K V N S := (h.x (by decide)).i (by decide)
theorem ru2_T (h : Tk σ e K V N S) (so : Int) : Tk (ru2 N σ so) e K V N S := (((((ru1_T h so).x (by decide)).x (by decide)).x (by decide)).x (by decide)).i (by decide)
theorem ru3_T (h : Tk σ e K V N S) (so : Int) : Tk (ru3 V N σ so) e K V N S := (((ru2_T h so).x (by decide)).x (by decide)).i (by decide)
theorem ru2_j {so : Int} {j : Nat} (h : j ≠ 8) : ru2 N σ so 84 j = σ 84 j := by
  unfold ru2 ru1
  simp (disch := omega) only [incS_j, up_k]
theorem ru3_j {so : Int} {j : Nat} (h : j ≠ 8) : ru3 V N σ so 84 j = σ 84 j := by
  unfold ru3
  simp (disch := omega) only [incS_j, up_k, ru2_j]
theorem ru2_8 {so : Int} : ru2 N σ so 84 8 = σ 84 8 + 2 := by
  unfold ru2 ru1
  simp (disch := omega) only [incS_s, up_k, ad11]
theorem ru3_8 {so : Int} : ru3 V N σ so 84 8 = σ 84 8 + 3 := by
  unfold ru3
  simp (disch := omega) only [incS_s, up_k, ru2_8, ad21]
theorem ru2_k {so : Int} {k : Nat} (h : k ≠ 84 ∧ (k < 105 ∨ 109 < k)) : ru2 N σ so k = σ k := by
  unfold ru2 ru1
  rw [incS_r _ h.1, up_r _ _ _ (by omega), up_r _ _ _ (by omega), up_r _ _ _ (by omega), up_r _ _ _ (by omega), incS_r _ h.1, up_r _ _ _ (by omega)]
theorem ru3_k {so : Int} {k : Nat} (h : k ≠ 84 ∧ (k < 105 ∨ 109 < k)) : ru3 V N σ so k = σ k := by
  unfold ru3
  rw [incS_r _ h.1, up_r _ _ _ (by omega), up_r _ _ _ (by omega), ru2_k h]
theorem ruE_inv (h : IV e K V N S σ) (h30 : σ 84 30 ≠ 8) {X : Sg} (hX : Tk X e K V N S) (hj : ∀ j, j ≠ 8 → X 84 j = σ 84 j) (hk : ∀ k, k ≠ 84 ∧ (k < 105 ∨ 109 < k) → X k = σ k) {p lo hi : Int} (h0 : (ruE N S (σ 84 30).toNat X p lo hi).1 = 0) : IV e K V N S (ruE N S (σ 84 30).toNat X p lo hi).2 ∧ (ruE N S (σ 84 30).toNat X p lo hi).2 84 8 = X 84 8 + 2 ∧ (ruE N S (σ 84 30).toNat X p lo hi).2 84 30 = σ 84 30 + 1 := by
  unfold ruE at h0 ⊢
  by_cases c : lo ≤ N p ∧ N p ≤ hi
  · rw [if_pos c]
    have h30b := h.2.1.2.2.2.2.1
    have e30 := hj 30 (by decide)
    dsimp only
    refine ⟨h.ru (Tk.i (by decide) (Tk.i (by decide) (Tk.x (by decide) (Tk.i (by decide) hX)))) (fun j hj2 => ?_) ?_ (fun k hk2 => ?_), ?_, ?_⟩
    · rw [incS_j _ hj2.2, incS_j _ hj2.1, up_k _ _ (by decide), incS_j _ hj2.1]; exact hj j hj2.1
    · simp (disch := omega) only [incS_s, incS_j, up_k]
      omega
    · rw [incS_r _ hk2.1, incS_r _ hk2.1, up_r _ _ _ (by omega), incS_r _ hk2.1]; exact hk k hk2
    · simp (disch := omega) only [incS_s, incS_j, up_k, ad11]
    · simp (disch := omega) only [incS_s, incS_j, up_k]
      omega
  · rw [if_neg c] at h0; exact absurd (show (5 : Int) = 0 from h0) (by decide)
theorem ruB_inv (h : IV e K V N S σ) (h30 : σ 84 30 ≠ 8) {so lo hi b : Int} (hb : (so = 0 ∧ b = σ 84 8 + 3) ∨ (so = 3 ∧ b = σ 84 8 + 4) ∨ ((so = 1 ∨ so = 2) ∧ b = σ 84 8 + 5)) (h0 : (ruB V N S σ so lo hi).1 = 0) : IV e K V N S (ruB V N S σ so lo hi).2 ∧ (ruB V N S σ so lo hi).2 84 8 = b ∧ (ruB V N S σ so lo hi).2 84 30 = σ 84 30 + 1 := by
  have h30b := h.2.1.2.2.2.2.1
  unfold ruB at h0 ⊢
  by_cases c : lo ≤ N (σ 84 8 + 1) ∧ N (σ 84 8 + 1) ≤ hi
  · rw [if_pos c] at h0 ⊢
    by_cases c3 : so = 3
    · rw [if_pos c3] at h0 ⊢
      have q := ruE_inv h h30 (ru2_T h.1 so) (fun j hj => ru2_j hj) (fun k hk => ru2_k hk) h0
      refine ⟨q.1, ?_, q.2.2⟩
      rw [q.2.1, ru2_8]; omega
    · rw [if_neg c3] at h0 ⊢
      by_cases c4 : knR σ (V (σ 84 8 + 2)) = true
      · rw [if_pos c4] at h0 ⊢
        by_cases c5 : so = 0
        · rw [if_pos c5]
          dsimp only
          refine ⟨h.ru (Tk.i (by decide) (ru3_T h.1 so)) (fun j hj2 => ?_) ?_ (fun k hk2 => ?_), ?_, ?_⟩
          · rw [incS_j _ hj2.2]; exact ru3_j hj2.1
          · rw [incS_s, ru3_j (by decide)]; omega
          · rw [incS_r _ hk2.1]; exact ru3_k hk2
          · rw [incS_j _ (by decide), ru3_8]; omega
          · rw [incS_s, ru3_j (by decide)]
        · rw [if_neg c5] at h0 ⊢
          have q := ruE_inv h h30 (ru3_T h.1 so) (fun j hj => ru3_j hj) (fun k hk => ru3_k hk) h0
          refine ⟨q.1, ?_, q.2.2⟩
          rw [q.2.1, ru3_8]; omega
      · rw [if_neg c4] at h0; exact absurd (show (2 : Int) = 0 from h0) (by decide)
  · rw [if_neg c] at h0; exact absurd (show (5 : Int) = 0 from h0) (by decide)
theorem ru_inv (h : IV e K V N S σ) {first b : Int} (hg : RlO K (σ 84 8) b) (h0 : (ruM K V N S first σ).1 = 0) : IV e K V N S (ruM K V N S first σ).2 ∧ (ruM K V N S first σ).2 84 8 = b ∧ (ruM K V N S first σ).2 84 30 = σ 84 30 + 1 := by
  obtain ⟨g1, g2⟩ := hg
  unfold ruM at h0 ⊢
  by_cases c : σ 84 30 = 8
  · rw [if_pos c] at h0; exact absurd (show (4 : Int) = 0 from h0) (by decide)
  · rw [if_neg c] at h0 ⊢
    by_cases c7 : K (σ 84 8) = 7
    · rw [if_pos c7] at h0 ⊢
      exact ruB_inv h c (by omega) h0
    · rw [if_neg c7] at h0 ⊢
      by_cases c8 : K (σ 84 8) = 8
      · rw [if_pos c8] at h0 ⊢
        exact ruB_inv h c (by omega) h0
      · rw [if_neg c8] at h0 ⊢
        by_cases c9 : K (σ 84 8) = 9
        · rw [if_pos c9] at h0 ⊢
          exact ruB_inv h c (by omega) h0
        · rw [if_neg c9] at h0 ⊢
          exact ruB_inv h c (by omega) h0
/-! programs -/
def PgE (K : Int → Int) : Nat → Int → Prop
  | 0, a => K a = 25
  | n + 1, a => ∃ b, ItO K a b ∧ PgE K n (b + 1)
theorem PgL_E : ∀ (n : Nat) (a : Int), PgL K n a → PgE K (n + 1) a
  | 0, a, ⟨b, h1, h2⟩ => ⟨b, h1, h2⟩
  | n + 1, a, ⟨b, h1, _, h3⟩ => ⟨b, h1, PgL_E n (b + 1) h3⟩
theorem TgO_le (h : Tk σ e K V N S) {a b : Int} (hg : TgO K a b) : a ≤ b := by
  rcases hg with z | ⟨z1, z2, n, z3⟩
  · omega
  · have := h.in z1 (by decide)
    have := TgC_len h n _ z3 (by omega)
    omega
theorem It_b (h : Tk σ e K V N S) {a b : Int} (hg : ItO K a b) : a < b ∧ K b = 17 := by
  rcases hg with ⟨g1, g2, g3, g4, g5⟩ | ⟨g1, g2, g3, g4, g5, m, c, g6, g7, g8⟩ | ⟨g1, g2, g3, m, g4, g5⟩ | ⟨g1, g2, g3⟩
  · refine ⟨?_, g5⟩
    rcases g4 with z | z
    · have := TgO_le h z.2.2; omega
    · have := TgO_le h z.2; omega
  · refine ⟨?_, g8⟩
    have := LsC_le h m _ g6
    have := TgO_le h g7
    omega
  · refine ⟨?_, g5⟩
    have := LsCh_lt m _ g4
    omega
  · exact ⟨by omega, g3⟩
theorem It_ne {a b : Int} (hg : ItO K a b) : K a ≠ 25 := by
  rcases hg with ⟨g1, _⟩ | ⟨g1, _⟩ | ⟨g1, _⟩ | ⟨g1, _⟩ <;> rw [g1] <;> decide
theorem PgE_len (h : Tk σ e K V N S) : ∀ (m : Nat) (a : Int), a ≤ e → PgE K m a → a + m ≤ e
  | 0, a, h1, _ => by omega
  | m + 1, a, h1, ⟨b, g1, g2⟩ => by
    obtain ⟨q1, q2⟩ := It_b h g1
    have q3 := h.in q2 (by decide)
    have := PgE_len h m (b + 1) (by omega) g2
    omega
def mnI (K V N S : Int → Int) (first : Int) (σ : Sg) : Int × Sg := if K first = 0 then foM K V N S first σ else if K first = 1 then dsM K V N S first σ else if K first = 5 then meM K V S first σ else ruM K V N S first σ
def mnL (K V N S : Int → Int) : Nat → Sg → Int × Sg
  | 0, σ => (0, σ)
  | n + 1, σ => if K (σ 84 8) = 25 then (if σ 84 15 = 0 ∨ σ 84 23 = 0 then (6, up σ 84 4 (S (σ 84 8))) else (0, σ)) else if (mnI K V N S (σ 84 8) (incS 8 σ)).1 = 0 then mnL K V N S n (incS 8 (mnI K V N S (σ 84 8) (incS 8 σ)).2) else mnI K V N S (σ 84 8) (incS 8 σ)
theorem mnI_inv (h : IV e K V N S σ) {b : Int} (hg : ItO K (σ 84 8) b) (h0 : (mnI K V N S (σ 84 8) (incS 8 σ)).1 = 0) : IV e K V N S (mnI K V N S (σ 84 8) (incS 8 σ)).2 ∧ (mnI K V N S (σ 84 8) (incS 8 σ)).2 84 8 = b ∧ σ 84 30 ≤ (mnI K V N S (σ 84 8) (incS 8 σ)).2 84 30 := by
  have e8 : incS 8 σ 84 8 = σ 84 8 + 1 := incS_s _ _
  have e30 : incS 8 σ 84 30 = σ 84 30 := incS_j _ (by decide)
  unfold mnI at h0 ⊢
  rcases hg with ⟨g1, g2⟩ | ⟨g1, g2⟩ | ⟨g1, g2⟩ | ⟨g1, g2⟩
  · rw [if_pos g1] at h0 ⊢
    obtain ⟨q1, q2, q3⟩ := fo_inv h.i8 (by rw [e8]; exact g2) h0
    exact ⟨q1, q2, by rw [q3, e30]; exact Int.le_refl _⟩
  · rw [if_neg (by rw [g1]; decide), if_pos g1] at h0 ⊢
    obtain ⟨q1, q2, q3⟩ := ds_inv h.i8 (by rw [e8]; exact g2) h0
    exact ⟨q1, q2, by rw [q3, e30]; exact Int.le_refl _⟩
  · rw [if_neg (by rw [g1]; decide), if_neg (by rw [g1]; decide), if_pos g1] at h0 ⊢
    obtain ⟨q1, q2, q3⟩ := me_inv h.i8 (by rw [e8]; exact g2) h0
    exact ⟨q1, q2, by rw [q3, e30]; exact Int.le_refl _⟩
  · rw [if_neg (by rw [g1]; decide), if_neg (by rw [g1]; decide), if_neg (by rw [g1]; decide)] at h0 ⊢
    obtain ⟨q1, q2, q3⟩ := ru_inv h.i8 (by rw [e8]; exact g2) h0
    exact ⟨q1, q2, by rw [q3, e30]; omega⟩
theorem mnL_inv : ∀ (m n : Nat) (σ : Sg), IV e K V N S σ → PgE K m (σ 84 8) → m < n → (mnL K V N S n σ).1 = 0 → IV e K V N S (mnL K V N S n σ).2 := by
  intro m
  induction m with
  | zero =>
    intro n σ h hg hn h0
    obtain ⟨n, rfl⟩ : ∃ q, n = q + 1 := ⟨n - 1, by omega⟩
    have hg : K (σ 84 8) = 25 := hg
    simp only [mnL] at h0 ⊢
    rw [if_pos hg] at h0 ⊢
    split
    · rename_i c; rw [if_pos c] at h0; exact absurd (show (6 : Int) = 0 from h0) (by decide)
    · exact h
  | succ m ih =>
    intro n σ h hg hn h0
    obtain ⟨n, rfl⟩ : ∃ q, n = q + 1 := ⟨n - 1, by omega⟩
    obtain ⟨b, g1, g2⟩ := hg
    simp only [mnL] at h0 ⊢
    rw [if_neg (It_ne g1)] at h0 ⊢
    by_cases c : (mnI K V N S (σ 84 8) (incS 8 σ)).1 = 0
    · rw [if_pos c] at h0 ⊢
      obtain ⟨q1, q2, -⟩ := mnI_inv h g1 c
      exact ih n _ q1.i8 (by rw [incS_s, q2]; exact g2) (by omega) h0
    · rw [if_neg c] at h0; exact absurd h0 c
end S42
