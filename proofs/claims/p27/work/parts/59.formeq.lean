/-! the form: class and reference read alike -/
section S59
variable {K J : Int → Int} {e : Int}
theorem ff {P : Prop} (z : false = true) : P := by cases z
def HK (K J : Int → Int) (e : Int) : Prop := (0 ≤ e ∧ e ≤ 1500) ∧ K e = 25 ∧ ∀ t, 0 ≤ t → t ≤ e → J t = K t
theorem HK.lt (h : HK K J e) {t k : Int} (hk : K t = k) (h25 : k ≠ 25) (hle : t ≤ e) : t < e := by
  by_cases c : t = e
  · rw [c, h.2.1] at hk; exact absurd hk.symm h25
  · omega
theorem HK.j (h : HK K J e) {t : Int} (h0 : 0 ≤ t) (h1 : t ≤ e) : J t = K t := h.2.2 t h0 h1
theorem pA_assoc (p q r : Ps) (s : Pp) : pA p (pA q r) s = pA (pA p q) r s := by
  unfold pA
  by_cases h : (p s).1 = true
  · simp only [h, if_true]
  · simp [h]
theorem pA_as (p q r : Ps) : pA p (pA q r) = pA (pA p q) r := funext fun s => pA_assoc p q r s
theorem pA_f {p q : Ps} {s : Pp} (h : ¬ (p s).1 = true) : pA p q s = (false, (p s).2) := if_neg h
theorem pA_t {p q : Ps} {s : Pp} (h : (p s).1 = true) : pA p q s = q (p s).2 := if_pos h
/-- within a choice: class (at, tokens taken), reference (at, where it began) -/
def Sm (e cf at0 : Int) (p q : Bool × Pp) : Prop := p.1 = q.1 ∧ p.2.1 = q.2.1 ∧ q.2.2 = cf ∧ p.2.2 = p.2.1 - cf ∧ at0 ≤ p.2.1 ∧ p.2.1 ≤ cf + 30 ∧ p.2.1 ≤ e ∧ (p.1 = true → at0 < p.2.1)
def SmW (e cf at0 : Int) (p q : Bool × Pp) : Prop := p.1 = q.1 ∧ p.2.1 = q.2.1 ∧ q.2.2 = cf ∧ p.2.2 = p.2.1 - cf ∧ at0 ≤ p.2.1 ∧ p.2.1 ≤ cf + 30 ∧ p.2.1 ≤ e
theorem Sm.w {cf at0 : Int} {p q : Bool × Pp} (h : Sm e cf at0 p q) : SmW e cf at0 p q := ⟨h.1, h.2.1, h.2.2.1, h.2.2.2.1, h.2.2.2.2.1, h.2.2.2.2.2.1, h.2.2.2.2.2.2.1⟩
theorem pp_eq {s : Pp} {a b : Int} (h1 : s.1 = a) (h2 : s.2 = b) : s = (a, b) := by cases s; simp_all
def PSm (e cf : Int) (p q : Ps) : Prop := ∀ a, cf ≤ a → a ≤ cf + 30 → a ≤ e → Sm e cf a (p (a, a - cf)) (q (a, cf))
def PSw (e cf : Int) (p q : Ps) : Prop := ∀ a, cf < a → a ≤ cf + 30 → a ≤ e → SmW e cf a (p (a, a - cf)) (q (a, cf))
theorem Sm_A {cf a : Int} {p q p2 q2 : Ps} (h1 : Sm e cf a (p (a, a - cf)) (q (a, cf))) (ha : cf ≤ a) (h2 : PSw e cf p2 q2) : Sm e cf a (pA p p2 (a, a - cf)) (pA q q2 (a, cf)) := by
  obtain ⟨e1, e2, e3, e4, e5, e6, e7, e8⟩ := h1
  by_cases c : (p (a, a - cf)).1 = true
  · rw [pA_t c, pA_t (e1 ▸ c)]
    have h3 := h2 (p (a, a - cf)).2.1 (by have := e8 c; omega) e6 e7
    have p1 : (p (a, a - cf)).2 = ((p (a, a - cf)).2.1, (p (a, a - cf)).2.1 - cf) := pp_eq rfl e4
    have q1 : (q (a, cf)).2 = ((p (a, a - cf)).2.1, cf) := pp_eq e2.symm e3
    rw [← p1, ← q1] at h3
    obtain ⟨f1, f2, f3, f4, f5, f6, f7⟩ := h3
    exact ⟨f1, f2, f3, f4, by omega, f6, f7, fun _ => by have := e8 c; omega⟩
  · rw [pA_f c, pA_f (e1 ▸ c)]
    exact ⟨rfl, e2, e3, e4, e5, e6, e7, fun z => ff z⟩
theorem Sm_G {cf a k : Int} (hK : HK K J e) (ha : cf ≤ a ∧ a ≤ cf + 30) (he : a ≤ e) (h25 : k ≠ 25) (hk : K a = k) : Sm e cf a (pC K k (a, a - cf)) (rG (a, cf)) := by
  have hlt := hK.lt hk h25 he
  unfold pC rG
  dsimp only
  rw [i32_n (a - cf) (by omega)]
  by_cases c : a - cf = 30
  · rw [if_pos (Or.inl (by omega)), if_pos c]
    exact ⟨rfl, rfl, rfl, rfl, Int.le_refl _, ha.2, he, fun z => ff z⟩
  · rw [if_neg (by
      intro z
      rcases z with z | z
      · omega
      · exact z hk), if_neg c]
    exact ⟨rfl, rfl, rfl, by show a - cf + 1 = a + 1 - cf; omega, by show a ≤ a + 1; omega, by show a + 1 ≤ cf + 30; omega, by show a + 1 ≤ e; omega, fun _ => by show a < a + 1; omega⟩
theorem Sm_C {cf : Int} (hcf : 0 ≤ cf) (hK : HK K J e) {k : Int} (h25 : k ≠ 25) : PSm e cf (pC K k) (rC J k) := by
  intro a h1 h2 h3
  have hj := hK.j (t := a) (by omega) h3
  by_cases c : K a = k
  · rw [show rC J k (a, cf) = rG (a, cf) from if_pos (hj.trans c)]
    exact Sm_G hK ⟨h1, h2⟩ h3 h25 c
  · rw [show rC J k (a, cf) = (false, (a, cf)) from if_neg (fun z => c (hj.symm.trans z)), show pC K k (a, a - cf) = (false, (a, a - cf)) from if_pos (Or.inr c)]
    exact ⟨rfl, rfl, rfl, rfl, Int.le_refl _, h2, h3, fun z => ff z⟩
theorem SmW_l {cf : Int} (hcf : 0 ≤ cf) (hK : HK K J e) {one oneR : Ps} (h1 : PSm e cf one oneR) : ∀ (M n n13 n14 : Nat) (a : Int), cf < a → a ≤ cf + 30 → a ≤ e → cf + 30 - a ≤ M → M < n → M < n13 → M < n14 → M < 1501 →
    SmW e cf a (pJ K one n (a, a - cf)) (pA (rJ J 13 oneR n13) (rJ J 14 (pA oneR (rJ J 13 oneR 1501)) n14) (a, cf)) := by
  intro M
  induction M with
  | zero =>
    intro n n13 n14 a a0 a1 a2 hM hn h13 h14 _
    have hj := hK.j (t := a) (by omega) a2
    obtain ⟨n, rfl⟩ : ∃ q, n = q + 1 := ⟨n - 1, by omega⟩
    obtain ⟨n13, rfl⟩ : ∃ q, n13 = q + 1 := ⟨n13 - 1, by omega⟩
    obtain ⟨n14, rfl⟩ : ∃ q, n14 = q + 1 := ⟨n14 - 1, by omega⟩
    have ea : a - cf = 30 := by omega
    have hG : rG (a, cf) = (false, (a, cf)) := if_pos ea
    have hC : ∀ k, pC K k (a, a - cf) = (false, (a, a - cf)) := fun k => if_pos (Or.inl (by dsimp only; rw [ea, i32_n _ (by omega)]; omega))
    have hx : ∀ k, pA (pC K k) one (a, a - cf) = (false, (a, a - cf)) := fun k => by rw [pA_f (by rw [hC]; exact fun z => ff z), hC]
    have hy : ∀ p : Ps, pA rG p (a, cf) = (false, (a, cf)) := fun p => by rw [pA_f (by rw [hG]; exact fun z => ff z), hG]
    have base : SmW e cf a (false, (a, a - cf)) (false, (a, cf)) := ⟨rfl, rfl, rfl, rfl, Int.le_refl _, a1, a2⟩
    have base2 : SmW e cf a (true, (a, a - cf)) (true, (a, cf)) := ⟨rfl, rfl, rfl, rfl, Int.le_refl _, a1, a2⟩
    by_cases c13 : K a = 13
    · have e1 : pJ K one (n + 1) (a, a - cf) = (false, (a, a - cf)) := by
        simp only [pJ]
        rw [if_pos (Or.inl c13), hx]; rfl
      have e2 : rJ J 13 oneR (n13 + 1) (a, cf) = (false, (a, cf)) := by
        simp only [rJ]
        rw [if_pos (hj.trans c13), hy]; rfl
      rw [e1, pA_f (by rw [e2]; exact fun z => ff z), e2]
      exact base
    · have e2 : rJ J 13 oneR (n13 + 1) (a, cf) = (true, (a, cf)) := if_neg (fun z => c13 (hj.symm.trans z))
      rw [pA_t (by rw [e2]), e2]
      by_cases c14 : K a = 14
      · have e1 : pJ K one (n + 1) (a, a - cf) = (false, (a, a - cf)) := by
          simp only [pJ]
          rw [if_pos (Or.inr c14), hx]; rfl
        have e3 : rJ J 14 (pA oneR (rJ J 13 oneR 1501)) (n14 + 1) (a, cf) = (false, (a, cf)) := (if_pos (hj.trans c14)).trans (by rw [hy]; rfl)
        rw [e1, e3]; exact base
      · have e1 : pJ K one (n + 1) (a, a - cf) = (true, (a, a - cf)) := if_neg (fun z => z.elim c13 c14)
        have e3 : rJ J 14 (pA oneR (rJ J 13 oneR 1501)) (n14 + 1) (a, cf) = (true, (a, cf)) := if_neg (fun z => c14 (hj.symm.trans z))
        rw [e1, e3]; exact base2
  | succ M ih =>
    intro n n13 n14 a a0 a1 a2 hM hn h13 h14 hM1
    have hj := hK.j (t := a) (by omega) a2
    obtain ⟨n, rfl⟩ : ∃ q, n = q + 1 := ⟨n - 1, by omega⟩
    obtain ⟨n13, rfl⟩ : ∃ q, n13 = q + 1 := ⟨n13 - 1, by omega⟩
    obtain ⟨n14, rfl⟩ : ∃ q, n14 = q + 1 := ⟨n14 - 1, by omega⟩
    have xy : ∀ k, k ≠ 25 → K a = k → Sm e cf a (pA (pC K k) one (a, a - cf)) (pA rG oneR (a, cf)) := fun k k0 k1 =>
      Sm_A (Sm_G hK ⟨by omega, a1⟩ a2 k0 k1) (by omega) (fun b b0 b1 b2 => (h1 b (by omega) b1 b2).w)
    have step : ∀ k n13 n14, k ≠ 25 → K a = k → M < n13 → M < n14 → SmW e cf a (if (pA (pC K k) one (a, a - cf)).1 = true then pJ K one n (pA (pC K k) one (a, a - cf)).2 else (false, (pA (pC K k) one (a, a - cf)).2))
        (if (pA rG oneR (a, cf)).1 = true then pA (rJ J 13 oneR n13) (rJ J 14 (pA oneR (rJ J 13 oneR 1501)) n14) (pA rG oneR (a, cf)).2 else (false, (pA rG oneR (a, cf)).2)) := by
      intro k m13 m14 k0 k1 hm13 hm14
      have hxy := xy k k0 k1
      generalize pA (pC K k) one (a, a - cf) = x at hxy ⊢
      generalize pA rG oneR (a, cf) = y at hxy ⊢
      obtain ⟨e1, e2, e3, e4, e5, e6, e7, e8⟩ := hxy
      by_cases c : x.1 = true
      · rw [if_pos c, if_pos (e1 ▸ c)]
        have hlt := e8 c
        have := ih n m13 m14 x.2.1 (by omega) e6 e7 (by omega) (by omega) hm13 hm14 (by omega)
        rw [pp_eq (s := x.2) rfl e4, pp_eq (s := y.2) e2.symm e3]
        exact ⟨this.1, this.2.1, this.2.2.1, this.2.2.2.1, by have := this.2.2.2.2.1; omega, this.2.2.2.2.2.1, this.2.2.2.2.2.2⟩
      · rw [if_neg c, if_neg (e1 ▸ c)]
        exact ⟨rfl, e2, e3, e4, e5, e6, e7⟩
    by_cases c13 : K a = 13
    · have e1 : pJ K one (n + 1) (a, a - cf) = if (pA (pC K 13) one (a, a - cf)).1 = true then pJ K one n (pA (pC K 13) one (a, a - cf)).2 else (false, (pA (pC K 13) one (a, a - cf)).2) := by
        simp only [pJ]
        rw [if_pos (Or.inl c13), c13]
      have e2 : pA (rJ J 13 oneR (n13 + 1)) (rJ J 14 (pA oneR (rJ J 13 oneR 1501)) (n14 + 1)) (a, cf) = if (pA rG oneR (a, cf)).1 = true then pA (rJ J 13 oneR n13) (rJ J 14 (pA oneR (rJ J 13 oneR 1501)) (n14 + 1)) (pA rG oneR (a, cf)).2 else (false, (pA rG oneR (a, cf)).2) := by
        have e3 : rJ J 13 oneR (n13 + 1) (a, cf) = if (pA rG oneR (a, cf)).1 = true then rJ J 13 oneR n13 (pA rG oneR (a, cf)).2 else (false, (pA rG oneR (a, cf)).2) := if_pos (hj.trans c13)
        by_cases c : (pA rG oneR (a, cf)).1 = true
        · rw [if_pos c] at e3 ⊢
          show (if (rJ J 13 oneR (n13 + 1) (a, cf)).1 = true then _ else _) = _
          rw [e3]; rfl
        · rw [if_neg c] at e3 ⊢
          rw [pA_f (by rw [e3]; exact fun z => ff z), e3]
      rw [e1, e2]
      exact step 13 n13 (n14 + 1) (by decide) c13 (by omega) (by omega)
    · have e2 : rJ J 13 oneR (n13 + 1) (a, cf) = (true, (a, cf)) := if_neg (fun z => c13 (hj.symm.trans z))
      rw [pA_t (by rw [e2]), e2]
      by_cases c14 : K a = 14
      · have e1 : pJ K one (n + 1) (a, a - cf) = if (pA (pC K 14) one (a, a - cf)).1 = true then pJ K one n (pA (pC K 14) one (a, a - cf)).2 else (false, (pA (pC K 14) one (a, a - cf)).2) := by
          simp only [pJ]
          rw [if_pos (Or.inr c14), c14]
        have e3 : rJ J 14 (pA oneR (rJ J 13 oneR 1501)) (n14 + 1) (a, cf) = if (pA rG oneR (a, cf)).1 = true then pA (rJ J 13 oneR 1501) (rJ J 14 (pA oneR (rJ J 13 oneR 1501)) n14) (pA rG oneR (a, cf)).2 else (false, (pA rG oneR (a, cf)).2) := by
          have e4 : rJ J 14 (pA oneR (rJ J 13 oneR 1501)) (n14 + 1) (a, cf) = pA (pA rG (pA oneR (rJ J 13 oneR 1501))) (rJ J 14 (pA oneR (rJ J 13 oneR 1501)) n14) (a, cf) := if_pos (hj.trans c14)
          rw [e4]
          have e5 : pA rG (pA oneR (rJ J 13 oneR 1501)) = pA (pA rG oneR) (rJ J 13 oneR 1501) := funext fun s => pA_assoc _ _ _ _
          rw [e5]
          exact (pA_assoc (pA rG oneR) (rJ J 13 oneR 1501) (rJ J 14 (pA oneR (rJ J 13 oneR 1501)) n14) (a, cf)).symm
        rw [e1, e3]
        exact step 14 1501 n14 (by decide) c14 (by omega) (by omega)
      · have e1 : pJ K one (n + 1) (a, a - cf) = (true, (a, a - cf)) := if_neg (fun z => z.elim c13 c14)
        have e3 : rJ J 14 (pA oneR (rJ J 13 oneR 1501)) (n14 + 1) (a, cf) = (true, (a, cf)) := if_neg (fun z => c14 (hj.symm.trans z))
        rw [e1, e3]
        exact ⟨rfl, rfl, rfl, rfl, Int.le_refl _, a1, a2⟩
theorem Sm_E {cf : Int} (hcf : 0 ≤ cf) (hK : HK K J e) {one oneR : Ps} (h1 : PSm e cf one oneR) : PSm e cf (pE K one) (rAny J oneR) := by
  intro a a0 a1 a2
  have : rAny J oneR (a, cf) = pA oneR (pA (rJ J 13 oneR 1501) (rJ J 14 (pA oneR (rJ J 13 oneR 1501)) 1501)) (a, cf) := (pA_assoc _ _ _ _).symm
  rw [this]
  exact Sm_A (h1 a a0 a1 a2) a0 (fun b b0 b1 b2 => SmW_l hcf hK h1 29 30 1501 1501 b b0 b1 b2 (by omega) (by omega) (by omega) (by omega) (by omega))
theorem Sm_one {cf : Int} (hcf : 0 ≤ cf) (hK : HK K J e) : ∀ m : Nat, PSm e cf (pOne K m) (rOne J m) := by
  intro m
  induction m with
  | zero =>
    intro a a0 a1 a2
    have hj := hK.j (t := a) (by omega) a2
    by_cases c : K a = 22
    · rw [show pOne K 0 (a, a - cf) = pC K 22 (a, a - cf) from if_pos c, show rOne J 0 (a, cf) = rG (a, cf) from if_pos (hj.trans c)]
      exact Sm_G hK ⟨a0, a1⟩ a2 (by decide) c
    · rw [show pOne K 0 (a, a - cf) = (false, (a, a - cf)) from if_neg c, show rOne J 0 (a, cf) = (false, (a, cf)) from if_neg (fun z => c (hj.symm.trans z))]
      exact ⟨rfl, rfl, rfl, rfl, Int.le_refl _, a1, a2, fun z => ff z⟩
  | succ m ih =>
    intro a a0 a1 a2
    have hj := hK.j (t := a) (by omega) a2
    by_cases c : K a = 22
    · rw [show pOne K (m + 1) (a, a - cf) = pC K 22 (a, a - cf) from if_pos c, show rOne J (m + 1) (a, cf) = rG (a, cf) from if_pos (hj.trans c)]
      exact Sm_G hK ⟨a0, a1⟩ a2 (by decide) c
    · by_cases c2 : K a = 15
      · rw [show pOne K (m + 1) (a, a - cf) = pA (pC K 15) (pOne K m) (a, a - cf) from (if_neg c).trans (if_pos c2), show rOne J (m + 1) (a, cf) = pA rG (rOne J m) (a, cf) from (if_neg (fun z => c (hj.symm.trans z))).trans (if_pos (hj.trans c2))]
        exact Sm_A (Sm_G hK ⟨a0, a1⟩ a2 (by decide) c2) a0 (fun b b0 b1 b2 => (ih b (by omega) b1 b2).w)
      · rw [show pOne K (m + 1) (a, a - cf) = pA (pC K 20) (pA (pE K (pOne K m)) (pC K 21)) (a, a - cf) from (if_neg c).trans (if_neg c2)]
        by_cases c3 : K a = 20
        · rw [show rOne J (m + 1) (a, cf) = pA rG (pA (rAny J (rOne J m)) (rC J 21)) (a, cf) from (if_neg (fun z => c (hj.symm.trans z))).trans ((if_neg (fun z => c2 (hj.symm.trans z))).trans (if_pos (hj.trans c3)))]
          refine Sm_A (Sm_G hK ⟨a0, a1⟩ a2 (by decide) c3) a0 (fun b b0 b1 b2 => ?_)
          exact (Sm_A (Sm_E hcf hK ih b (by omega) b1 b2) (by omega) (fun b b0 b1 b2 => (Sm_C hcf hK (by decide) b (by omega) b1 b2).w)).w
        · rw [show rOne J (m + 1) (a, cf) = (false, (a, cf)) from (if_neg (fun z => c (hj.symm.trans z))).trans ((if_neg (fun z => c2 (hj.symm.trans z))).trans (if_neg (fun z => c3 (hj.symm.trans z))))]
          rw [pA_f (by rw [show pC K 20 (a, a - cf) = (false, (a, a - cf)) from if_pos (Or.inr c3)]; exact fun z => ff z), show pC K 20 (a, a - cf) = (false, (a, a - cf)) from if_pos (Or.inr c3)]
          exact ⟨rfl, rfl, rfl, rfl, Int.le_refl _, a1, a2, fun z => ff z⟩
/-! whole readers: the same answer at the same place -/
def Sq (e a : Int) (p q : Bool × Pp) : Prop := p.1 = q.1 ∧ p.2.1 = q.2.1 ∧ a ≤ p.2.1 ∧ p.2.1 ≤ e
def PQ (e : Int) (p q : Ps) : Prop := ∀ s t : Pp, s.1 = t.1 → 0 ≤ s.1 ∧ s.1 ≤ e → Sq e s.1 (p s) (q t)
def PQs (e : Int) (p q : Ps) : Prop := ∀ s t : Pp, s.1 = t.1 → 0 ≤ s.1 ∧ s.1 ≤ e → Sq e s.1 (p s) (q t) ∧ ((p s).1 = true → s.1 < (p s).2.1)
theorem PQs.w {p q : Ps} (h : PQs e p q) : PQ e p q := fun s t h1 h2 => (h s t h1 h2).1
theorem PQ_T (hK : HK K J e) {k : Int} (h25 : k ≠ 25) : PQs e (pT K k) (pT J k) := by
  intro s t h1 h2
  unfold pT
  have hj := hK.j h2.1 h2.2
  rw [← h1]
  by_cases c : K s.1 = k
  · have hlt := hK.lt c h25 h2.2
    rw [if_pos c, if_pos (hj.trans c)]
    exact ⟨⟨rfl, rfl, by show s.1 ≤ s.1 + 1; omega, by show s.1 + 1 ≤ e; omega⟩, fun _ => by show s.1 < s.1 + 1; omega⟩
  · rw [if_neg c, if_neg (fun z => c (hj.symm.trans z))]
    exact ⟨⟨rfl, h1, Int.le_refl _, h2.2⟩, fun z => ff z⟩
theorem PQ_A {p q p2 q2 : Ps} (h1 : PQ e p q) (h2 : PQ e p2 q2) : PQ e (pA p p2) (pA q q2) := by
  intro s t st he
  obtain ⟨e1, e2, e3, e4⟩ := h1 s t st he
  by_cases c : (p s).1 = true
  · rw [pA_t c, pA_t (e1 ▸ c)]
    obtain ⟨f1, f2, f3, f4⟩ := h2 (p s).2 (q t).2 e2 ⟨by omega, e4⟩
    exact ⟨f1, f2, by omega, f4⟩
  · rw [pA_f c, pA_f (e1 ▸ c)]
    exact ⟨rfl, e2, e3, e4⟩
theorem PQ_As {p q p2 q2 : Ps} (h1 : PQs e p q) (h2 : PQ e p2 q2) : PQs e (pA p p2) (pA q q2) := by
  intro s t st he
  refine ⟨PQ_A h1.w h2 s t st he, fun z => ?_⟩
  obtain ⟨⟨e1, e2, e3, e4⟩, e5⟩ := h1 s t st he
  by_cases c : (p s).1 = true
  · rw [pA_t c]
    obtain ⟨f1, f2, f3, f4⟩ := h2 (p s).2 (q t).2 e2 ⟨by omega, e4⟩
    have := e5 c
    omega
  · rw [pA_f c] at z
    exact ff z
theorem PQ_R (hK : HK K J e) {k : Int} (h25 : k ≠ 25) {p q : Ps} (h1 : PQs e p q) : ∀ (M n m : Nat) (s t : Pp), s.1 = t.1 → 0 ≤ s.1 ∧ s.1 ≤ e → e - s.1 ≤ M → M < n → M < m → Sq e s.1 (pR K k p n s) (pR J k q m t) := by
  intro M
  induction M with
  | zero =>
    intro n m s t st he hM hn hm
    obtain ⟨n, rfl⟩ : ∃ q, n = q + 1 := ⟨n - 1, by omega⟩
    obtain ⟨m, rfl⟩ : ∃ q, m = q + 1 := ⟨m - 1, by omega⟩
    have c : ¬ K s.1 = k := fun z => by have := hK.lt z h25 he.2; omega
    have hj := hK.j he.1 he.2
    simp only [pR]
    rw [← st, if_neg c, if_neg (fun z => c (hj.symm.trans z))]
    exact ⟨rfl, st, Int.le_refl _, he.2⟩
  | succ M ih =>
    intro n m s t st he hM hn hm
    obtain ⟨n, rfl⟩ : ∃ q, n = q + 1 := ⟨n - 1, by omega⟩
    obtain ⟨m, rfl⟩ : ∃ q, m = q + 1 := ⟨m - 1, by omega⟩
    simp only [pR]
    have hj := hK.j he.1 he.2
    rw [← st, hj]
    by_cases c : K s.1 = k
    · rw [if_pos c, if_pos c]
      obtain ⟨⟨e1, e2, e3, e4⟩, e5⟩ := h1 s t st he
      by_cases c2 : (p s).1 = true
      · have := e5 c2
        rw [if_pos c2, if_pos (e1 ▸ c2)]
        obtain ⟨f1, f2, f3, f4⟩ := ih n m (p s).2 (q t).2 e2 ⟨by omega, e4⟩ (by omega) (by omega) (by omega)
        exact ⟨f1, f2, by omega, f4⟩
      · rw [if_neg c2, if_neg (e1 ▸ c2)]
        exact ⟨rfl, e2, e3, e4⟩
    · rw [if_neg c, if_neg c]
      exact ⟨rfl, st, Int.le_refl _, he.2⟩
/-- a row with commas -/
theorem PQ_L (hK : HK K J e) {p q : Ps} (h1 : PQs e p q) : ∀ (M n m : Nat) (s t : Pp), s.1 = t.1 → 0 ≤ s.1 ∧ s.1 ≤ e → e - s.1 ≤ M → M ≤ n → M < m → Sq e s.1 (pA p (pR K 19 (pA (pT K 19) p) n) s) (qL J q m t) := by
  intro M
  induction M with
  | zero =>
    intro n m s t st he hM hn hm
    obtain ⟨m, rfl⟩ : ∃ q, m = q + 1 := ⟨m - 1, by omega⟩
    obtain ⟨⟨e1, e2, e3, e4⟩, e5⟩ := h1 s t st he
    have c : ¬ (p s).1 = true := fun z => by have := e5 z; omega
    simp only [qL]
    rw [pA_f c, if_neg (e1 ▸ c)]
    exact ⟨rfl, e2, e3, e4⟩
  | succ M ih =>
    intro n m s t st he hM hn hm
    obtain ⟨n, rfl⟩ : ∃ q, n = q + 1 := ⟨n - 1, by omega⟩
    obtain ⟨m, rfl⟩ : ∃ q, m = q + 1 := ⟨m - 1, by omega⟩
    obtain ⟨⟨e1, e2, e3, e4⟩, e5⟩ := h1 s t st he
    simp only [qL]
    by_cases c : (p s).1 = true
    · have h5 := e5 c
      rw [pA_t c, if_pos (e1 ▸ c)]
      simp only [pR]
      by_cases c2 : K (p s).2.1 = 19
      · have hlt := hK.lt c2 (by decide) e4
        have c3 : J (q t).2.1 = 19 := by rw [← e2, hK.j (by omega) e4]; exact c2
        rw [if_pos c2, show pT J 19 (q t).2 = (true, ((q t).2.1 + 1, (q t).2.2)) from if_pos c3, if_pos rfl]
        rw [show pA (pT K 19) p (p s).2 = p ((p s).2.1 + 1, (p s).2.2) from by rw [pA_t (by rw [show pT K 19 (p s).2 = (true, ((p s).2.1 + 1, (p s).2.2)) from if_pos c2]), show pT K 19 (p s).2 = (true, ((p s).2.1 + 1, (p s).2.2)) from if_pos c2]]
        obtain ⟨f1, f2, f3, f4⟩ := ih n m ((p s).2.1 + 1, (p s).2.2) ((q t).2.1 + 1, (q t).2.2) (by dsimp only; omega) ⟨by dsimp only; omega, by dsimp only; omega⟩ (by dsimp only; omega) (by omega) (by omega)
        have f3 : (p s).2.1 + 1 ≤ (pA p (pR K 19 (pA (pT K 19) p) n) ((p s).2.1 + 1, (p s).2.2)).2.1 := f3
        exact ⟨f1, f2, by show s.1 ≤ (pA p (pR K 19 (pA (pT K 19) p) n) ((p s).2.1 + 1, (p s).2.2)).2.1; omega, f4⟩
      · have c3 : ¬ J (q t).2.1 = 19 := by rw [← e2, hK.j (by omega) e4]; exact c2
        rw [if_neg c2, show pT J 19 (q t).2 = (false, (q t).2) from if_neg c3, if_neg (by exact fun z => ff z)]
        exact ⟨rfl, e2, e3, e4⟩
    · rw [pA_f c, if_neg (e1 ▸ c)]
      exact ⟨rfl, e2, e3, e4⟩
theorem PQ_O (hK : HK K J e) {k : Int} (h25 : k ≠ 25) {p q : Ps} (h : PQ e p q) : PQ e (pO K k (pA (pT K k) p)) (fun s => if (pT J k s).1 = true then q (pT J k s).2 else (true, s)) := by
  intro s t st he
  dsimp only
  have hj := hK.j he.1 he.2
  by_cases c : K s.1 = k
  · have hlt := hK.lt c h25 he.2
    rw [show pO K k (pA (pT K k) p) s = pA (pT K k) p s from if_pos c]
    have e1 : pT K k s = (true, (s.1 + 1, s.2)) := if_pos c
    have e2 : pT J k t = (true, (t.1 + 1, t.2)) := if_pos (by rw [← st, hj]; exact c)
    rw [pA_t (by rw [e1]), e1, e2, if_pos rfl]
    obtain ⟨f1, f2, f3, f4⟩ := h (s.1 + 1, s.2) (t.1 + 1, t.2) (by dsimp only; omega) ⟨by dsimp only; omega, by dsimp only; omega⟩
    exact ⟨f1, f2, by dsimp only at f3 ⊢; omega, f4⟩
  · rw [show pO K k (pA (pT K k) p) s = (true, s) from if_neg c, show pT J k t = (false, t) from if_neg (by rw [← st, hj]; exact c), if_neg (by exact fun z => ff z)]
    exact ⟨rfl, st, Int.le_refl _, he.2⟩
theorem PQ_tags (hK : HK K J e) : PQ e (pTags K) (qTags J) := by
  have h := PQ_O hK (k := 3) (by decide) (p := pA (pT K 22) (pR K 19 (pA (pT K 19) (pT K 22)) 1500)) (q := pA (pT J 22) (pR J 19 (pA (pT J 19) (pT J 22)) 1501)) ?_
  · intro s t st he
    have := h s t st he
    have e1 : pTags K s = pO K 3 (pA (pT K 3) (pA (pT K 22) (pR K 19 (pA (pT K 19) (pT K 22)) 1500))) s := by
      unfold pTags pO
      split
      · exact (pA_assoc _ _ _ _).symm
      · rfl
    rw [e1]; exact this
  · intro s t st he
    obtain ⟨⟨e1, e2, e3, e4⟩, e5⟩ := PQ_T hK (k := 22) (by decide) s t st he
    by_cases c : (pT K 22 s).1 = true
    · rw [pA_t c, pA_t (e1 ▸ c)]
      have h5 := e5 c
      by_cases c2 : K (pT K 22 s).2.1 = 19
      · have hlt := hK.lt c2 (by decide) e4
        obtain ⟨f1, f2, f3, f4⟩ := PQ_R hK (k := 19) (by decide) (PQ_As (PQ_T hK (k := 19) (by decide)) (PQ_T hK (k := 22) (by decide)).w) 1499 1500 1501 (pT K 22 s).2 (pT J 22 t).2 e2 ⟨by omega, e4⟩ (by have := hK.1.2; omega) (by omega) (by omega)
        exact ⟨f1, f2, by omega, f4⟩
      · rw [show pR K 19 (pA (pT K 19) (pT K 22)) 1500 (pT K 22 s).2 = (true, (pT K 22 s).2) from if_neg c2, show pR J 19 (pA (pT J 19) (pT J 22)) 1501 (pT J 22 t).2 = (true, (pT J 22 t).2) from if_neg (by rw [← e2, hK.j (by omega) e4]; exact c2)]
        exact ⟨rfl, e2, e3, e4⟩
    · rw [pA_f c, pA_f (e1 ▸ c)]
      exact ⟨rfl, e2, e3, e4⟩
theorem PQ_ex (hK : HK K J e) : PQs e (pEx K) (qEx J) := by
  intro s t st he
  have h := Sm_E (cf := s.1) he.1 hK (Sm_one he.1 hK 8) s.1 (Int.le_refl _) (by omega) he.2
  rw [show s.1 - s.1 = 0 from by omega] at h
  have e2 : qEx J t = rAny J (rOne J 8) (s.1, s.1) := by rw [st]; rfl
  rw [e2, show pEx K s = pE K (pOne K 8) (s.1, 0) from rfl]
  exact ⟨⟨h.1, h.2.1, h.2.2.2.2.1, h.2.2.2.2.2.2.1⟩, h.2.2.2.2.2.2.2⟩
theorem PQ_part (hK : HK K J e) : PQs e (pPart K) (qPart J) := by
  refine PQ_As (PQ_T hK (by decide)) (fun s t st he => ?_)
  have hj := hK.j he.1 he.2
  by_cases c : K s.1 = 4
  · have hlt := hK.lt c (by decide) he.2
    have e1 : pO K 4 (pT K 4) s = (true, (s.1 + 1, s.2)) := (if_pos c).trans (if_pos c)
    rw [pA_t (by rw [e1]), e1, show pT J 4 t = (true, (t.1 + 1, t.2)) from if_pos (by rw [← st, hj]; exact c)]
    obtain ⟨⟨f1, f2, f3, f4⟩, -⟩ := PQ_T hK (k := 22) (by decide) (s.1 + 1, s.2) (t.1 + 1, t.2) (by dsimp only; omega) ⟨by dsimp only; omega, by dsimp only; omega⟩
    exact ⟨f1, f2, by dsimp only at f3 ⊢; omega, f4⟩
  · have e1 : pO K 4 (pT K 4) s = (true, s) := if_neg c
    rw [pA_t (by rw [e1]), e1, show pT J 4 t = (false, t) from if_neg (by rw [← st, hj]; exact c)]
    exact (PQ_T hK (k := 22) (by decide) s t st he).1
theorem PQ_food (hK : HK K J e) : PQs e (pFood K) (pA (pT J 0) (qFood J)) := by
  have hT := fun (k : Int) (h : k ≠ 25) => PQ_T (e := e) hK h
  exact PQ_As (hT 0 (by decide)) (PQ_A (hT 22 (by decide)).w (PQ_A (hT 23 (by decide)).w (PQ_A (PQ_O hK (by decide) (hT 23 (by decide)).w) (PQ_A (PQ_tags hK) (hT 17 (by decide)).w))))
theorem PQ_row (hK : HK K J e) {p q : Ps} (h : PQs e p q) : PQ e (pA p (pR K 19 (pA (pT K 19) p) 1500)) (qL J q 1501) := fun s t st he =>
  PQ_L hK h 1500 1500 1501 s t st he (by have := hK.1.2; omega) (by omega) (by omega)
theorem PQ_dish (hK : HK K J e) : PQs e (pDish K) (pA (pT J 1) (qDish J)) := by
  have hT := fun (k : Int) (h : k ≠ 25) => PQ_T (e := e) hK h
  have e1 : pDish K = pA (pT K 1) (pA (pT K 22) (pA (pT K 2) (pA (pT K 23) (pA (pT K 18) (pA (pA (pPart K) (pR K 19 (pA (pT K 19) (pPart K)) 1500)) (pA (pTags K) (pT K 17))))))) := by
    unfold pDish
    simp only [← pA_as]
  rw [e1]
  exact PQ_As (hT 1 (by decide)) (PQ_A (hT 22 (by decide)).w (PQ_A (hT 2 (by decide)).w (PQ_A (hT 23 (by decide)).w (PQ_A (hT 18 (by decide)).w (PQ_A (PQ_row hK (PQ_part hK)) (PQ_A (PQ_tags hK) (hT 17 (by decide)).w))))))
theorem PQ_meal (hK : HK K J e) : PQs e (pMeal K) (pA (pT J 5) (qMeal J)) := by
  have hT := fun (k : Int) (h : k ≠ 25) => PQ_T (e := e) hK h
  have e1 : pMeal K = pA (pT K 5) (pA (pT K 22) (pA (pT K 18) (pA (pA (pEx K) (pR K 19 (pA (pT K 19) (pEx K)) 1500)) (pT K 17)))) := by
    unfold pMeal
    simp only [← pA_as]
  rw [e1]
  exact PQ_As (hT 5 (by decide)) (PQ_A (hT 22 (by decide)).w (PQ_A (hT 18 (by decide)).w (PQ_A (PQ_row hK (PQ_ex hK)) (hT 17 (by decide)).w)))
theorem PQ_rule (hK : HK K J e) : PQs e (pRule K) (pA (pT J 6) (pA (qRule J) (pT J 17))) := by
  have hT := fun (k : Int) (h : k ≠ 25) => PQ_T (e := e) hK h
  refine PQ_As (hT 6 (by decide)) (fun s t st he => ?_)
  have hj := hK.j he.1 he.2
  have go : ∀ (k : Int) (p q : Ps), k ≠ 25 → PQ e p (pA q (pT J 17)) → K s.1 = k → qRule J t = q (pT J k t).2 → Sq e s.1 (pA (pT K k) p s) (pA (qRule J) (pT J 17) t) := by
    intro k p q k0 hpq kk hq
    have hlt := hK.lt kk k0 he.2
    have e2 : pT J k t = (true, (t.1 + 1, t.2)) := if_pos (by rw [← st, hj]; exact kk)
    have e1 : pT K k s = (true, (s.1 + 1, s.2)) := if_pos kk
    rw [pA_t (by rw [e1]), e1]
    have e3 : pA (qRule J) (pT J 17) t = pA q (pT J 17) (t.1 + 1, t.2) := by
      unfold pA
      rw [hq, e2]
    rw [e3]
    obtain ⟨f1, f2, f3, f4⟩ := hpq (s.1 + 1, s.2) (t.1 + 1, t.2) (by dsimp only; omega) ⟨by dsimp only; omega, by dsimp only; omega⟩
    exact ⟨f1, f2, by dsimp only at f3 ⊢; omega, f4⟩
  have hsp : PQ e (pSpan K) (pA (qSpan J) (pT J 17)) := by
    have e1 : pA (qSpan J) (pT J 17) = pSpan J := by
      unfold qSpan pSpan
      simp only [← pA_as]
    rw [e1]
    exact PQ_A (hT 23 (by decide)).w (PQ_A (hT 22 (by decide)).w (PQ_A (hT 10 (by decide)).w (PQ_A (hT 23 (by decide)).w (hT 17 (by decide)).w)))
  have ht : ∀ k, J t.1 = k ↔ K s.1 = k := fun k => by rw [← st, hj]
  have T1 : ∀ k, K s.1 = k → (pT J k t).1 = true := fun k h => by rw [show pT J k t = (true, (t.1 + 1, t.2)) from if_pos ((ht k).mpr h)]
  have T0 : ∀ k, ¬ K s.1 = k → ¬ (pT J k t).1 = true := fun k h => by rw [show pT J k t = (false, t) from if_neg (fun z => h ((ht k).mp z))]; exact fun z => ff z
  by_cases c7 : K s.1 = 7
  · rw [if_pos c7]
    refine go 7 _ (pA (pT J 23) (pT J 22)) (by decide) ?_ c7 (by unfold qRule; rw [if_pos (T1 7 c7)])
    have e1 : pA (pA (pT J 23) (pT J 22)) (pT J 17) = pA (pT J 23) (pA (pT J 22) (pT J 17)) := funext fun s => (pA_assoc _ _ _ _).symm
    rw [e1]
    exact PQ_A (hT 23 (by decide)).w (PQ_A (hT 22 (by decide)).w (hT 17 (by decide)).w)
  · rw [if_neg c7]
    by_cases c8 : K s.1 = 8
    · rw [if_pos c8]
      exact go 8 _ (qSpan J) (by decide) hsp c8 (by unfold qRule; rw [if_neg (T0 7 c7), if_neg (T0 11 (by omega)), if_pos (T1 8 c8)])
    · rw [if_neg c8]
      by_cases c9 : K s.1 = 9
      · rw [if_pos c9]
        exact go 9 _ (qSpan J) (by decide) hsp c9 (by unfold qRule; rw [if_neg (T0 7 c7), if_neg (T0 11 (by omega)), if_neg (T0 8 c8), if_pos (T1 9 c9)])
      · rw [if_neg c9]
        by_cases c11 : K s.1 = 11
        · refine go 11 _ (pA (pT J 23) (pA (pT J 12) (pT J 23))) (by decide) ?_ c11 (by unfold qRule; rw [if_neg (T0 7 c7), if_pos (T1 11 c11)])
          have e1 : pA (pA (pT J 23) (pA (pT J 12) (pT J 23))) (pT J 17) = pA (pT J 23) (pA (pT J 12) (pA (pT J 23) (pT J 17))) := by
            simp only [← pA_as]
          rw [e1]
          exact PQ_A (hT 23 (by decide)).w (PQ_A (hT 12 (by decide)).w (PQ_A (hT 23 (by decide)).w (hT 17 (by decide)).w))
        · have e1 : pT K 11 s = (false, s) := if_neg c11
          have e2 : qRule J t = (false, t) := by unfold qRule; rw [if_neg (T0 7 c7), if_neg (T0 11 c11), if_neg (T0 8 c8), if_neg (T0 9 c9)]
          rw [pA_f (by rw [e1]; exact fun z => ff z), e1, pA_f (by rw [e2]; exact fun z => ff z), e2]
          exact ⟨rfl, st, Int.le_refl _, he.2⟩
theorem qItem_e (s : Pp) : qItem K s = if K s.1 = 0 then pA (pT K 0) (qFood K) s else if K s.1 = 1 then pA (pT K 1) (qDish K) s else if K s.1 = 5 then pA (pT K 5) (qMeal K) s else if K s.1 = 6 then pA (pT K 6) (pA (qRule K) (pT K 17)) s else (false, s) := by
  have T1 : ∀ k, K s.1 = k → (pT K k s).1 = true := fun k h => by rw [show pT K k s = (true, (s.1 + 1, s.2)) from if_pos h]
  have T0 : ∀ k, ¬ K s.1 = k → ¬ (pT K k s).1 = true := fun k h => by rw [show pT K k s = (false, s) from if_neg h]; exact fun z => ff z
  unfold qItem
  by_cases c0 : K s.1 = 0
  · rw [if_pos (T1 0 c0), if_pos c0, pA_t (T1 0 c0)]
  · rw [if_neg (T0 0 c0), if_neg c0]
    by_cases c1 : K s.1 = 1
    · rw [if_pos (T1 1 c1), if_pos c1, pA_t (T1 1 c1)]
    · rw [if_neg (T0 1 c1), if_neg c1]
      by_cases c5 : K s.1 = 5
      · rw [if_pos (T1 5 c5), if_pos c5, pA_t (T1 5 c5)]
      · rw [if_neg (T0 5 c5), if_neg c5]
        by_cases c6 : K s.1 = 6
        · rw [if_pos (T1 6 c6), if_pos c6, pA_t (T1 6 c6)]
        · rw [if_neg (T0 6 c6), if_neg c6]
theorem PQ_item (hK : HK K J e) : PQs e (pItem K) (qItem J) := by
  intro s t st he
  rw [qItem_e]
  unfold pItem
  rw [← st, hK.j he.1 he.2]
  by_cases c0 : K s.1 = 0
  · rw [if_pos c0, if_pos c0]; exact PQ_food hK s t st he
  · rw [if_neg c0, if_neg c0]
    by_cases c1 : K s.1 = 1
    · rw [if_pos c1, if_pos c1]; exact PQ_dish hK s t st he
    · rw [if_neg c1, if_neg c1]
      by_cases c5 : K s.1 = 5
      · rw [if_pos c5, if_pos c5]; exact PQ_meal hK s t st he
      · rw [if_neg c5, if_neg c5]
        by_cases c6 : K s.1 = 6
        · rw [if_pos c6, if_pos c6]; exact PQ_rule hK s t st he
        · rw [if_neg c6, if_neg c6]
          exact ⟨⟨rfl, st, Int.le_refl _, he.2⟩, fun z => ff z⟩
theorem PQ_prog (hK : HK K J e) : ∀ (M n m : Nat) (s t : Pp), s.1 = t.1 → 0 ≤ s.1 ∧ s.1 ≤ e → e - s.1 ≤ M → M < n → M < m → Sq e s.1 (pQ K n true s) (qProg J m t) := by
  intro M
  induction M with
  | zero =>
    intro n m s t st he hM hn hm
    obtain ⟨n, rfl⟩ : ∃ q, n = q + 1 := ⟨n - 1, by omega⟩
    obtain ⟨m, rfl⟩ : ∃ q, m = q + 1 := ⟨m - 1, by omega⟩
    obtain ⟨⟨e1, e2, e3, e4⟩, e5⟩ := PQ_item hK s t st he
    have c : ¬ (pItem K s).1 = true := fun z => by have := e5 z; omega
    simp only [pQ, qProg]
    rw [if_pos (Or.inl trivial), if_neg c, if_neg (e1 ▸ c)]
    exact ⟨rfl, e2, e3, e4⟩
  | succ M ih =>
    intro n m s t st he hM hn hm
    obtain ⟨n, rfl⟩ : ∃ q, n = q + 1 := ⟨n - 1, by omega⟩
    obtain ⟨m, rfl⟩ : ∃ q, m = q + 1 := ⟨m - 1, by omega⟩
    obtain ⟨⟨e1, e2, e3, e4⟩, e5⟩ := PQ_item hK s t st he
    simp only [pQ, qProg]
    rw [if_pos (Or.inl trivial)]
    by_cases c : (pItem K s).1 = true
    · have h5 := e5 c
      rw [if_pos c, if_pos (e1 ▸ c), ← e2, hK.j (by omega) e4]
      by_cases c2 : K (pItem K s).2.1 = 25
      · rw [if_pos c2]
        have e6 : pQ K n false (pItem K s).2 = (true, (pItem K s).2) := by
          cases n with
          | zero => rfl
          | succ n => exact if_neg (fun z => z.elim (fun z => ff z) (fun z => z c2))
        rw [e6]
        exact ⟨rfl, e2, e3, e4⟩
      · rw [if_neg c2]
        obtain ⟨n, rfl⟩ : ∃ q, n = q + 1 := ⟨n - 1, by omega⟩
        have e6 : pQ K (n + 1) false (pItem K s).2 = pQ K (n + 1) true (pItem K s).2 := by
          simp only [pQ]
          rw [if_pos (Or.inr c2), if_pos (Or.inl trivial)]
        rw [e6]
        obtain ⟨f1, f2, f3, f4⟩ := ih (n + 1) m (pItem K s).2 (qItem J t).2 e2 ⟨by omega, e4⟩ (by omega) (by omega) (by omega)
        exact ⟨f1, f2, by omega, f4⟩
    · rw [if_neg c, if_neg (e1 ▸ c)]
      exact ⟨rfl, e2, e3, e4⟩
end S59
