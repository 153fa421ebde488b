/-! what a right form says of the tokens -/
section S35
def TgC (K : Int → Int) : Nat → Int → Int → Prop
  | 0, a, b => b = a ∧ K b ≠ 19
  | n + 1, a, b => K a = 19 ∧ K (a + 1) = 22 ∧ TgC K n (a + 2) b
def TgO (K : Int → Int) (a b : Int) : Prop := (K a ≠ 3 ∧ b = a) ∨ (K a = 3 ∧ K (a + 1) = 22 ∧ ∃ n, TgC K n (a + 2) b)
def FdO (K : Int → Int) (a b : Int) : Prop := K a = 22 ∧ K (a + 1) = 23 ∧ ((K (a + 2) = 16 ∧ K (a + 3) = 23 ∧ TgO K (a + 4) b) ∨ (K (a + 2) ≠ 16 ∧ TgO K (a + 2) b)) ∧ K b = 17
def PtO (K : Int → Int) (a b : Int) : Prop := K a = 23 ∧ ((K (a + 1) = 4 ∧ K (a + 2) = 22 ∧ b = a + 3) ∨ (K (a + 1) = 22 ∧ b = a + 2))
def LsC (K : Int → Int) (P : Int → Int → Prop) : Nat → Int → Int → Prop
  | 0, a, b => P a b ∧ K b ≠ 19
  | n + 1, a, b => ∃ c, P a c ∧ K c = 19 ∧ LsC K P n (c + 1) b
def DsO (K : Int → Int) (a b : Int) : Prop := K a = 22 ∧ K (a + 1) = 2 ∧ K (a + 2) = 23 ∧ K (a + 3) = 18 ∧ ∃ n c, LsC K (PtO K) n (a + 4) c ∧ TgO K c b ∧ K b = 17
def ChO (K : Int → Int) (a b : Int) : Prop := (rAny K (rOne K 8) (a, a)).1 = true ∧ (rAny K (rOne K 8) (a, a)).2.1 = b
def MlO (K : Int → Int) (a b : Int) : Prop := K a = 22 ∧ K (a + 1) = 18 ∧ ∃ n, LsC K (ChO K) n (a + 2) b ∧ K b = 17
def RlO (K : Int → Int) (a b : Int) : Prop := ((K a = 7 ∧ K (a + 1) = 23 ∧ K (a + 2) = 22 ∧ b = a + 3) ∨ (K a = 11 ∧ K (a + 1) = 23 ∧ K (a + 2) = 12 ∧ K (a + 3) = 23 ∧ b = a + 4) ∨ ((K a = 8 ∨ K a = 9) ∧ K (a + 1) = 23 ∧ K (a + 2) = 22 ∧ K (a + 3) = 10 ∧ K (a + 4) = 23 ∧ b = a + 5)) ∧ K b = 17
def ItO (K : Int → Int) (a b : Int) : Prop := (K a = 0 ∧ FdO K (a + 1) b) ∨ (K a = 1 ∧ DsO K (a + 1) b) ∨ (K a = 5 ∧ MlO K (a + 1) b) ∨ (K a = 6 ∧ RlO K (a + 1) b)
def PgL (K : Int → Int) : Nat → Int → Prop
  | 0, a => ∃ b, ItO K a b ∧ K (b + 1) = 25
  | n + 1, a => ∃ b, ItO K a b ∧ K (b + 1) ≠ 25 ∧ PgL K n (b + 1)
theorem pA_ok {p q : Ps} {s : Pp} (h : (pA p q s).1 = true) : (p s).1 = true ∧ (q (p s).2).1 = true ∧ (pA p q s).2 = (q (p s).2).2 := by
  unfold pA at h ⊢
  split
  · rename_i c; rw [if_pos c] at h; exact ⟨c, h, rfl⟩
  · rename_i c; rw [if_neg c] at h; cases h
theorem pTA_ok {K : Int → Int} {k : Int} {q : Ps} {s : Pp} (h : (pA (pT K k) q s).1 = true) : K s.1 = k ∧ (q (s.1 + 1, s.2)).1 = true ∧ (pA (pT K k) q s).2 = (q (s.1 + 1, s.2)).2 := by
  obtain ⟨h1, h2, h3⟩ := pA_ok h
  obtain ⟨h4, h5⟩ := pT_ok h1
  rw [h5] at h2 h3
  exact ⟨h4, h2, h3⟩
theorem pR_ok {K : Int → Int} {e : Int} (hE : K e = 25) : ∀ (n : Nat) (s : Pp), bd e s → e - s.1 < n → (pR K 19 (pA (pT K 19) (pT K 22)) n s).1 = true → ∃ m b, TgC K m s.1 b ∧ (pR K 19 (pA (pT K 19) (pT K 22)) n s).2 = (b, s.2)
  | 0, s, hs, hn, h => by have := hs.1; omega
  | n + 1, s, hs, hn, h => by
    simp only [pR] at h ⊢
    split
    · rename_i c
      rw [if_pos c] at h
      by_cases c2 : (pA (pT K 19) (pT K 22) s).1 = true
      · rw [if_pos c2] at h ⊢
        have hq := gF_A (gT_T (k := 19) hE (by decide)).f (gT_T (k := 22) hE (by decide)).f s hs
        obtain ⟨h1, h2, h3⟩ := pTA_ok c2
        obtain ⟨h4, h5⟩ := pT_ok h2
        rw [h5] at h3
        have e1 : (pA (pT K 19) (pT K 22) s).2 = (s.1 + 2, s.2) := by rw [h3]; exact congrArg (fun z => (z, s.2)) (by show s.1 + 1 + 1 = s.1 + 2; omega)
        rw [e1] at h hq ⊢
        obtain ⟨m, b, h6, h7⟩ := pR_ok hE n (s.1 + 2, s.2) hq.1 (by show e - (s.1 + 2) < n; omega) h
        exact ⟨m + 1, b, ⟨h1, h4, h6⟩, h7⟩
      · rw [if_neg c2] at h; cases h
    · rename_i c
      exact ⟨0, s.1, ⟨rfl, c⟩, rfl⟩
theorem qTags_ok {K : Int → Int} {e : Int} (hE : K e = 25) (he : e ≤ 1500) {s : Pp} (hs : bd e s) (h : (qTags K s).1 = true) : ∃ b, TgO K s.1 b ∧ (qTags K s).2 = (b, s.2) := by
  have h3 := gT_T (k := 3) hE (by decide) s hs
  unfold qTags at h ⊢
  split
  · rename_i c
    rw [if_pos c] at h
    obtain ⟨c1, c2⟩ := pT_ok c
    rw [c2] at h h3 ⊢
    obtain ⟨h1, h2, h4⟩ := pTA_ok h
    have h22 := gT_T (k := 22) hE (by decide) _ h3.1
    have e2 : (pT K 22 (s.1 + 1, s.2)).2 = (s.1 + 1 + 1, s.2) := by unfold pT; rw [if_pos h1]
    rw [e2] at h22
    obtain ⟨m, b, h6, h7⟩ := pR_ok hE 1501 _ h22.1 (by have := h22.1.1.1; omega) h2
    refine ⟨b, Or.inr ⟨c1, h1, m, ?_⟩, h4.trans h7⟩
    have e3 : s.1 + 1 + 1 = s.1 + 2 := by omega
    rw [← e3]; exact h6
  · rename_i c
    refine ⟨s.1, Or.inl ⟨fun z => c ?_, rfl⟩, rfl⟩
    unfold pT; rw [if_pos z]
theorem qL_ok {K : Int → Int} {e : Int} {q : Ps} {P : Int → Int → Prop} (hE : K e = 25) (hq : gF e q) (hP : ∀ s, bd e s → (q s).1 = true → P s.1 (q s).2.1) : ∀ (n : Nat) (s : Pp), bd e s → e - s.1 < n → (qL K q n s).1 = true → ∃ m, LsC K P m s.1 (qL K q n s).2.1
  | 0, s, hs, hn, h => by have := hs.1; omega
  | n + 1, s, hs, hn, h => by
    have h1 := hq s hs
    have h19 := gT_T (k := 19) hE (by decide) _ h1.1
    simp only [qL] at h ⊢
    by_cases c : (q s).1 = true
    · rw [if_pos c] at h ⊢
      by_cases c2 : (pT K 19 (q s).2).1 = true
      · rw [if_pos c2] at h ⊢
        obtain ⟨h2, h3⟩ := pT_ok c2
        have h4 := h19.2.2 c2
        obtain ⟨m, hm⟩ := qL_ok hE hq hP n _ h19.1 (by omega) h
        refine ⟨m + 1, (q s).2.1, hP s hs c, h2, ?_⟩
        rw [h3] at hm ⊢
        exact hm
      · rw [if_neg c2]
        refine ⟨0, hP s hs c, fun z => c2 ?_⟩
        unfold pT; rw [if_pos z]
    · rw [if_neg c] at h; cases h
theorem qPart_ok {K : Int → Int} {s : Pp} (h : (qPart K s).1 = true) : PtO K s.1 (qPart K s).2.1 := by
  unfold qPart at h ⊢
  obtain ⟨h1, h2, h3⟩ := pTA_ok h
  rw [h3]
  refine ⟨h1, ?_⟩
  by_cases c : K (s.1 + 1) = 4
  · have e1 : (pT K 4 (s.1 + 1, s.2)).2 = (s.1 + 1 + 1, s.2) := by unfold pT; rw [if_pos c]
    simp only [e1] at h2 ⊢
    obtain ⟨h4, h5⟩ := pT_ok h2
    rw [h5]
    exact Or.inl ⟨c, by rw [← h4]; exact congrArg K (by show s.1 + 2 = s.1 + 1 + 1; omega), by show s.1 + 1 + 1 + 1 = s.1 + 3; omega⟩
  · have e1 : (pT K 4 (s.1 + 1, s.2)).2 = (s.1 + 1, s.2) := by unfold pT; rw [if_neg c]
    simp only [e1] at h2 ⊢
    obtain ⟨h4, h5⟩ := pT_ok h2
    rw [h5]
    exact Or.inr ⟨h4, by show s.1 + 1 + 1 = s.1 + 2; omega⟩
theorem bd_1 {K : Int → Int} {e k : Int} (hE : K e = 25) (hk : k ≠ 25) {s : Pp} (hs : bd e s) (h : K s.1 = k) : bd e (s.1 + 1, s.2) := by
  have h1 := (gT_T hE hk s hs).1
  have e1 : (pT K k s).2 = (s.1 + 1, s.2) := by unfold pT; rw [if_pos h]
  rw [e1] at h1; exact h1
theorem two {a b : Int} (h : a = b) (K : Int → Int) {k : Int} (hk : K a = k) : K b = k := by rw [← h]; exact hk
theorem qFood_ok {K : Int → Int} {e : Int} (hE : K e = 25) (he : e ≤ 1500) {s : Pp} (hs : bd e s) (h : (qFood K s).1 = true) : ∃ b, FdO K s.1 b ∧ (qFood K s).2 = (b + 1, s.2) := by
  unfold qFood at h ⊢
  obtain ⟨h1, h2, h3⟩ := pTA_ok h
  obtain ⟨h4, h5, h6⟩ := pTA_ok h2
  obtain ⟨h7, h8, h9⟩ := pA_ok h5
  have b1 := bd_1 hE (by decide) hs h1
  have b2 := bd_1 hE (by decide) b1 h4
  have i1 : s.1 + 1 + 1 = s.1 + 2 := by omega
  rw [h3, h6, h9]
  rw [i1] at h7 h8 b2 ⊢
  obtain ⟨h10, h11, h12⟩ := pA_ok h8
  rw [h12]
  by_cases c : K (s.1 + 2) = 16
  · have e1 : pT K 16 (s.1 + 2, s.2) = (true, (s.1 + 3, s.2)) := by unfold pT; rw [if_pos c]; exact congrArg (fun z => (true, (z, s.2))) (by show s.1 + 2 + 1 = s.1 + 3; omega)
    have e2 : qPrice K (s.1 + 2, s.2) = pT K 23 (s.1 + 3, s.2) := by unfold qPrice; rw [e1]; rfl
    rw [e2] at h7 h10 h11 ⊢
    obtain ⟨h13, h14⟩ := pT_ok h7
    have b3 := bd_1 hE (by decide) b2 c
    have i2 : s.1 + 2 + 1 = s.1 + 3 := by omega
    have i3 : s.1 + 3 + 1 = s.1 + 4 := by omega
    have b3 : bd e (s.1 + 3, s.2) := by rw [← i2]; exact b3
    have b4 := bd_1 hE (by decide) b3 h13
    rw [h14] at h10 h11 ⊢
    have b4 : bd e (s.1 + 3 + 1, s.2) := b4
    obtain ⟨b, h15, h16⟩ := qTags_ok hE he b4 h10
    rw [h16] at h11 ⊢
    obtain ⟨h17, h18⟩ := pT_ok h11
    refine ⟨b, ⟨h1, h4, Or.inl ⟨c, h13, ?_⟩, h17⟩, h18⟩
    have h15 : TgO K (s.1 + 3 + 1) b := h15
    rw [i3] at h15; exact h15
  · have e1 : (pT K 16 (s.1 + 2, s.2)).1 = false := by unfold pT; rw [if_neg c]
    have e2 : qPrice K (s.1 + 2, s.2) = (true, (s.1 + 2, s.2)) := by unfold qPrice; rw [e1]; rfl
    rw [e2] at h10 h11 ⊢
    obtain ⟨b, h15, h16⟩ := qTags_ok hE he b2 h10
    rw [h16] at h11 ⊢
    obtain ⟨h17, h18⟩ := pT_ok h11
    exact ⟨b, ⟨h1, h4, Or.inr ⟨c, h15⟩, h17⟩, h18⟩
theorem qDish_ok {K : Int → Int} {e : Int} (hE : K e = 25) (he : e ≤ 1500) {s : Pp} (hs : bd e s) (h : (qDish K s).1 = true) : ∃ b, DsO K s.1 b ∧ (qDish K s).2.1 = b + 1 := by
  unfold qDish at h ⊢
  obtain ⟨h1, h2, h3⟩ := pTA_ok h
  have b1 := bd_1 hE (by decide) hs h1
  obtain ⟨h4, h5, h6⟩ := pTA_ok h2
  have b2 := bd_1 hE (by decide) b1 h4
  obtain ⟨h7, h8, h9⟩ := pTA_ok h5
  have b3 := bd_1 hE (by decide) b2 h7
  obtain ⟨h10, h11, h12⟩ := pTA_ok h8
  have b4 := bd_1 hE (by decide) b3 h10
  obtain ⟨h13, h14, h15⟩ := pA_ok h11
  rw [h3, h6, h9, h12, h15]
  have hL := gF_L hE (gF_Part hE) 1501 _ b4
  obtain ⟨m, hm⟩ := qL_ok hE (gF_Part hE) (fun s _ h => qPart_ok h) 1501 _ b4 (by have := b4.1.1; omega) h13
  obtain ⟨h16, h17, h18⟩ := pA_ok h14
  obtain ⟨b, h19, h20⟩ := qTags_ok hE he hL.1 h16
  rw [h20] at h17
  obtain ⟨h21, h22⟩ := pT_ok h17
  rw [h18, h20, h22]
  refine ⟨b, ⟨h1, h4, two (by show s.1 + 1 + 1 = s.1 + 2; omega) K h7, two (by show s.1 + 1 + 1 + 1 = s.1 + 3; omega) K h10, m, _, ?_, h19, h21⟩, rfl⟩
  have e4 : s.1 + 1 + 1 + 1 + 1 = s.1 + 4 := by omega
  rw [← e4]
  exact hm
theorem qMeal_ok {K : Int → Int} {e : Int} (hE : K e = 25) (he : e ≤ 1500) {s : Pp} (hs : bd e s) (h : (qMeal K s).1 = true) : ∃ b, MlO K s.1 b ∧ (qMeal K s).2.1 = b + 1 := by
  unfold qMeal at h ⊢
  obtain ⟨h1, h2, h3⟩ := pTA_ok h
  have b1 := bd_1 hE (by decide) hs h1
  obtain ⟨h4, h5, h6⟩ := pTA_ok h2
  have b2 := bd_1 hE (by decide) b1 h4
  obtain ⟨h7, h8, h9⟩ := pA_ok h5
  rw [h3, h6, h9]
  obtain ⟨m, hm⟩ := qL_ok hE (gF_Ex hE he) (P := ChO K) (fun s _ h => ⟨h, rfl⟩) 1501 _ b2 (by have := b2.1.1; omega) h7
  obtain ⟨h10, h11⟩ := pT_ok h8
  rw [h11]
  refine ⟨_, ⟨h1, h4, m, ?_, h10⟩, rfl⟩
  have e2 : s.1 + 1 + 1 = s.1 + 2 := by omega
  rw [← e2]
  exact hm
theorem qSpan_ok {K : Int → Int} {s : Pp} (h : (qSpan K s).1 = true) : K s.1 = 23 ∧ K (s.1 + 1) = 22 ∧ K (s.1 + 2) = 10 ∧ K (s.1 + 3) = 23 ∧ (qSpan K s).2.1 = s.1 + 4 := by
  unfold qSpan at h ⊢
  obtain ⟨h1, h2, h3⟩ := pTA_ok h
  obtain ⟨h4, h5, h6⟩ := pTA_ok h2
  obtain ⟨h7, h8, h9⟩ := pTA_ok h5
  obtain ⟨h10, h11⟩ := pT_ok h8
  rw [h3, h6, h9, h11]
  exact ⟨h1, h4, two (by show s.1 + 1 + 1 = s.1 + 2; omega) K h7, two (by show s.1 + 1 + 1 + 1 = s.1 + 3; omega) K h10, by show s.1 + 1 + 1 + 1 + 1 = s.1 + 4; omega⟩
theorem qRule_ok {K : Int → Int} {s : Pp} (h : (pA (qRule K) (pT K 17) s).1 = true) : ∃ b, RlO K s.1 b ∧ (pA (qRule K) (pT K 17) s).2.1 = b + 1 := by
  obtain ⟨h1, h2, h3⟩ := pA_ok h
  obtain ⟨h4, h5⟩ := pT_ok h2
  rw [h3, h5]
  refine ⟨(qRule K s).2.1, ⟨?_, h4⟩, rfl⟩
  unfold qRule at h1 ⊢
  split
  · rename_i c
    rw [if_pos c] at h1
    obtain ⟨c1, c2⟩ := pT_ok c
    rw [c2] at h1 ⊢
    obtain ⟨a1, a2, a3⟩ := pTA_ok h1
    obtain ⟨a4, a5⟩ := pT_ok a2
    rw [a3, a5]
    exact Or.inl ⟨c1, a1, two (by show s.1 + 1 + 1 = s.1 + 2; omega) K a4, by show s.1 + 1 + 1 + 1 = s.1 + 3; omega⟩
  · rename_i c
    rw [if_neg c] at h1
    split
    · rename_i d
      rw [if_pos d] at h1
      obtain ⟨c1, c2⟩ := pT_ok d
      rw [c2] at h1 ⊢
      obtain ⟨a1, a2, a3⟩ := pTA_ok h1
      obtain ⟨a4, a5, a6⟩ := pTA_ok a2
      obtain ⟨a7, a8⟩ := pT_ok a5
      rw [a3, a6, a8]
      exact Or.inr (Or.inl ⟨c1, a1, two (by show s.1 + 1 + 1 = s.1 + 2; omega) K a4, two (by show s.1 + 1 + 1 + 1 = s.1 + 3; omega) K a7, by show s.1 + 1 + 1 + 1 + 1 = s.1 + 4; omega⟩)
    · rename_i d
      rw [if_neg d] at h1
      have fin : ∀ k : Int, (k = 8 ∨ k = 9) → (pT K k s).1 = true → (qSpan K (pT K k s).2).1 = true → (K s.1 = 8 ∨ K s.1 = 9) ∧ K (s.1 + 1) = 23 ∧ K (s.1 + 2) = 22 ∧ K (s.1 + 3) = 10 ∧ K (s.1 + 4) = 23 ∧ (qSpan K (pT K k s).2).2.1 = s.1 + 5 := by
        intro k hk g h1
        obtain ⟨c1, c2⟩ := pT_ok g
        rw [c2] at h1 ⊢
        obtain ⟨a1, a2, a3, a4, a5⟩ := qSpan_ok h1
        refine ⟨by omega, a1, two (by show s.1 + 1 + 1 = s.1 + 2; omega) K a2, two (by show s.1 + 1 + 2 = s.1 + 3; omega) K a3, two (by show s.1 + 1 + 3 = s.1 + 4; omega) K a4, ?_⟩
        rw [a5]; show s.1 + 1 + 4 = s.1 + 5; omega
      split
      · rename_i g
        rw [if_pos g] at h1
        exact Or.inr (Or.inr (fin 8 (Or.inl rfl) g h1))
      · rename_i g
        rw [if_neg g] at h1
        split
        · rename_i g2
          rw [if_pos g2] at h1
          exact Or.inr (Or.inr (fin 9 (Or.inr rfl) g2 h1))
        · rename_i g2
          rw [if_neg g2] at h1; cases h1
theorem qItem_ok {K : Int → Int} {e : Int} (hE : K e = 25) (he : e ≤ 1500) {s : Pp} (hs : bd e s) (h : (qItem K s).1 = true) : ∃ b, ItO K s.1 b ∧ (qItem K s).2.1 = b + 1 := by
  unfold qItem at h ⊢
  split
  · rename_i c
    rw [if_pos c] at h
    obtain ⟨c1, c2⟩ := pT_ok c
    rw [c2] at h ⊢
    obtain ⟨b, h1, h2⟩ := qFood_ok hE he (bd_1 hE (by decide) hs c1) h
    exact ⟨b, Or.inl ⟨c1, h1⟩, by rw [h2]⟩
  · rename_i c
    rw [if_neg c] at h
    split
    · rename_i d
      rw [if_pos d] at h
      obtain ⟨c1, c2⟩ := pT_ok d
      rw [c2] at h ⊢
      obtain ⟨b, h1, h2⟩ := qDish_ok hE he (bd_1 hE (by decide) hs c1) h
      exact ⟨b, Or.inr (Or.inl ⟨c1, h1⟩), h2⟩
    · rename_i d
      rw [if_neg d] at h
      split
      · rename_i g
        rw [if_pos g] at h
        obtain ⟨c1, c2⟩ := pT_ok g
        rw [c2] at h ⊢
        obtain ⟨b, h1, h2⟩ := qMeal_ok hE he (bd_1 hE (by decide) hs c1) h
        exact ⟨b, Or.inr (Or.inr (Or.inl ⟨c1, h1⟩)), h2⟩
      · rename_i g
        rw [if_neg g] at h
        split
        · rename_i g2
          rw [if_pos g2] at h
          obtain ⟨c1, c2⟩ := pT_ok g2
          rw [c2] at h ⊢
          obtain ⟨b, h1, h2⟩ := qRule_ok h
          exact ⟨b, Or.inr (Or.inr (Or.inr ⟨c1, h1⟩)), h2⟩
        · rename_i g2
          rw [if_neg g2] at h; cases h
theorem qProg_ok {K : Int → Int} {e : Int} (hE : K e = 25) (he : e ≤ 1500) : ∀ (n : Nat) (s : Pp), bd e s → e - s.1 < n → (qProg K n s).1 = true → ∃ m, PgL K m s.1
  | 0, s, hs, hn, h => by have := hs.1; omega
  | n + 1, s, hs, hn, h => by
    have hq := gT_Item hE he s hs
    simp only [qProg] at h
    by_cases c : (qItem K s).1 = true
    · rw [if_pos c] at h
      obtain ⟨b, h1, h2⟩ := qItem_ok hE he hs c
      have h3 := hq.2.2 c
      by_cases c2 : K (qItem K s).2.1 = 25
      · rw [h2] at c2
        exact ⟨0, b, h1, c2⟩
      · rw [if_neg c2] at h
        obtain ⟨m, hm⟩ := qProg_ok hE he n _ hq.1 (by omega) h
        rw [h2] at c2 hm
        exact ⟨m + 1, b, h1, c2, hm⟩
    · rw [if_neg c] at h; cases h
end S35
