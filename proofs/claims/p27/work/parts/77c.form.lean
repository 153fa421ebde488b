/-! the form of the law's text -/
section S95
def AtK (K : Int → Int) (a : Int) (l : List Int) : Prop := ∀ j : Nat, j < l.length → K (a + j) = l.getD j 0
theorem AtK.l {K : Int → Int} {a : Int} {l m : List Int} (h : AtK K a (l ++ m)) : AtK K a l := fun j hj => by
  have hl : (l ++ m).length = l.length + m.length := List.length_append
  have := h j (by omega)
  rwa [gd_l _ _ _ _ hj] at this
theorem AtK.r {K : Int → Int} {a : Int} {l m : List Int} (h : AtK K a (l ++ m)) : AtK K (a + l.length) m := fun j hj => by
  have hl : (l ++ m).length = l.length + m.length := List.length_append
  have := h (l.length + j) (by omega)
  rwa [gd_r, show a + ((l.length + j : Nat) : Int) = a + l.length + j from by omega] at this
variable {K : Int → Int}
theorem pA_e {p q : Ps} {s t : Pp} (h : p s = (true, t)) : pA p q s = q t := by unfold pA; rw [h]; rfl
theorem pT_e {k a c : Int} (h : K a = k) : pT K k (a, c) = (true, (a + 1, c)) := if_pos h
theorem pO_n {k a c : Int} {p : Ps} (h : K a ≠ k) : pO K k p (a, c) = (true, (a, c)) := if_neg h
theorem pO_y {k a c : Int} {p : Ps} (h : K a = k) : pO K k p (a, c) = p (a, c) := if_pos h
theorem pR_n {k a c : Int} {q : Ps} (h : K a ≠ k) : ∀ n : Nat, pR K k q n (a, c) = (true, (a, c))
  | 0 => rfl
  | _ + 1 => if_neg h
theorem pR_y {k a c : Int} {q : Ps} {t : Pp} {n : Nat} (h : K a = k) (hq : q (a, c) = (true, t)) : pR K k q (n + 1) (a, c) = pR K k q n t := by
  show (if K a = k then (if (q (a, c)).1 = true then pR K k q n (q (a, c)).2 else (false, (q (a, c)).2)) else (true, (a, c))) = _
  rw [if_pos h, hq]; rfl
theorem pC_e {k a c : Int} (h : K a = k) (hc : 0 ≤ c ∧ c < 30) : pC K k (a, c) = (true, (a + 1, c + 1)) := by
  show (if 30 ≤ i32 c ∨ K a ≠ k then (false, (a, c)) else (true, (a + 1, c + 1))) = _
  rw [if_neg]
  rw [i32_n c (by omega)]
  rintro (z | z)
  · omega
  · exact z h
theorem pOne_n {a c : Int} (h : K a = 22) (hc : 0 ≤ c ∧ c < 30) (m : Nat) : pOne K m (a, c) = (true, (a + 1, c + 1)) := by
  cases m with
  | zero => exact (if_pos h).trans (pC_e h hc)
  | succ m => exact (if_pos h).trans (pC_e h hc)
theorem pOne_t {a c : Int} (h : K a = 15) (h1 : K (a + 1) = 22) (hc : 0 ≤ c ∧ c < 29) (m : Nat) : pOne K (m + 1) (a, c) = (true, (a + 1 + 1, c + 1 + 1)) := by
  show (if K a = 22 then pC K 22 (a, c) else if K a = 15 then pA (pC K 15) (pOne K m) (a, c) else _) = _
  rw [if_neg (by rw [h]; decide), if_pos h, pA_e (pC_e h (by omega))]
  exact pOne_n h1 (by omega) m
theorem pJ_n {a c : Int} {one : Ps} (h : K a ≠ 13 ∧ K a ≠ 14) : ∀ n : Nat, pJ K one n (a, c) = (true, (a, c))
  | 0 => rfl
  | _ + 1 => if_neg (fun z => z.elim h.1 h.2)
theorem pJ_y {a c : Int} {one : Ps} {t : Pp} {n : Nat} (h : K a = 14) (hc : 0 ≤ c ∧ c < 30) (ho : one (a + 1, c + 1) = (true, t)) : pJ K one (n + 1) (a, c) = pJ K one n t := by
  show (if K a = 13 ∨ K a = 14 then (if (pA (pC K (K a)) one (a, c)).1 = true then pJ K one n (pA (pC K (K a)) one (a, c)).2 else (false, (pA (pC K (K a)) one (a, c)).2)) else (true, (a, c))) = _
  rw [if_pos (Or.inr h), pA_e (pC_e rfl hc), ho]; rfl
/-- an item of these kinds is read whole -/
def ItK (l : List Int) : Prop := ∀ (K : Int → Int) (a c : Int), AtK K a l → K a ≠ 25 ∧ ∃ c2, pItem K (a, c) = (true, (a + l.length, c2))
theorem pTags_n {a c : Int} (h : K a ≠ 3) : pTags K (a, c) = (true, (a, c)) := pO_n h
theorem pTags_y {a c : Int} (h0 : K a = 3) (h1 : K (a + 1) = 22) (h2 : K (a + 1 + 1) ≠ 19) : pTags K (a, c) = (true, (a + 1 + 1, c)) := by
  unfold pTags
  rw [pO_y h0, pA_e ((pA_e (pT_e h0)).trans (pT_e h1))]
  exact pR_n h2 1500
theorem pPart_e {a c : Int} (h0 : K a = 23) (h1 : K (a + 1) = 22) : pPart K (a, c) = (true, (a + 1 + 1, c)) := by
  unfold pPart
  rw [pA_e (pT_e h0), pA_e (pO_n (by rw [h1]; decide))]
  exact pT_e h1
def kFood : List Int := [0, 22, 23, 17]
theorem iFood : ItK kFood := by
  intro K a c h
  have h0 : K (a) = 0 := by
    have := h 0 (by decide)
    rwa [show a + ((0 : Nat) : Int) = a from by omega] at this
  have h1 : K (a + 1) = 22 := by
    have := h 1 (by decide)
    rwa [show a + ((1 : Nat) : Int) = a + 1 from by omega] at this
  have h2 : K (a + 1 + 1) = 23 := by
    have := h 2 (by decide)
    rwa [show a + ((2 : Nat) : Int) = a + 1 + 1 from by omega] at this
  have h3 : K (a + 1 + 1 + 1) = 17 := by
    have := h 3 (by decide)
    rwa [show a + ((3 : Nat) : Int) = a + 1 + 1 + 1 from by omega] at this
  have hl : ((kFood.length : Nat) : Int) = 4 := rfl
  refine ⟨by rw [h0]; decide, c, ?_⟩
  rw [hl, show a + (4 : Int) = a + 1 + 1 + 1 + 1 from by omega]
  show (if K a = 0 then pFood K (a, c) else _) = _
  rw [if_pos h0]
  unfold pFood
  rw [pA_e (pT_e h0), pA_e (pT_e h1), pA_e (pT_e h2), pA_e (pO_n (by rw [h3]; decide)), pA_e (pTags_n (by rw [h3]; decide))]
  exact pT_e h3
def kDishT : List Int := [1, 22, 2, 23, 18, 23, 22, 3, 22, 17]
theorem iDishT : ItK kDishT := by
  intro K a c h
  have h0 : K (a) = 1 := by
    have := h 0 (by decide)
    rwa [show a + ((0 : Nat) : Int) = a from by omega] at this
  have h1 : K (a + 1) = 22 := by
    have := h 1 (by decide)
    rwa [show a + ((1 : Nat) : Int) = a + 1 from by omega] at this
  have h2 : K (a + 1 + 1) = 2 := by
    have := h 2 (by decide)
    rwa [show a + ((2 : Nat) : Int) = a + 1 + 1 from by omega] at this
  have h3 : K (a + 1 + 1 + 1) = 23 := by
    have := h 3 (by decide)
    rwa [show a + ((3 : Nat) : Int) = a + 1 + 1 + 1 from by omega] at this
  have h4 : K (a + 1 + 1 + 1 + 1) = 18 := by
    have := h 4 (by decide)
    rwa [show a + ((4 : Nat) : Int) = a + 1 + 1 + 1 + 1 from by omega] at this
  have h5 : K (a + 1 + 1 + 1 + 1 + 1) = 23 := by
    have := h 5 (by decide)
    rwa [show a + ((5 : Nat) : Int) = a + 1 + 1 + 1 + 1 + 1 from by omega] at this
  have h6 : K (a + 1 + 1 + 1 + 1 + 1 + 1) = 22 := by
    have := h 6 (by decide)
    rwa [show a + ((6 : Nat) : Int) = a + 1 + 1 + 1 + 1 + 1 + 1 from by omega] at this
  have h7 : K (a + 1 + 1 + 1 + 1 + 1 + 1 + 1) = 3 := by
    have := h 7 (by decide)
    rwa [show a + ((7 : Nat) : Int) = a + 1 + 1 + 1 + 1 + 1 + 1 + 1 from by omega] at this
  have h8 : K (a + 1 + 1 + 1 + 1 + 1 + 1 + 1 + 1) = 22 := by
    have := h 8 (by decide)
    rwa [show a + ((8 : Nat) : Int) = a + 1 + 1 + 1 + 1 + 1 + 1 + 1 + 1 from by omega] at this
  have h9 : K (a + 1 + 1 + 1 + 1 + 1 + 1 + 1 + 1 + 1) = 17 := by
    have := h 9 (by decide)
    rwa [show a + ((9 : Nat) : Int) = a + 1 + 1 + 1 + 1 + 1 + 1 + 1 + 1 + 1 from by omega] at this
  have hl : ((kDishT.length : Nat) : Int) = 10 := rfl
  refine ⟨by rw [h0]; decide, c, ?_⟩
  rw [hl, show a + (10 : Int) = a + 1 + 1 + 1 + 1 + 1 + 1 + 1 + 1 + 1 + 1 from by omega]
  show (if K a = 0 then pFood K (a, c) else if K a = 1 then pDish K (a, c) else _) = _
  rw [if_neg (by rw [h0]; decide), if_pos h0]
  unfold pDish
  rw [pA_e (((pA_e (pT_e h0)).trans ((pA_e (pT_e h1)).trans ((pA_e (pT_e h2)).trans ((pA_e (pT_e h3)).trans ((pA_e (pT_e h4)).trans (pPart_e h5 h6)))))))]
  rw [pA_e (pR_n (by rw [h7]; decide) 1500)]
  rw [pA_e (pTags_y h7 h8 (by rw [h9]; decide))]
  exact pT_e h9
def kDish : List Int := [1, 22, 2, 23, 18, 23, 22, 17]
theorem iDish : ItK kDish := by
  intro K a c h
  have h0 : K (a) = 1 := by
    have := h 0 (by decide)
    rwa [show a + ((0 : Nat) : Int) = a from by omega] at this
  have h1 : K (a + 1) = 22 := by
    have := h 1 (by decide)
    rwa [show a + ((1 : Nat) : Int) = a + 1 from by omega] at this
  have h2 : K (a + 1 + 1) = 2 := by
    have := h 2 (by decide)
    rwa [show a + ((2 : Nat) : Int) = a + 1 + 1 from by omega] at this
  have h3 : K (a + 1 + 1 + 1) = 23 := by
    have := h 3 (by decide)
    rwa [show a + ((3 : Nat) : Int) = a + 1 + 1 + 1 from by omega] at this
  have h4 : K (a + 1 + 1 + 1 + 1) = 18 := by
    have := h 4 (by decide)
    rwa [show a + ((4 : Nat) : Int) = a + 1 + 1 + 1 + 1 from by omega] at this
  have h5 : K (a + 1 + 1 + 1 + 1 + 1) = 23 := by
    have := h 5 (by decide)
    rwa [show a + ((5 : Nat) : Int) = a + 1 + 1 + 1 + 1 + 1 from by omega] at this
  have h6 : K (a + 1 + 1 + 1 + 1 + 1 + 1) = 22 := by
    have := h 6 (by decide)
    rwa [show a + ((6 : Nat) : Int) = a + 1 + 1 + 1 + 1 + 1 + 1 from by omega] at this
  have h7 : K (a + 1 + 1 + 1 + 1 + 1 + 1 + 1) = 17 := by
    have := h 7 (by decide)
    rwa [show a + ((7 : Nat) : Int) = a + 1 + 1 + 1 + 1 + 1 + 1 + 1 from by omega] at this
  have hl : ((kDish.length : Nat) : Int) = 8 := rfl
  refine ⟨by rw [h0]; decide, c, ?_⟩
  rw [hl, show a + (8 : Int) = a + 1 + 1 + 1 + 1 + 1 + 1 + 1 + 1 from by omega]
  show (if K a = 0 then pFood K (a, c) else if K a = 1 then pDish K (a, c) else _) = _
  rw [if_neg (by rw [h0]; decide), if_pos h0]
  unfold pDish
  rw [pA_e (((pA_e (pT_e h0)).trans ((pA_e (pT_e h1)).trans ((pA_e (pT_e h2)).trans ((pA_e (pT_e h3)).trans ((pA_e (pT_e h4)).trans (pPart_e h5 h6)))))))]
  rw [pA_e (pR_n (by rw [h7]; decide) 1500)]
  rw [pA_e (pTags_n (by rw [h7]; decide))]
  exact pT_e h7
def kMeal : List Int := [5, 22, 18, 22, 14, 15, 22, 19, 15, 22, 17]
theorem iMeal : ItK kMeal := by
  intro K a c h
  have h0 : K (a) = 5 := by
    have := h 0 (by decide)
    rwa [show a + ((0 : Nat) : Int) = a from by omega] at this
  have h1 : K (a + 1) = 22 := by
    have := h 1 (by decide)
    rwa [show a + ((1 : Nat) : Int) = a + 1 from by omega] at this
  have h2 : K (a + 1 + 1) = 18 := by
    have := h 2 (by decide)
    rwa [show a + ((2 : Nat) : Int) = a + 1 + 1 from by omega] at this
  have h3 : K (a + 1 + 1 + 1) = 22 := by
    have := h 3 (by decide)
    rwa [show a + ((3 : Nat) : Int) = a + 1 + 1 + 1 from by omega] at this
  have h4 : K (a + 1 + 1 + 1 + 1) = 14 := by
    have := h 4 (by decide)
    rwa [show a + ((4 : Nat) : Int) = a + 1 + 1 + 1 + 1 from by omega] at this
  have h5 : K (a + 1 + 1 + 1 + 1 + 1) = 15 := by
    have := h 5 (by decide)
    rwa [show a + ((5 : Nat) : Int) = a + 1 + 1 + 1 + 1 + 1 from by omega] at this
  have h6 : K (a + 1 + 1 + 1 + 1 + 1 + 1) = 22 := by
    have := h 6 (by decide)
    rwa [show a + ((6 : Nat) : Int) = a + 1 + 1 + 1 + 1 + 1 + 1 from by omega] at this
  have h7 : K (a + 1 + 1 + 1 + 1 + 1 + 1 + 1) = 19 := by
    have := h 7 (by decide)
    rwa [show a + ((7 : Nat) : Int) = a + 1 + 1 + 1 + 1 + 1 + 1 + 1 from by omega] at this
  have h8 : K (a + 1 + 1 + 1 + 1 + 1 + 1 + 1 + 1) = 15 := by
    have := h 8 (by decide)
    rwa [show a + ((8 : Nat) : Int) = a + 1 + 1 + 1 + 1 + 1 + 1 + 1 + 1 from by omega] at this
  have h9 : K (a + 1 + 1 + 1 + 1 + 1 + 1 + 1 + 1 + 1) = 22 := by
    have := h 9 (by decide)
    rwa [show a + ((9 : Nat) : Int) = a + 1 + 1 + 1 + 1 + 1 + 1 + 1 + 1 + 1 from by omega] at this
  have h10 : K (a + 1 + 1 + 1 + 1 + 1 + 1 + 1 + 1 + 1 + 1) = 17 := by
    have := h 10 (by decide)
    rwa [show a + ((10 : Nat) : Int) = a + 1 + 1 + 1 + 1 + 1 + 1 + 1 + 1 + 1 + 1 from by omega] at this
  have hl : ((kMeal.length : Nat) : Int) = 11 := rfl
  refine ⟨by rw [h0]; decide, 0 + 1 + 1, ?_⟩
  rw [hl, show a + (11 : Int) = a + 1 + 1 + 1 + 1 + 1 + 1 + 1 + 1 + 1 + 1 + 1 from by omega]
  show (if K a = 0 then pFood K (a, c) else if K a = 1 then pDish K (a, c) else if K a = 5 then pMeal K (a, c) else _) = _
  rw [if_neg (by rw [h0]; decide), if_neg (by rw [h0]; decide), if_pos h0]
  unfold pMeal
  have e1 : pEx K (a + 1 + 1 + 1, c) = (true, (a + 1 + 1 + 1 + 1 + 1 + 1 + 1, 0 + 1 + 1 + 1 + 1)) := by
    unfold pEx pE
    show pA (pOne K 8) (pJ K (pOne K 8) 30) (a + 1 + 1 + 1, 0) = _
    rw [pA_e (pOne_n h3 (by decide) 8), pJ_y h4 (by decide) (pOne_t h5 h6 (by decide) 7)]
    exact pJ_n ⟨by rw [h7]; decide, by rw [h7]; decide⟩ 29
  have e2 : pEx K (a + 1 + 1 + 1 + 1 + 1 + 1 + 1 + 1, 0 + 1 + 1 + 1 + 1) = (true, (a + 1 + 1 + 1 + 1 + 1 + 1 + 1 + 1 + 1 + 1, 0 + 1 + 1)) := by
    unfold pEx pE
    show pA (pOne K 8) (pJ K (pOne K 8) 30) (a + 1 + 1 + 1 + 1 + 1 + 1 + 1 + 1, 0) = _
    rw [pA_e (pOne_t h8 h9 (by decide) 7)]
    exact pJ_n ⟨by rw [h10]; decide, by rw [h10]; decide⟩ 30
  rw [pA_e ((pA_e (pT_e h0)).trans ((pA_e (pT_e h1)).trans ((pA_e (pT_e h2)).trans e1)))]
  rw [pA_e ((pR_y (n := 1499) h7 ((pA_e (pT_e h7)).trans e2)).trans (pR_n (by rw [h10]; decide) 1499))]
  exact pT_e h10
def kRule0 : List Int := [6, 7, 23, 22, 17]
theorem iRule0 : ItK kRule0 := by
  intro K a c h
  have h0 : K (a) = 6 := by
    have := h 0 (by decide)
    rwa [show a + ((0 : Nat) : Int) = a from by omega] at this
  have h1 : K (a + 1) = 7 := by
    have := h 1 (by decide)
    rwa [show a + ((1 : Nat) : Int) = a + 1 from by omega] at this
  have h2 : K (a + 1 + 1) = 23 := by
    have := h 2 (by decide)
    rwa [show a + ((2 : Nat) : Int) = a + 1 + 1 from by omega] at this
  have h3 : K (a + 1 + 1 + 1) = 22 := by
    have := h 3 (by decide)
    rwa [show a + ((3 : Nat) : Int) = a + 1 + 1 + 1 from by omega] at this
  have h4 : K (a + 1 + 1 + 1 + 1) = 17 := by
    have := h 4 (by decide)
    rwa [show a + ((4 : Nat) : Int) = a + 1 + 1 + 1 + 1 from by omega] at this
  have hl : ((kRule0.length : Nat) : Int) = 5 := rfl
  refine ⟨by rw [h0]; decide, c, ?_⟩
  rw [hl, show a + (5 : Int) = a + 1 + 1 + 1 + 1 + 1 from by omega]
  show (if K a = 0 then pFood K (a, c) else if K a = 1 then pDish K (a, c) else if K a = 5 then pMeal K (a, c) else if K a = 6 then pRule K (a, c) else _) = _
  rw [if_neg (by rw [h0]; decide), if_neg (by rw [h0]; decide), if_neg (by rw [h0]; decide), if_pos h0]
  unfold pRule
  rw [pA_e (pT_e h0)]
  dsimp only
  rw [if_pos h1, pA_e (pT_e h1), pA_e (pT_e h2), pA_e (pT_e h3)]
  exact pT_e h4
def kRule1 : List Int := [6, 8, 23, 22, 10, 23, 17]
theorem iRule1 : ItK kRule1 := by
  intro K a c h
  have h0 : K (a) = 6 := by
    have := h 0 (by decide)
    rwa [show a + ((0 : Nat) : Int) = a from by omega] at this
  have h1 : K (a + 1) = 8 := by
    have := h 1 (by decide)
    rwa [show a + ((1 : Nat) : Int) = a + 1 from by omega] at this
  have h2 : K (a + 1 + 1) = 23 := by
    have := h 2 (by decide)
    rwa [show a + ((2 : Nat) : Int) = a + 1 + 1 from by omega] at this
  have h3 : K (a + 1 + 1 + 1) = 22 := by
    have := h 3 (by decide)
    rwa [show a + ((3 : Nat) : Int) = a + 1 + 1 + 1 from by omega] at this
  have h4 : K (a + 1 + 1 + 1 + 1) = 10 := by
    have := h 4 (by decide)
    rwa [show a + ((4 : Nat) : Int) = a + 1 + 1 + 1 + 1 from by omega] at this
  have h5 : K (a + 1 + 1 + 1 + 1 + 1) = 23 := by
    have := h 5 (by decide)
    rwa [show a + ((5 : Nat) : Int) = a + 1 + 1 + 1 + 1 + 1 from by omega] at this
  have h6 : K (a + 1 + 1 + 1 + 1 + 1 + 1) = 17 := by
    have := h 6 (by decide)
    rwa [show a + ((6 : Nat) : Int) = a + 1 + 1 + 1 + 1 + 1 + 1 from by omega] at this
  have hl : ((kRule1.length : Nat) : Int) = 7 := rfl
  refine ⟨by rw [h0]; decide, c, ?_⟩
  rw [hl, show a + (7 : Int) = a + 1 + 1 + 1 + 1 + 1 + 1 + 1 from by omega]
  show (if K a = 0 then pFood K (a, c) else if K a = 1 then pDish K (a, c) else if K a = 5 then pMeal K (a, c) else if K a = 6 then pRule K (a, c) else _) = _
  rw [if_neg (by rw [h0]; decide), if_neg (by rw [h0]; decide), if_neg (by rw [h0]; decide), if_pos h0]
  unfold pRule
  rw [pA_e (pT_e h0)]
  dsimp only
  rw [if_neg (by rw [h1]; decide), if_pos h1]
  unfold pSpan
  rw [pA_e (pT_e h1), pA_e (pT_e h2), pA_e (pT_e h3), pA_e (pT_e h4), pA_e (pT_e h5)]
  exact pT_e h6
def kRule2 : List Int := [6, 9, 23, 22, 10, 23, 17]
theorem iRule2 : ItK kRule2 := by
  intro K a c h
  have h0 : K (a) = 6 := by
    have := h 0 (by decide)
    rwa [show a + ((0 : Nat) : Int) = a from by omega] at this
  have h1 : K (a + 1) = 9 := by
    have := h 1 (by decide)
    rwa [show a + ((1 : Nat) : Int) = a + 1 from by omega] at this
  have h2 : K (a + 1 + 1) = 23 := by
    have := h 2 (by decide)
    rwa [show a + ((2 : Nat) : Int) = a + 1 + 1 from by omega] at this
  have h3 : K (a + 1 + 1 + 1) = 22 := by
    have := h 3 (by decide)
    rwa [show a + ((3 : Nat) : Int) = a + 1 + 1 + 1 from by omega] at this
  have h4 : K (a + 1 + 1 + 1 + 1) = 10 := by
    have := h 4 (by decide)
    rwa [show a + ((4 : Nat) : Int) = a + 1 + 1 + 1 + 1 from by omega] at this
  have h5 : K (a + 1 + 1 + 1 + 1 + 1) = 23 := by
    have := h 5 (by decide)
    rwa [show a + ((5 : Nat) : Int) = a + 1 + 1 + 1 + 1 + 1 from by omega] at this
  have h6 : K (a + 1 + 1 + 1 + 1 + 1 + 1) = 17 := by
    have := h 6 (by decide)
    rwa [show a + ((6 : Nat) : Int) = a + 1 + 1 + 1 + 1 + 1 + 1 from by omega] at this
  have hl : ((kRule2.length : Nat) : Int) = 7 := rfl
  refine ⟨by rw [h0]; decide, c, ?_⟩
  rw [hl, show a + (7 : Int) = a + 1 + 1 + 1 + 1 + 1 + 1 + 1 from by omega]
  show (if K a = 0 then pFood K (a, c) else if K a = 1 then pDish K (a, c) else if K a = 5 then pMeal K (a, c) else if K a = 6 then pRule K (a, c) else _) = _
  rw [if_neg (by rw [h0]; decide), if_neg (by rw [h0]; decide), if_neg (by rw [h0]; decide), if_pos h0]
  unfold pRule
  rw [pA_e (pT_e h0)]
  dsimp only
  rw [if_neg (by rw [h1]; decide), if_neg (by rw [h1]; decide), if_pos h1]
  unfold pSpan
  rw [pA_e (pT_e h1), pA_e (pT_e h2), pA_e (pT_e h3), pA_e (pT_e h4), pA_e (pT_e h5)]
  exact pT_e h6
def kRule3 : List Int := [6, 11, 23, 12, 23, 17]
theorem iRule3 : ItK kRule3 := by
  intro K a c h
  have h0 : K (a) = 6 := by
    have := h 0 (by decide)
    rwa [show a + ((0 : Nat) : Int) = a from by omega] at this
  have h1 : K (a + 1) = 11 := by
    have := h 1 (by decide)
    rwa [show a + ((1 : Nat) : Int) = a + 1 from by omega] at this
  have h2 : K (a + 1 + 1) = 23 := by
    have := h 2 (by decide)
    rwa [show a + ((2 : Nat) : Int) = a + 1 + 1 from by omega] at this
  have h3 : K (a + 1 + 1 + 1) = 12 := by
    have := h 3 (by decide)
    rwa [show a + ((3 : Nat) : Int) = a + 1 + 1 + 1 from by omega] at this
  have h4 : K (a + 1 + 1 + 1 + 1) = 23 := by
    have := h 4 (by decide)
    rwa [show a + ((4 : Nat) : Int) = a + 1 + 1 + 1 + 1 from by omega] at this
  have h5 : K (a + 1 + 1 + 1 + 1 + 1) = 17 := by
    have := h 5 (by decide)
    rwa [show a + ((5 : Nat) : Int) = a + 1 + 1 + 1 + 1 + 1 from by omega] at this
  have hl : ((kRule3.length : Nat) : Int) = 6 := rfl
  refine ⟨by rw [h0]; decide, c, ?_⟩
  rw [hl, show a + (6 : Int) = a + 1 + 1 + 1 + 1 + 1 + 1 from by omega]
  show (if K a = 0 then pFood K (a, c) else if K a = 1 then pDish K (a, c) else if K a = 5 then pMeal K (a, c) else if K a = 6 then pRule K (a, c) else _) = _
  rw [if_neg (by rw [h0]; decide), if_neg (by rw [h0]; decide), if_neg (by rw [h0]; decide), if_pos h0]
  unfold pRule
  rw [pA_e (pT_e h0)]
  dsimp only
  rw [if_neg (by rw [h1]; decide), if_neg (by rw [h1]; decide), if_neg (by rw [h1]; decide), pA_e (pT_e h1), pA_e (pT_e h2), pA_e (pT_e h3), pA_e (pT_e h4)]
  exact pT_e h5
def flat {α : Type} : List (List α) → List α
  | [] => []
  | x :: r => x ++ flat r
/-- a text of items has no error of form -/
theorem pQ_items : ∀ (is : List (List Int)) (n : Nat) (b : Bool) (a c : Int), (∀ l ∈ is, ItK l) → AtK K a (flat is ++ [25]) → is.length ≤ n → (b = true → is ≠ []) → ∃ c2, pQ K n b (a, c) = (true, (a + (flat is).length, c2))
  | [], n, b, a, c, _, h, _, hb => by
    have h0 : K a = 25 := by
      have := h 0 (by decide)
      rwa [show a + ((0 : Nat) : Int) = a from by omega] at this
    have e : a + ((flat ([] : List (List Int))).length : Int) = a := Int.add_zero a
    rw [e]
    refine ⟨c, ?_⟩
    cases n with
    | zero => rfl
    | succ n =>
      refine if_neg ?_
      rintro (z | z)
      · exact hb z rfl
      · exact z h0
  | l :: is, n, b, a, c, hi, h, hn, hb => by
    have hl : (l :: is).length = is.length + 1 := rfl
    obtain ⟨n, rfl⟩ : ∃ q, n = q + 1 := ⟨n - 1, by omega⟩
    have h2 : AtK K a (l ++ (flat is ++ [25])) := by rw [← List.append_assoc]; exact h
    obtain ⟨g0, c1, g1⟩ := hi l List.mem_cons_self K a c h2.l
    obtain ⟨c2, g2⟩ := pQ_items is n false (a + l.length) c1 (fun x hx => hi x (List.mem_cons_of_mem _ hx)) h2.r (by omega) (fun z => absurd z (by decide))
    refine ⟨c2, ?_⟩
    show (if b = true ∨ K a ≠ 25 then (if (pItem K (a, c)).1 = true then pQ K n false (pItem K (a, c)).2 else (false, (pItem K (a, c)).2)) else (true, (a, c))) = _
    rw [if_pos (Or.inr g0), g1]
    show pQ K n false (a + l.length, c1) = _
    rw [g2]
    have e : (flat (l :: is)).length = l.length + (flat is).length := List.length_append
    rw [e]
    exact congrArg (fun z : Int => (true, (z, c2))) (by omega)
end S95
