/-! the reference: meaning: rules -/
section S40
variable {l : Launch} {G : Gx}
variable {σ : Sg} {e : Int} {K V N S : Int → Int}
theorem knR_inc {j : Nat} (h : 15 ≠ j ∧ 36 ≠ j) (v : Int) : knR (incS j σ) v = knR σ v := by unfold knR; rw [fnC_inc (by decide), fnC_inc (by decide), incS_j _ h.1, incS_j _ h.2]
theorem knR_up {k j : Nat} {x : Int} (h : 84 ≠ k ∧ 93 ≠ k ∧ 110 ≠ k) (v : Int) : knR (up σ k j x) v = knR σ v := by unfold knR; rw [fnC_up h.2.1, fnC_up h.2.2, up_k _ _ h.1, up_k _ _ h.1]
def ru1 (σ : Sg) (so : Int) : Sg := incS 8 (up σ 105 (σ 84 30).toNat so)
def ru2 (N : Int → Int) (σ : Sg) (so : Int) : Sg := incS 8 (up (up (up (up (ru1 σ so) 106 (σ 84 30).toNat (N (σ 84 8 + 1))) 107 (σ 84 30).toNat 0) 108 (σ 84 30).toNat (-1)) 109 (σ 84 30).toNat (-1))
def ru3 (V N : Int → Int) (σ : Sg) (so : Int) : Sg := incS 8 (up (up (ru2 N σ so) 108 (σ 84 30).toNat (fnC σ 93 (σ 84 15) (V (σ 84 8 + 2)))) 109 (σ 84 30).toNat (fnC σ 110 (σ 84 36) (V (σ 84 8 + 2))))
def ruE (N S : Int → Int) (r : Nat) (X : Sg) (p lo hi : Int) : Int × Sg := if lo ≤ N p ∧ N p ≤ hi then (0, incS 30 (incS 8 (up (incS 8 X) 107 r (N p)))) else (5, up (incS 8 X) 84 4 (S p))
def ruB (V N S : Int → Int) (σ : Sg) (so lo hi : Int) : Int × Sg := if lo ≤ N (σ 84 8 + 1) ∧ N (σ 84 8 + 1) ≤ hi then (if so = 3 then ruE N S (σ 84 30).toNat (ru2 N σ so) (σ 84 8 + 3) (N (σ 84 8 + 1)) 9999 else if knR σ (V (σ 84 8 + 2)) = true then (if so = 0 then (0, incS 30 (ru3 V N σ so)) else ruE N S (σ 84 30).toNat (ru3 V N σ so) (σ 84 8 + 4) 1 14) else (2, up (ru2 N σ so) 84 4 (S (σ 84 8 + 2)))) else (5, up (ru1 σ so) 84 4 (S (σ 84 8 + 1)))
def ruM (K V N S : Int → Int) (first : Int) (σ : Sg) : Int × Sg :=
  if σ 84 30 = 8 then (4, up σ 84 4 (S first))
  else if K (σ 84 8) = 7 then ruB V N S σ 0 1 9 else if K (σ 84 8) = 8 then ruB V N S σ 1 0 9 else if K (σ 84 8) = 9 then ruB V N S σ 2 1 9 else ruB V N S σ 3 0 9999
end S40
