/-! the reference: meaning: parts and dishes -/
section S37
variable {l : Launch} {G : Gx}
variable {σ : Sg} {e : Int} {K V N S : Int → Int}
theorem fnC_cg {σ τ : Sg} {ka : Nat} (h : τ ka = σ ka) (m v : Int) : fnC τ ka m v = fnC σ ka m v := by
  unfold fnC
  rw [show fnG τ ka v = fnG σ ka v from by funext k a; unfold fnG; rw [h]]
theorem fnC_inc {σ : Sg} {ka j : Nat} (h : ka ≠ 84) (m v : Int) : fnC (incS j σ) ka m v = fnC σ ka m v := fnC_cg (incS_r _ h) m v
theorem fnC_up {σ : Sg} {ka k j : Nat} {x : Int} (h : ka ≠ k) (m v : Int) : fnC (up σ k j x) ka m v = fnC σ ka m v := fnC_cg (up_r _ _ _ h) m v
def Dn (σ : Sg) : Prop := (∀ j : Nat, (j : Int) < σ 84 15 → (1 ≤ σ 94 j ∧ σ 94 j ≤ 20) ∧ (0 ≤ σ 95 j ∧ σ 95 j ≤ 1000000) ∧ (0 ≤ σ 96 j ∧ σ 96 j ≤ 1000000) ∧ ∀ f : Nat, f < 16 → 0 ≤ σ 99 (16 * j + f) ∧ σ 99 (16 * j + f) ≤ 100000) ∧ (∀ j : Nat, (j : Int) < σ 84 10 → (0 ≤ σ 90 j ∧ σ 90 j ≤ 900) ∧ (0 ≤ σ 91 j ∧ σ 91 j ≤ 999))
def ptGR (d x n i : Int) (a : Sg) : Sg := up a 99 (16 * d + i).toNat (a 99 (16 * d + i).toNat + (i64 (n * a 99 (16 * x + i).toNat)).tdiv (a 94 x.toNat))
def ptD (d x n : Int) (σ : Sg) : Sg := fW 16 (ptGR d x n) 16 0 (up (up (up (up σ 98 d.toNat (σ 98 d.toNat + 1)) 95 d.toNat (σ 95 d.toNat + n * (σ 95 x.toNat).tdiv (σ 94 x.toNat))) 96 d.toNat (σ 96 d.toNat + n * (σ 96 x.toNat).tdiv (σ 94 x.toNat))) 97 d.toNat (ior (σ 97 d.toNat) (σ 97 x.toNat)))
def ptF (d x n : Int) (σ : Sg) : Sg := up (up (up (up (up σ 98 d.toNat (σ 98 d.toNat + 1)) 95 d.toNat (σ 95 d.toNat + i32 ((i32 (n * σ 90 x.toNat)).tdiv 100))) 96 d.toNat (σ 96 d.toNat + i32 ((i32 (n * σ 91 x.toNat)).tdiv 100))) 97 d.toNat (ior (σ 97 d.toNat) (σ 92 x.toNat))) 99 (16 * d + x).toNat (σ 99 (16 * d + x).toNat + n)
def ptX (S : Int → Int) (p x : Int) (g : Sg → Sg) (σ : Sg) : Int × Sg := if x = -1 then (2, up σ 84 4 (S p)) else (0, g (incS 8 σ))
def ptM (K V N S : Int → Int) (σ : Sg) : Int × Sg :=
  if σ 98 (σ 84 15).toNat = 8 then (4, up σ 84 4 (S (σ 84 8)))
  else if 1 ≤ N (σ 84 8) ∧ N (σ 84 8) ≤ 2000 then
    (if K (σ 84 8 + 1) = 4 then ptX S (σ 84 8 + 2) (fnC σ 93 (σ 84 15) (V (σ 84 8 + 2))) (ptD (σ 84 15) (fnC σ 93 (σ 84 15) (V (σ 84 8 + 2))) (N (σ 84 8))) (incS 8 (incS 8 σ))
     else ptX S (σ 84 8 + 1) (fnC σ 89 (σ 84 10) (V (σ 84 8 + 1))) (ptF (σ 84 15) (fnC σ 89 (σ 84 10) (V (σ 84 8 + 1))) (N (σ 84 8))) (incS 8 σ))
  else (5, up σ 84 4 (S (σ 84 8)))
end S37
