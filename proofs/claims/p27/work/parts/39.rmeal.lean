/-! the reference: meaning: choices told, meals, rules -/
section S39
variable {l : Launch} {G : Gx}
variable {σ : Sg} {e : Int} {K V N S : Int → Int}
theorem Tk.end (h : Tk σ e K V N S) {a : Int} (ha : 0 ≤ a ∧ a ≤ e) : K a = 25 ↔ σ 86 a.toNat = 0 := by
  rw [← h.2.1, KR_in ha, kdR_end]
def loL (K V S : Int → Int) : Nat → Sg → Int × Sg
  | 0, σ => (0, σ)
  | n + 1, σ => if K (σ 84 8) = 19 ∨ K (σ 84 8) = 17 ∨ K (σ 84 8) = 25 then (0, σ) else if K (σ 84 8) = 22 ∧ knR σ (V (σ 84 8)) = false then (2, up σ 84 4 (S (σ 84 8))) else loL K V S n (incS 8 σ)
def loM (K V S : Int → Int) (σ : Sg) : Int × Sg := loL K V S 1502 σ
theorem loL_k {k : Nat} (h : k ≠ 84) : ∀ (n : Nat) (σ : Sg), (loL K V S n σ).2 k = σ k := by
  intro n
  induction n with
  | zero => intro σ; rfl
  | succ n ih =>
    intro σ
    simp only [loL]
    split
    · rfl
    · split
      · exact up_r _ _ _ h
      · rw [ih, incS_r _ h]
theorem loL_j {j : Nat} (h : j ≠ 4 ∧ j ≠ 8) : ∀ (n : Nat) (σ : Sg), (loL K V S n σ).2 84 j = σ 84 j := by
  intro n
  induction n with
  | zero => intro σ; rfl
  | succ n ih =>
    intro σ
    simp only [loL]
    split
    · rfl
    · split
      · exact up_j _ _ h.1
      · rw [ih, incS_j _ h.2]
theorem loM_k {k j : Nat} (h : k ≠ 84) : (loM K V S σ).2 k j = σ k j := congrFun (loL_k h _ _) j
theorem loM_j {j : Nat} (h : j ≠ 4 ∧ j ≠ 8) : (loM K V S σ).2 84 j = σ 84 j := loL_j h _ _
theorem loL_res : ∀ (n : Nat) (σ : Sg), (loL K V S n σ).1 = 0 ∨ (loL K V S n σ).1 = 2 := by
  intro n
  induction n with
  | zero => intro σ; exact Or.inl rfl
  | succ n ih =>
    intro σ
    simp only [loL]
    split
    · exact Or.inl rfl
    · split
      · exact Or.inr rfl
      · exact ih _
theorem loL_at (hE : K e = 25) : ∀ (n : Nat) (σ : Sg), 0 ≤ σ 84 8 ∧ σ 84 8 ≤ e → e - σ 84 8 < n → (σ 84 8 ≤ (loL K V S n σ).2 84 8 ∧ (loL K V S n σ).2 84 8 ≤ e) ∧ ((loL K V S n σ).1 = 0 → K ((loL K V S n σ).2 84 8) = 19 ∨ K ((loL K V S n σ).2 84 8) = 17 ∨ K ((loL K V S n σ).2 84 8) = 25) := by
  intro n
  induction n with
  | zero => intro σ h1 h2; omega
  | succ n ih =>
    intro σ h1 h2
    simp only [loL]
    split
    · rename_i c; exact ⟨⟨Int.le_refl _, h1.2⟩, fun _ => c⟩
    · rename_i c
      split
      · refine ⟨?_, fun z => absurd (show (2 : Int) = 0 from z) (by decide)⟩
        dsimp only
        rw [up_j _ _ (by decide)]
        exact ⟨Int.le_refl _, h1.2⟩
      · have hne : σ 84 8 ≠ e := fun z => c (Or.inr (Or.inr (by rw [z]; exact hE)))
        have h3 := ih (incS 8 σ) (by rw [incS_s]; omega) (by rw [incS_s]; omega)
        rw [incS_s] at h3
        exact ⟨⟨by omega, h3.1.2⟩, h3.2⟩
theorem Tk.lk (h : Tk σ e K V N S) : Tk (loM K V S σ).2 e K V N S := h.cg (loM_j (by decide)) (loM_j (by decide)) (loL_k (by decide) _ _) (loL_k (by decide) _ _) (loL_k (by decide) _ _) (loL_k (by decide) _ _)
theorem loM_i32 : i32 (loM K V S σ).1 = (loM K V S σ).1 := i32_n _ (by rcases loL_res (K := K) (V := V) (S := S) 1502 σ with z | z <;> (unfold loM; rw [z]; decide))
def meT (σ : Sg) : Sg := incS 25 (up (up (up σ 103 (σ 84 25).toNat (σ 84 8)) 104 (σ 84 25).toNat (σ 84 15)) 101 (σ 84 25).toNat (σ 84 23 - 1))
def meC (K V S : Int → Int) (σ : Sg) : Int × Sg := if σ 84 25 = 8 then (4, up σ 84 4 (S (σ 84 8))) else loM K V S (meT σ)
def meL (K V S : Int → Int) : Nat → Sg → Int × Sg
  | 0, σ => (0, σ)
  | n + 1, σ => if (meC K V S (incS 8 σ)).1 = 0 then (if K ((meC K V S (incS 8 σ)).2 84 8) = 19 then meL K V S n (meC K V S (incS 8 σ)).2 else (0, (meC K V S (incS 8 σ)).2)) else ((meC K V S (incS 8 σ)).1, (meC K V S (incS 8 σ)).2)
def meM (K V S : Int → Int) (first : Int) (σ : Sg) : Int × Sg :=
  if σ 84 23 = 4 then (4, up σ 84 4 (S first))
  else if tknR σ (V (σ 84 8)) = true then (3, up σ 84 4 (S (σ 84 8)))
  else meL K V S 1502 (incS 8 (incS 23 (up σ 100 (σ 84 23).toNat (V (σ 84 8)))))
theorem Tk.meU (h : Tk σ e K V N S) : Tk (meT σ) e K V N S := Tk.i (by decide) (Tk.x (by decide) (Tk.x (by decide) (Tk.x (by decide) h)))
theorem meT_j {j : Nat} (h : j ≠ 25) : meT σ 84 j = σ 84 j := by unfold meT; rw [incS_j _ h, up_k _ _ (by decide), up_k _ _ (by decide), up_k _ _ (by decide)]
theorem meT_25 : meT σ 84 25 = σ 84 25 + 1 := by unfold meT; rw [incS_s, up_k _ _ (by decide), up_k _ _ (by decide), up_k _ _ (by decide)]
theorem Cn.meU (h : Cn σ) (h2 : σ 84 25 ≠ 8) : Cn (meT σ) := by
  obtain ⟨h1, h3, h4, h5, h6, h7⟩ := h
  unfold Cn
  rw [meT_25, meT_j (by decide), meT_j (by decide), meT_j (by decide), meT_j (by decide), meT_j (by decide)]
  exact ⟨h1, h3, h4, ⟨by omega, by omega⟩, h6, h7⟩
theorem Cn.lk (h : Cn σ) : Cn (loM K V S σ).2 := h.cg (loM_j (by decide)) (loM_j (by decide)) (loM_j (by decide)) (loM_j (by decide)) (loM_j (by decide)) (loM_j (by decide))
/-- while meals are read -/
def MI (e : Int) (K V N S : Int → Int) (σ : Sg) : Prop := Tk σ e K V N S ∧ Cn σ ∧ (0 ≤ σ 84 8 ∧ σ 84 8 ≤ e)
theorem MI.me (h : MI e K V N S σ) (h0 : (meC K V S σ).1 = 0) : MI e K V N S (meC K V S σ).2 ∧ σ 84 8 ≤ (meC K V S σ).2 84 8 ∧ σ 84 25 ≠ 8 := by
  obtain ⟨h1, h2, h3⟩ := h
  unfold meC at h0 ⊢
  split
  · rename_i c; rw [if_pos c] at h0; exact absurd (show (4 : Int) = 0 from h0) (by decide)
  · rename_i c
    have he := h1.e
    have h4 := loL_at (K := K) (V := V) (S := S) h1.E 1502 (meT σ) (by rw [meT_j (by decide)]; exact h3) (by rw [meT_j (by decide)]; omega)
    rw [meT_j (by decide)] at h4
    exact ⟨⟨h1.meU.lk, (h2.meU c).lk, by have := h4.1; exact ⟨by have := this.1; have := h3.1; show 0 ≤ (loM K V S (meT σ)).2 84 8; unfold loM; omega, this.2⟩⟩, h4.1.1, c⟩
theorem meC_i32 : i32 (meC K V S σ).1 = (meC K V S σ).1 := by
  unfold meC
  split
  · exact i32_n 4 (by decide)
  · exact loM_i32
end S39
