/-! the reference: a program read -/
section S43
variable {l : Launch} {G : Gx}
variable {σ : Sg} {e : Int} {K V N S : Int → Int}
def Rn (x : Int) : Prop := 0 ≤ x ∧ x ≤ 6
theorem Rn_p {n : Int} {τ : Sg} (h : decide (0 ≤ n ∧ n ≤ 6) = true) : Rn ((n, τ) : Int × Sg).1 := by
  have h2 : 0 ≤ n ∧ n ≤ 6 := of_decide_eq_true h
  exact h2
theorem foM_rn (first : Int) : Rn (foM K V N S first σ).1 := by
  unfold foM fdT
  (repeat' split) <;> exact Rn_p rfl
theorem dpL_rn : ∀ (n : Nat) (σ : Sg), Cn σ → Rn (dpL K V N S n σ).1
  | 0, σ, hC => Rn_p rfl
  | n + 1, σ, hC => by
    have hC2 : Cn (incS 8 σ) := hC
    have := ptM_res (K := K) (V := V) (N := N) (S := S) hC2
    simp only [dpL]
    split
    · split
      · exact dpL_rn n _ hC2.pt
      · exact Rn_p rfl
    · exact ⟨by dsimp only; omega, by dsimp only; omega⟩
theorem dsM_rn (h : IV e K V N S σ) (first : Int) : Rn (dsM K V N S first σ).1 := by
  unfold dsM
  split
  · exact Rn_p rfl
  · split
    · exact Rn_p rfl
    · split
      · rename_i c _ _
        unfold dsP
        split
        · unfold dsE
          (repeat' split) <;> exact Rn_p rfl
        · exact dpL_rn _ _ (DI.z (n2 := N (σ 84 8 + 2)) h.1 h.2.1 h.2.2.1 (by have := h.2.1.2.1; omega)).2.1
      · exact Rn_p rfl
theorem loM_rn : Rn (loM K V S σ).1 := by
  rcases loL_res (K := K) (V := V) (S := S) 1502 σ with z | z <;> (unfold loM; rw [z]; exact Rn_p (τ := σ) rfl)
theorem meC_rn : Rn (meC K V S σ).1 := by
  unfold meC
  split
  · exact Rn_p rfl
  · exact loM_rn
theorem meL_rn : ∀ (n : Nat) (σ : Sg), Rn (meL K V S n σ).1
  | 0, σ => Rn_p rfl
  | n + 1, σ => by
    simp only [meL]
    split
    · split
      · exact meL_rn n _
      · exact Rn_p rfl
    · exact meC_rn
theorem meM_rn (first : Int) : Rn (meM K V S first σ).1 := by
  unfold meM
  split
  · exact Rn_p rfl
  · split
    · exact Rn_p rfl
    · exact meL_rn _ _
theorem ruM_rn (first : Int) : Rn (ruM K V N S first σ).1 := by
  have hE : ∀ (r : Nat) (X : Sg) (p lo hi : Int), Rn (ruE N S r X p lo hi).1 := by
    intro r X p lo hi
    unfold ruE
    split <;> exact Rn_p rfl
  have hB : ∀ so lo hi : Int, Rn (ruB V N S σ so lo hi).1 := by
    intro so lo hi
    unfold ruB
    split
    · split
      · exact hE _ _ _ _ _
      · split
        · split
          · exact Rn_p rfl
          · exact hE _ _ _ _ _
        · exact Rn_p rfl
    · exact Rn_p rfl
  unfold ruM
  split
  · exact Rn_p rfl
  · split
    · exact hB _ _ _
    · split
      · exact hB _ _ _
      · split
        · exact hB _ _ _
        · exact hB _ _ _
theorem mnI_rn (h : IV e K V N S σ) (first : Int) : Rn (mnI K V N S first σ).1 := by
  unfold mnI
  split
  · exact foM_rn _
  · split
    · exact dsM_rn h _
    · split
      · exact meM_rn _
      · exact ruM_rn _
theorem Rn.t {x : Int} (h : Rn x) : i32 x = x := i32_n _ (by have := h.1; have := h.2; omega)
end S43
