/-! the reference: buy, meanPrice, digest -/
section S51
variable {l : Launch} {G : Gx}
variable {σ : Sg}
theorem buT_1 {x n : Int} (h : inR x 0 (σ 84 10 - 1) = false) : buT σ x n = 1 := if_neg (by rw [h]; decide)
theorem buT_2 {x n : Int} (h : inR x 0 (σ 84 10 - 1) = true) (h2 : inR n 1 1000 = false) : buT σ x n = 2 := (if_pos h).trans (if_neg (by rw [h2]; decide))
theorem buT_0 {x n : Int} (h : inR x 0 (σ 84 10 - 1) = true) (h2 : inR n 1 1000 = true) : buT σ x n = 0 := (if_pos h).trans (if_pos h2)
theorem mqT_0 : 0 ≤ (mqT σ).2 ∧ (mqT σ).2 ≤ 1792 := by
  have : ∀ (n : Nat) (i : Int) (q : Int × Int), 0 ≤ q.2 → (0 ≤ (fW (σ 84 15) (mqG σ) n i q).2 ∧ (fW (σ 84 15) (mqG σ) n i q).2 ≤ q.2 + 112 * n) := by
    intro n
    induction n with
    | zero => intro i q h; exact ⟨h, by simp [fW]⟩
    | succ n ih =>
      intro i q h
      rw [fW_s]
      split
      · have h1 := tiV_bd (σ := σ) i
        have := ih (i + 1) (mqG σ i q) (by unfold mqG; dsimp only; omega)
        have e : (mqG σ i q).2 = q.2 + tiV σ i := rfl
        omega
      · omega
  have := this 16 0 (0, 0) (Int.le_refl _)
  unfold mqT
  dsimp only at this
  omega
theorem mqT_i : i32 (mqT σ).2 = (mqT σ).2 := i32_n _ (by have := mqT_0 (σ := σ); omega)
theorem dbl_64 (x : Int) : dbl (i32 x) = dbl (i64 (i32 x)) := by
  have h := i32_inr x
  have h2 : inr (i32 x) := h
  obtain ⟨h3, h4⟩ := h2
  rw [i64_eq ⟨by omega, by omega⟩]
theorem A_ddiv2 {f : Fm} {own : String} {cc : ByteArray} {nL : Nat} {rt : Option FieldType} {b : Nat × Nat × Nat} {Q : State → Prop} {xs : va_W} {k n pc : Nat} {lv : List (Nat × Value)} {rest : List Value} {x y y1 : Int} (d : decode cc pc = .ok (.ddiv, 1)) (e : i32 y = y1) (hy : y1 ≠ 0) (g : AW l G f (own, cc, nL, rt) b Q xs k n (pc + 1) lv (.double (FP.ddiv (dbl (i32 x)) (dbl y1)) :: rest) σ) : AW l G f (own, cc, nL, rt) b Q xs k n pc lv (.double (dbl (i32 y)) :: .double (dbl (i32 x)) :: rest) σ := by
  rw [dbl_64 x] at g ⊢
  refine A_ddiv d (by rw [e]; exact hy) ?_
  rw [e]; exact g
def dgC2 (σ : Sg) (w a : Int) : Int := a * 31 + i32 (cnV σ w)
def dgF2 (σ : Sg) (f a : Int) : Int := fW 3 (fun w a => a * 31 + i32 (fT σ f w)) 3 0 a
def dgD2 (σ : Sg) (f a : Int) : Int := fW 5 (fun w a => a * 31 + i32 (dT σ f w)) 5 0 a
def dgH2 (σ : Sg) (c a : Int) : Int := (a * 31 + i32 (σ 101 c.toNat)) * 31 + i32 (σ 102 c.toNat)
def dgR2 (σ : Sg) (f a : Int) : Int := fW 4 (fun w a => a * 31 + i32 (rT σ f w)) 4 0 a
def dgM2 (σ : Sg) (d a : Int) : Int := fW (σ 84 25) (fun c a => a * 31 + i32 (dA σ d c)) 8 0 a
def dgT2 (σ : Sg) : Int := (fW (σ 84 39) (dgM2 σ) 14 0 (fW (σ 84 30) (dgR2 σ) 8 0 (fW (σ 84 25) (dgH2 σ) 8 0 (fW (σ 84 15) (dgD2 σ) 16 0 (fW (σ 84 10) (dgF2 σ) 16 0 (fW 8 (dgC2 σ) 8 0 359)))))) * 31 + i32 (afV σ)
end S51
