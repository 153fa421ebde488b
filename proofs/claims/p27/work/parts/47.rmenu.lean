/-! the reference: menus and faults -/
section S47
variable {l : Launch} {G : Gx}
variable {σ : Sg}
theorem iand_i32 (x y : Int) : i32 (iand x y) = iand x y := i32_eq (I32_inr _)
def RI (σ : Sg) : Prop := ∀ r : Nat, (r : Int) < σ 84 30 → (0 ≤ σ 105 r ∧ σ 105 r ≤ 3) ∧ (0 ≤ σ 106 r ∧ σ 106 r ≤ 9999) ∧ (0 ≤ σ 107 r ∧ σ 107 r ≤ 9999) ∧ (-1 ≤ σ 108 r ∧ σ 108 r < 16) ∧ (-1 ≤ σ 109 r ∧ σ 109 r < 16)
def MU (σ : Sg) : Prop := (0 ≤ σ 84 39 ∧ σ 84 39 ≤ 14) ∧ ∀ d c : Nat, (d : Int) < σ 84 39 → (c : Int) < σ 84 25 → -1 ≤ σ 111 (8 * d + c) ∧ σ 111 (8 * d + c) < σ 84 15
def PI (σ : Sg) : Prop := Cn σ ∧ Dn σ ∧ RI σ ∧ MU σ
def dA (σ : Sg) (d c : Int) : Int := σ 111 (8 * d + c).toNat
theorem PI.dA (h : PI σ) {d c : Int} (hd : 0 ≤ d ∧ d < σ 84 39) (hc : 0 ≤ c ∧ c < σ 84 25) : -1 ≤ dA σ d c ∧ dA σ d c < σ 84 15 := by
  have := h.2.2.2.2 d.toNat c.toNat (by omega) (by omega)
  have e : 8 * d.toNat + c.toNat = (8 * d + c).toNat := by omega
  rw [e] at this
  exact this
def enR (σ : Sg) (d : Int) : Int := (σ 95 d.toNat).tdiv (σ 94 d.toNat)
def pcR (σ : Sg) (d : Int) : Int := (σ 96 d.toNat).tdiv (σ 94 d.toNat)
theorem enR_bd (h : PI σ) {d : Int} (hd : 0 ≤ d ∧ d < σ 84 15) : 0 ≤ enR σ d ∧ enR σ d ≤ 1000000 := by
  obtain ⟨h1, h2, -, -⟩ := h.2.1.1 d.toNat (by omega)
  have := tdiv_bd (b := σ 94 d.toNat) h2.1 h1.1
  unfold enR; omega
theorem pcR_bd (h : PI σ) {d : Int} (hd : 0 ≤ d ∧ d < σ 84 15) : 0 ≤ pcR σ d ∧ pcR σ d ≤ 1000000 := by
  obtain ⟨h1, -, h2, -⟩ := h.2.1.1 d.toNat (by omega)
  have := tdiv_bd (b := σ 94 d.toNat) h2.1 h1.1
  unfold pcR; omega
def mtV (σ : Sg) (r : Int) : Int := if σ 105 r.toNat = 3 then 0 else if σ 108 r.toNat = -1 then tgV σ (σ 109 r.toNat) else ishl 1 (σ 108 r.toNat)
def isM (σ : Sg) (s d c : Int) : Bool := decide (¬ dA σ d c = -1 ∧ iand (ishr s (dA σ d c)) 1 = 1)
def miG (σ : Sg) (s d c a : Int) : Int := if isM σ s d c = true then a + 1 else a + 0
def mjG (σ : Sg) (s d a : Int) : Int := fW (σ 84 25) (miG σ s d) 8 0 a
def mnIn (σ : Sg) (s fr un : Int) : Int := fW un (mjG σ s) 14 fr 0
def suG (σ : Sg) (d : Int) (p : Bool) (c a : Int) : Int := if dA σ d c = -1 then a else a + (if p = true then pcR σ (dA σ d c) else enR σ (dA σ d c))
def suV2 (σ : Sg) (d : Int) (p : Bool) : Int := fW (σ 84 25) (suG σ d p) 8 0 0
def qd (σ : Sg) (i : Int) : Int := i.tdiv (σ 84 25)
def qm (σ : Sg) (i : Int) : Int := i - i.tdiv (σ 84 25) * σ 84 25
def apG (σ : Sg) (s r one oth a : Int) : Int := if isM σ s (qd σ one) (qm σ one) = true ∧ isM σ s (qd σ oth) (qm σ oth) = true then (if qd σ one - qd σ oth < σ 106 r.toNat then a + 1 else a + 0) else a + 0
def aoG (σ : Sg) (s r one a : Int) : Int := fW one (apG σ s r one) 112 0 a
def egG (σ : Sg) (r d a : Int) : Int := if inR (suV2 σ d false) (σ 106 r.toNat) (σ 107 r.toNat) = true then a + 0 else a + 1
def rsG (σ : Sg) (s r d a : Int) : Int := if σ 105 r.toNat = 1 then (if σ 106 r.toNat < mnIn σ s d (d + σ 107 r.toNat) then a + 1 else a + 0) else (if mnIn σ s d (d + σ 107 r.toNat) < σ 106 r.toNat then a + 1 else a + 0)
def ruV (σ : Sg) (r : Int) : Int := if σ 105 r.toNat = 0 then fW (σ 84 39 * σ 84 25) (aoG σ (mtV σ r) r) 112 0 0 else if σ 105 r.toNat = 3 then fW (σ 84 39) (egG σ r) 14 0 0 else if σ 84 39 < σ 107 r.toNat then (if σ 105 r.toNat = 1 ∧ σ 106 r.toNat < mnIn σ (mtV σ r) 0 (σ 84 39) then 1 else 0) else fG (fun d _ => decide (d + σ 107 r.toNat ≤ σ 84 39)) (rsG σ (mtV σ r) r) 15 0 0
def gpG (σ : Sg) (d c a : Int) : Int := if dA σ d c = -1 then a + 1 else a + 0
def gqG (σ : Sg) (d a : Int) : Int := fW (σ 84 25) (gpG σ d) 8 0 a
def gapV (σ : Sg) : Int := fW (σ 84 39) (gqG σ) 14 0 0
def afV (σ : Sg) : Int := fW (σ 84 30) (fun r a => a + ruV σ r) 8 0 (gapV σ)
def hfG (σ : Sg) (r a : Int) : Int := if σ 105 r.toNat = 0 ∨ σ 105 r.toNat = 1 then a + ruV σ r else a + 0
def hfV (σ : Sg) : Int := fW (σ 84 30) (hfG σ) 8 0 0
def tiG (σ : Sg) (x d c a : Int) : Int := if dA σ d c = x then a + 1 else a + 0
def tjG (σ : Sg) (x d a : Int) : Int := fW (σ 84 25) (tiG σ x d) 8 0 a
def tiV (σ : Sg) (x : Int) : Int := fW (σ 84 39) (tjG σ x) 14 0 0
/-- a sum that grows by no more than B a step -/
theorem fW_grow {sz : Int} {g : Int → Int → Int} {B : Int} (hB : 0 ≤ B) (hg : ∀ i a, a ≤ g i a ∧ g i a ≤ a + B) : ∀ (n : Nat) (i a : Int), a ≤ fW sz g n i a ∧ fW sz g n i a ≤ a + n * B
  | 0, i, a => ⟨Int.le_refl _, by simp [fW]⟩
  | n + 1, i, a => by
    rw [fW_s]
    have e : ((n + 1 : Nat) : Int) * B = n * B + B := by rw [Int.natCast_add, Int.add_mul]; simp
    have e2 : 0 ≤ (n : Int) * B := Int.mul_nonneg (by omega) hB
    split
    · obtain ⟨h1, h2⟩ := hg i a
      obtain ⟨h3, h4⟩ := fW_grow (sz := sz) hB hg n (i + 1) (g i a)
      omega
    · omega
theorem mjG_bd (s d a : Int) : a ≤ mjG σ s d a ∧ mjG σ s d a ≤ a + 8 := by
  have := fW_grow (sz := σ 84 25) (g := miG σ s d) (B := 1) (by decide) (fun i a => by unfold miG; split <;> omega) 8 0 a
  unfold mjG; omega
theorem mnIn_bd (s fr un : Int) : 0 ≤ mnIn σ s fr un ∧ mnIn σ s fr un ≤ 112 := by
  have := fW_grow (sz := un) (g := mjG σ s) (B := 8) (by decide) (fun i a => mjG_bd s i a) 14 fr 0
  unfold mnIn; omega
theorem mnIn_i32 (s fr un : Int) : i32 (mnIn σ s fr un) = mnIn σ s fr un := i32_n _ (by have := mnIn_bd (σ := σ) s fr un; omega)
theorem tjG_bd (x d a : Int) : a ≤ tjG σ x d a ∧ tjG σ x d a ≤ a + 8 := by
  have := fW_grow (sz := σ 84 25) (g := tiG σ x d) (B := 1) (by decide) (fun i a => by unfold tiG; split <;> omega) 8 0 a
  unfold tjG; omega
theorem tiV_bd (x : Int) : 0 ≤ tiV σ x ∧ tiV σ x ≤ 112 := by
  have := fW_grow (sz := σ 84 39) (g := tjG σ x) (B := 8) (by decide) (fun i a => tjG_bd x i a) 14 0 0
  unfold tiV; omega
theorem tiV_i32 (x : Int) : i32 (tiV σ x) = tiV σ x := i32_n _ (by have := tiV_bd (σ := σ) x; omega)
theorem qd_in {D C i : Int} (hC : 0 ≤ C) (hi : 0 ≤ i ∧ i < D * C) : (0 < C) ∧ (0 ≤ i.tdiv C ∧ i.tdiv C < D) ∧ 0 ≤ i - i.tdiv C * C ∧ i - i.tdiv C * C < C := by
  have hC0 : C ≠ 0 := by
    intro z
    rw [z, Int.mul_zero] at hi
    omega
  have hC1 : 0 < C := by omega
  have e : i.tdiv C = i / C := Int.tdiv_eq_ediv_of_nonneg hi.1
  rw [e]
  have h1 := Int.emod_nonneg i hC0
  have h2 := Int.emod_lt_of_pos i hC1
  have h3 := Int.emod_add_mul_ediv i C
  have h4 : C * (i / C) = i / C * C := Int.mul_comm _ _
  refine ⟨hC1, ⟨Int.ediv_nonneg hi.1 hC, Int.ediv_lt_of_lt_mul hC1 hi.2⟩, by omega, by omega⟩
theorem dc_le {D C : Int} (hD : 0 ≤ D ∧ D ≤ 14) (hC : 0 ≤ C ∧ C ≤ 8) : 0 ≤ D * C ∧ D * C ≤ 112 := mul_bd hD hC
theorem apG_1 {s r one oth a : Int} (h1 : isM σ s (one.tdiv (σ 84 25)) (one - one.tdiv (σ 84 25) * σ 84 25) = true) (h2 : isM σ s (oth.tdiv (σ 84 25)) (oth - oth.tdiv (σ 84 25) * σ 84 25) = true) (h3 : one.tdiv (σ 84 25) - oth.tdiv (σ 84 25) < σ 106 r.toNat) : apG σ s r one oth a = a + 1 := (if_pos (⟨h1, h2⟩ : _ ∧ _)).trans (if_pos h3)
theorem apG_2 {s r one oth a : Int} (h1 : isM σ s (one.tdiv (σ 84 25)) (one - one.tdiv (σ 84 25) * σ 84 25) = true) (h2 : isM σ s (oth.tdiv (σ 84 25)) (oth - oth.tdiv (σ 84 25) * σ 84 25) = true) (h3 : ¬ one.tdiv (σ 84 25) - oth.tdiv (σ 84 25) < σ 106 r.toNat) : apG σ s r one oth a = a + 0 := (if_pos (⟨h1, h2⟩ : _ ∧ _)).trans (if_neg h3)
theorem apG_3 {s r one oth a : Int} (h1 : isM σ s (one.tdiv (σ 84 25)) (one - one.tdiv (σ 84 25) * σ 84 25) = false) : apG σ s r one oth a = a + 0 := if_neg (fun z : _ ∧ _ => absurd (z.1 : isM σ s (one.tdiv (σ 84 25)) (one - one.tdiv (σ 84 25) * σ 84 25) = true) (by rw [h1]; decide))
theorem apG_4 {s r one oth a : Int} (h2 : isM σ s (oth.tdiv (σ 84 25)) (oth - oth.tdiv (σ 84 25) * σ 84 25) = false) : apG σ s r one oth a = a + 0 := if_neg (fun z : _ ∧ _ => absurd (z.2 : isM σ s (oth.tdiv (σ 84 25)) (oth - oth.tdiv (σ 84 25) * σ 84 25) = true) (by rw [h2]; decide))
end S47
