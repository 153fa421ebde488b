/-! the reference: what is asked of it -/
section S48
variable {l : Launch} {G : Gx}
variable {σ : Sg}
theorem inR_i {v lo hi : Int} (h1 : inr v) (h2 : inr lo) (h3 : inr hi) : inR v lo hi = decide (lo ≤ v ∧ v ≤ hi) := by unfold inR; rw [i32_eq h1, i32_eq h2, i32_eq h3]
theorem inR_t {v lo hi : Int} (h1 : inr v) (h2 : inr lo) (h3 : inr hi) (h : inR v lo hi = true) : lo ≤ v ∧ v ≤ hi := of_decide_eq_true ((inR_i h1 h2 h3).symm.trans h)
theorem inR_f {v lo hi : Int} (h1 : inr v) (h2 : inr lo) (h3 : inr hi) (h : inR v lo hi = false) : ¬ (lo ≤ v ∧ v ≤ hi) := of_decide_eq_false ((inR_i h1 h2 h3).symm.trans h)
theorem fG_grow {c : Int → Int → Bool} {g : Int → Int → Int} {B : Int} (hB : 0 ≤ B) (hg : ∀ i a, a ≤ g i a ∧ g i a ≤ a + B) : ∀ (n : Nat) (i a : Int), a ≤ fG c g n i a ∧ fG c g n i a ≤ a + n * B
  | 0, i, a => ⟨Int.le_refl _, by simp [fG]⟩
  | n + 1, i, a => by
    rw [fG_s]
    have e : ((n + 1 : Nat) : Int) * B = n * B + B := by rw [Int.natCast_add, Int.add_mul]; simp
    have e2 : 0 ≤ (n : Int) * B := Int.mul_nonneg (by omega) hB
    split
    · obtain ⟨h1, h2⟩ := hg i a
      obtain ⟨h3, h4⟩ := fG_grow (c := c) hB hg n (i + 1) (g i a)
      omega
    · omega
theorem fW_invI {α : Type} {sz : Int} {g : Int → α → α} (P : Int → α → Prop) (h : ∀ i a, 0 ≤ i → i < sz → P i a → P (i + 1) (g i a)) (hm : ∀ i a, P i a → P (i + 1) a) : ∀ (n : Nat) (i : Int) (a : α), 0 ≤ i → P i a → P (i + n) (fW sz g n i a)
  | 0, i, a, _, hp => by simpa [fW] using hp
  | n + 1, i, a, h0, hp => by
    have e : i + ((n + 1 : Nat) : Int) = i + 1 + n := by omega
    rw [fW_s, e]
    split
    · exact fW_invI P h hm n (i + 1) _ (by omega) (h i a h0 (by assumption) hp)
    · have hk : ∀ (m : Nat) (j : Int), P j a → P (j + m) a := by
        intro m
        induction m with
        | zero => intro j hj; simpa using hj
        | succ m ih => intro j hj; have := ih (j + 1) (hm j a hj); rwa [show j + ((m + 1 : Nat) : Int) = j + 1 + m from by omega]
      exact hk n (i + 1) (hm i a hp)
theorem ruV_bd (r : Int) : 0 ≤ ruV σ r ∧ ruV σ r ≤ 12544 := by
  have h1 : ∀ (s i a : Int), a ≤ aoG σ s r i a ∧ aoG σ s r i a ≤ a + 112 := fun s i a => by
    have := fW_grow (sz := i) (g := apG σ s r i) (B := 1) (by decide) (fun j a => by unfold apG; (repeat' split) <;> omega) 112 0 a
    unfold aoG; omega
  unfold ruV
  split
  · have := fW_grow (sz := σ 84 39 * σ 84 25) (g := aoG σ (mtV σ r) r) (B := 112) (by decide) (fun i a => h1 _ i a) 112 0 0
    omega
  · split
    · have := fW_grow (sz := σ 84 39) (g := egG σ r) (B := 1) (by decide) (fun i a => by unfold egG; split <;> omega) 14 0 0
      omega
    · split
      · split <;> omega
      · have := fG_grow (c := fun d _ => decide (d + σ 107 r.toNat ≤ σ 84 39)) (g := rsG σ (mtV σ r) r) (B := 1) (by decide) (fun i a => by unfold rsG; (repeat' split) <;> omega) 15 0 0
        omega
theorem hfV_bd : 0 ≤ hfV σ ∧ hfV σ ≤ 100352 := by
  have := fW_grow (sz := σ 84 30) (g := hfG σ) (B := 12544) (by decide) (fun i a => by have := ruV_bd (σ := σ) i; unfold hfG; split <;> omega) 8 0 0
  unfold hfV; omega
theorem gapV_bd : 0 ≤ gapV σ ∧ gapV σ ≤ 112 := by
  have h1 : ∀ (i a : Int), a ≤ gqG σ i a ∧ gqG σ i a ≤ a + 8 := fun i a => by
    have := fW_grow (sz := σ 84 25) (g := gpG σ i) (B := 1) (by decide) (fun j a => by unfold gpG; split <;> omega) 8 0 a
    unfold gqG; omega
  have := fW_grow (sz := σ 84 39) (g := gqG σ) (B := 8) (by decide) (fun i a => h1 i a) 14 0 0
  unfold gapV; omega
theorem afV_bd : 0 ≤ afV σ ∧ afV σ ≤ 200000 := by
  have h0 := gapV_bd (σ := σ)
  have := fW_grow (sz := σ 84 30) (g := fun r a => a + ruV σ r) (B := 12544) (by decide) (fun i a => by have := ruV_bd (σ := σ) i; omega) 8 0 (gapV σ)
  unfold afV; omega
theorem hfV_i32 (τ : Sg) : i32 (hfV τ) = hfV τ := i32_n _ (by have := hfV_bd (σ := τ); omega)
theorem afV_i32 (τ : Sg) : i32 (afV τ) = afV τ := i32_n _ (by have := afV_bd (σ := τ); omega)
/-- a dish at a place of the menu -/
def mp (σ : Sg) (d c x : Int) : Sg := up σ 111 (8 * d + c).toNat x
theorem PI_mp (h : PI σ) {d c x : Int} (hx : -1 ≤ x ∧ x < σ 84 15) : PI (mp σ d c x) := by
  obtain ⟨h1, h2, h3, h4, h5⟩ := h
  refine ⟨h1, h2, h3, h4, fun a b ha hb => ?_⟩
  show -1 ≤ up σ 111 (8 * d + c).toNat x 111 (8 * a + b) ∧ up σ 111 (8 * d + c).toNat x 111 (8 * a + b) < σ 84 15
  rw [up_at]
  split
  · exact hx
  · exact h5 a b ha hb
theorem PI_mp2 (h : PI σ) {k : Nat} {x : Int} (hx : -1 ≤ x ∧ x < σ 84 15) : PI (up σ 111 k x) := by
  have := PI_mp h (d := 0) (c := k) hx
  unfold mp at this
  rwa [show (8 * 0 + (k : Int)).toNat = k from by omega] at this
theorem PI_no (h : PI σ) (n : Int) : PI (up σ 84 0 n) := h
def pnG (σ : Sg) (d c w x b : Int) : Int := if iand (ishr (σ 102 c.toNat) x) 1 = 0 then b else if hfV (mp σ d c x) ≤ w then (if b = -1 then x else if tiV σ x < tiV σ b then x else b) else b
theorem pnG_a {σ : Sg} {d c w x b : Int} (h : iand (ishr (σ 102 c.toNat) x) 1 = 0) : pnG σ d c w x b = b := if_pos h
theorem pnG_b {σ : Sg} {d c w x b : Int} (h : ¬ iand (ishr (σ 102 c.toNat) x) 1 = 0) (h2 : w < hfV (up σ 111 (8 * d + c).toNat x)) : pnG σ d c w x b = b := (if_neg h).trans (if_neg (fun z : hfV (up σ 111 (8 * d + c).toNat x) ≤ w => absurd h2 (by omega)))
theorem pnG_c {σ : Sg} {d c w x b : Int} (h : ¬ iand (ishr (σ 102 c.toNat) x) 1 = 0) (h2 : hfV (up σ 111 (8 * d + c).toNat x) ≤ w) (h3 : b = -1) : pnG σ d c w x b = x := (if_neg h).trans ((if_pos (h2 : hfV (mp σ d c x) ≤ w)).trans (if_pos h3))
theorem pnG_d {σ : Sg} {d c w x b : Int} (h : ¬ iand (ishr (σ 102 c.toNat) x) 1 = 0) (h2 : hfV (up σ 111 (8 * d + c).toNat x) ≤ w) (h3 : ¬ b = -1) (h4 : tiV σ x < tiV σ b) : pnG σ d c w x b = x := (if_neg h).trans ((if_pos (h2 : hfV (mp σ d c x) ≤ w)).trans ((if_neg h3).trans (if_pos h4)))
theorem pnG_e {σ : Sg} {d c w x b : Int} (h : ¬ iand (ishr (σ 102 c.toNat) x) 1 = 0) (h2 : hfV (up σ 111 (8 * d + c).toNat x) ≤ w) (h3 : ¬ b = -1) (h4 : tiV σ b ≤ tiV σ x) : pnG σ d c w x b = b := (if_neg h).trans ((if_pos (h2 : hfV (mp σ d c x) ≤ w)).trans ((if_neg h3).trans (if_neg (by omega))))
def pnV (σ : Sg) (d c : Int) : Int := fW (σ 84 15) (pnG σ d c (hfV σ)) 16 0 (-1)
theorem pnV_bd (hP : PI σ) (d c : Int) : -1 ≤ pnV σ d c ∧ pnV σ d c < σ 84 15 := by
  have hC := hP.1.2.1
  unfold pnV
  exact fW_inv (fun b : Int => -1 ≤ b ∧ b < σ 84 15) (fun i a h1 h2 h3 => by unfold pnG; (repeat' split) <;> first | exact h3 | (constructor <;> omega)) 16 0 (-1) (Int.le_refl _) ⟨by omega, by omega⟩
def plF (σ : Sg) (d : Int) : Sg := fW 112 (fun k a => up a 111 k.toNat (-1)) 112 0 (up (up σ 84 0 0) 84 39 d)
def plG (d c : Int) (a : Sg) : Sg := up a 111 (8 * d + c).toNat (pnV a d c)
def plH (C d : Int) (a : Sg) : Sg := fW C (plG d) 8 0 a
def plT (σ : Sg) (d : Int) : Sg := fW d (plH (σ 84 25)) 14 0 (plF σ d)
def plRV (σ : Sg) (d : Int) : Int := if inR d 1 14 = true then (if σ 84 3 = 1 then afV (plT σ d) else 0) else 0
def plRS (σ : Sg) (d : Int) : Sg := if inR d 1 14 = true then (if σ 84 3 = 1 then plT σ d else up (up σ 84 0 0) 84 0 2) else up (up σ 84 0 0) 84 0 1
/-- a menu that is filled up to a place -/
def PJ (C D lo : Int) (a : Sg) : Prop := PI a ∧ a 84 25 = C ∧ a 84 39 = D ∧ ∀ k : Nat, lo ≤ k → k < 112 → a 111 k = -1
theorem PJ.mono {C D lo lo2 : Int} {a : Sg} (h : PJ C D lo a) (hl : lo ≤ lo2) : PJ C D lo2 a := ⟨h.1, h.2.1, h.2.2.1, fun k h1 h2 => h.2.2.2 k (by omega) h2⟩
theorem PJ_step {C D d c : Int} {a : Sg} (h : PJ C D (8 * d + c) a) (h0 : 0 ≤ 8 * d + c) : PJ C D (8 * d + (c + 1)) (plG d c a) := by
  refine ⟨PI_mp2 h.1 (pnV_bd h.1 d c), h.2.1, h.2.2.1, fun k h1 h2 => ?_⟩
  show up a 111 (8 * d + c).toNat (pnV a d c) 111 k = -1
  rw [up_j _ _ (by omega)]
  exact h.2.2.2 k (by omega) h2
theorem PJ_row {C D d : Int} {a : Sg} (h0 : 0 ≤ d) (h : PJ C D (8 * d) a) : PJ C D (8 * (d + 1)) (plH C d a) := by
  have := fW_invI (sz := C) (g := plG d) (fun c a => PJ C D (8 * d + c) a) (fun i a h1 h2 h3 => PJ_step h3 (by omega)) (fun i a h1 => h1.mono (by omega)) 8 0 a (Int.le_refl _) (h.mono (by omega))
  unfold plH
  exact this.mono (by omega)
theorem plF_at (σ : Sg) (d : Int) (k : Nat) (hk : k < 112) : plF σ d 111 k = -1 := by
  have : ∀ (n : Nat) (i : Int) (a : Sg), 0 ≤ i → i + n = 112 → (∀ j : Nat, (j : Int) < i → a 111 j = -1) → ∀ j : Nat, j < 112 → fW 112 (fun k (a : Sg) => up a 111 k.toNat (-1)) n i a 111 j = -1 := by
    intro n
    induction n with
    | zero => intro i a h0 hn ha j hj; exact ha j (by omega)
    | succ n ih =>
      intro i a h0 hn ha j hj
      rw [fW_s, if_pos (by omega)]
      refine ih (i + 1) _ (by omega) (by omega) (fun j2 h2 => ?_) j hj
      rw [up_at]
      split
      · rfl
      · exact ha j2 (by omega)
  exact this 112 0 _ (Int.le_refl _) (by omega) (fun j h => by omega) k hk
theorem plF_r (σ : Sg) (d : Int) {k : Nat} (h : k ≠ 111) : plF σ d k = up (up σ 84 0 0) 84 39 d k := fW_r (fun i q _ => up_r _ _ _ h) _ _ _
theorem PJ_0 (hP : PI σ) {d : Int} (hd : 1 ≤ d ∧ d ≤ 14) : PJ (σ 84 25) d 0 (plF σ d) := by
  have e := fun k h => plF_r σ d (k := k) h
  obtain ⟨h1, h2, h3, h4, h5⟩ := hP
  have e84 : plF σ d 84 = up (up σ 84 0 0) 84 39 d 84 := e 84 (by decide)
  have hC : Cn (plF σ d) := by unfold Cn; rw [e84]; exact h1
  refine ⟨⟨hC, ?_, ?_, ?_, ?_⟩, by rw [e84]; rfl, by rw [e84]; rfl, fun k _ hk => plF_at σ d k hk⟩
  · unfold Dn
    rw [e84, e 94 (by decide), e 95 (by decide), e 96 (by decide), e 99 (by decide), e 90 (by decide), e 91 (by decide)]
    exact h2
  · unfold RI
    rw [e84, e 105 (by decide), e 106 (by decide), e 107 (by decide), e 108 (by decide), e 109 (by decide)]
    exact h3
  · rw [e84]; exact ⟨by show (0 : Int) ≤ d; omega, hd.2⟩
  · intro a b ha hb
    rw [e84] at ha hb
    have hb2 : (b : Int) < σ 84 25 := hb
    have ha2 : (a : Int) < d := ha
    have hC4 := h1.2.2.2.1
    rw [plF_at σ d _ (by omega), e84]
    exact ⟨Int.le_refl _, by show (-1 : Int) < σ 84 15; have := h1.2.1; omega⟩
theorem PJ_T (hP : PI σ) {d : Int} (hd : 1 ≤ d ∧ d ≤ 14) : PJ (σ 84 25) d (8 * 14) (plT σ d) := by
  unfold plT
  exact fW_invI (sz := d) (g := plH (σ 84 25)) (fun c a => PJ (σ 84 25) d (8 * c) a) (fun i a h1 h2 h3 => PJ_row h1 h3) (fun i a h1 => h1.mono (by omega)) 14 0 _ (Int.le_refl _) ((PJ_0 hP hd).mono (by omega))
abbrev I3 : Type := Int × Int × Int
def imG (σ : Sg) (d c x : Int) (q : I3) : I3 := if iand (ishr (σ 102 c.toNat) x) 1 = 0 then q else if afV (mp σ d c x) < q.1 then (afV (mp σ d c x), 8 * d + c, x) else q
def imH (σ : Sg) (d c : Int) (q : I3) : I3 := fW (σ 84 15) (imG σ d c) 16 0 q
def imJ (σ : Sg) (d : Int) (q : I3) : I3 := fW (σ 84 25) (imH σ d) 8 0 q
def imT (σ : Sg) : I3 := fW (σ 84 39) (imJ σ) 14 0 (afV σ, -1, -1)
def imRV (σ : Sg) : Int := (imT (up σ 84 0 0)).1
def imRS (σ : Sg) : Sg := if (imT (up σ 84 0 0)).2.1 = -1 then up σ 84 0 0 else up (up σ 84 0 0) 111 (imT (up σ 84 0 0)).2.1.toNat (imT (up σ 84 0 0)).2.2
def IMQ (σ : Sg) (q : I3) : Prop := (0 ≤ q.1 ∧ q.1 ≤ 200000) ∧ ((q.2.1 = -1 ∧ q.2.2 = -1) ∨ (0 ≤ q.2.1 ∧ q.2.1 < 112 ∧ 0 ≤ q.2.2 ∧ q.2.2 < σ 84 15))
theorem IMQ_G (hP : PI σ) {d c x : Int} {q : I3} (hd : 0 ≤ d ∧ d < σ 84 39) (hc : 0 ≤ c ∧ c < σ 84 25) (hx : 0 ≤ x ∧ x < σ 84 15) (h : IMQ σ q) : IMQ σ (imG σ d c x q) := by
  have hM := hP.2.2.2.1
  have hC := hP.1.2.2.2.1
  unfold imG
  split
  · exact h
  · split
    · exact ⟨afV_bd, Or.inr ⟨by show (0 : Int) ≤ 8 * d + c; omega, by show 8 * d + c < 112; omega, hx⟩⟩
    · exact h
theorem IMQ_H (hP : PI σ) {d c : Int} {q : I3} (hd : 0 ≤ d ∧ d < σ 84 39) (hc : 0 ≤ c ∧ c < σ 84 25) (h : IMQ σ q) : IMQ σ (imH σ d c q) :=
  fW_inv (IMQ σ) (fun _ _ h1 h2 h3 => IMQ_G hP hd hc ⟨h1, h2⟩ h3) 16 0 q (Int.le_refl _) h
theorem IMQ_J (hP : PI σ) {d : Int} {q : I3} (hd : 0 ≤ d ∧ d < σ 84 39) (h : IMQ σ q) : IMQ σ (imJ σ d q) :=
  fW_inv (IMQ σ) (fun _ _ h1 h2 h3 => IMQ_H hP hd ⟨h1, h2⟩ h3) 8 0 q (Int.le_refl _) h
theorem IMQ_T (hP : PI σ) : IMQ σ (imT σ) :=
  fW_inv (IMQ σ) (fun _ _ h1 h2 h3 => IMQ_J hP ⟨h1, h2⟩ h3) 14 0 _ (Int.le_refl _) ⟨afV_bd, Or.inl ⟨rfl, rfl⟩⟩
def exG (a b c : Int) (q : Sg) : Sg := up (up q 111 (8 * a + c).toNat (dA q b c)) 111 (8 * b + c).toNat (dA q a c)
def exT (σ : Sg) (a b : Int) : Sg := fW (σ 84 25) (exG a b) 8 0 (up σ 84 0 0)
def isD (σ : Sg) (d : Int) : Bool := inR d 0 (σ 84 39 - 1)
def isC (σ : Sg) (c : Int) : Bool := inR c 0 (σ 84 25 - 1)
def exRV (σ : Sg) (a b : Int) : Int := if isD σ a = true ∧ isD σ b = true then (if a = b then 0 else afV (exT σ a b)) else 0
def exRS (σ : Sg) (a b : Int) : Sg := if isD σ a = true ∧ isD σ b = true then (if a = b then up (up σ 84 0 0) 84 0 2 else exT σ a b) else up (up σ 84 0 0) 84 0 1
def PX (C D : Int) (a : Sg) : Prop := PI a ∧ a 84 25 = C ∧ a 84 39 = D
theorem PX_G {C D a b c : Int} {q : Sg} (h : PX C D q) (ha : 0 ≤ a ∧ a < D) (hb : 0 ≤ b ∧ b < D) (hc : 0 ≤ c ∧ c < C) : PX C D (exG a b c q) := by
  obtain ⟨h1, h2, h3⟩ := h
  have e1 := h1.dA (d := a) (c := c) (by omega) (by omega)
  have e2 := h1.dA (d := b) (c := c) (by omega) (by omega)
  exact ⟨PI_mp2 (σ := up q 111 (8 * a + c).toNat (dA q b c)) (PI_mp2 h1 e2) e1, h2, h3⟩
theorem PX_T (hP : PI σ) {a b : Int} (ha : 0 ≤ a ∧ a < σ 84 39) (hb : 0 ≤ b ∧ b < σ 84 39) : PX (σ 84 25) (σ 84 39) (exT σ a b) :=
  fW_inv (PX (σ 84 25) (σ 84 39)) (fun _ _ h1 h2 h3 => PX_G h3 ha hb ⟨h1, h2⟩) 8 0 _ (Int.le_refl _) ⟨hP, rfl, rfl⟩
/-- an answer if it is right, or no(1) -/
def oqV (p : Bool) (v : Int) : Int := if p = true then v else 0
def oqS (p : Bool) (σ : Sg) : Sg := if p = true then up σ 84 0 0 else up (up σ 84 0 0) 84 0 1
def seRV (σ : Sg) (d c x : Int) : Int := if isD σ d = true ∧ isC σ c = true ∧ inR x (-1) (σ 84 15 - 1) = true then (if x = -1 ∨ ¬ iand (ishr (σ 102 c.toNat) x) 1 = 0 then dA σ d c else 0) else 0
def seRS (σ : Sg) (d c x : Int) : Sg := if isD σ d = true ∧ isC σ c = true ∧ inR x (-1) (σ 84 15 - 1) = true then (if x = -1 ∨ ¬ iand (ishr (σ 102 c.toNat) x) 1 = 0 then mp (up σ 84 0 0) d c x else up (up σ 84 0 0) 84 0 2) else up (up σ 84 0 0) 84 0 1
def fT (σ : Sg) (f w : Int) : Int := if w = 0 then σ 90 f.toNat else if w = 1 then σ 91 f.toNat else σ 92 f.toNat
def dT (σ : Sg) (f w : Int) : Int := if w = 0 then σ 94 f.toNat else if w = 1 then enR σ f else if w = 2 then pcR σ f else if w = 3 then σ 97 f.toNat else σ 98 f.toNat
def rT (σ : Sg) (f w : Int) : Int := if w = 0 then σ 105 f.toNat else if w = 1 then σ 106 f.toNat else if w = 2 then σ 107 f.toNat else mtV σ f
def cnV (σ : Sg) (w : Int) : Int := upT (upT (upT (upT (upT (upT (upT (upT (fun _ => 0) 0 (σ 84 10)) 1 (σ 84 15)) 2 (σ 84 23)) 3 (σ 84 25)) 4 (σ 84 30)) 5 (σ 84 36)) 6 (σ 84 39)) 7 (σ 84 2) w.toNat
def buT (σ : Sg) (x n : Int) : Int := if inR x 0 (σ 84 10 - 1) = true then (if inR n 1 1000 = true then 0 else 2) else 1
def buG (σ : Sg) (x n d a : Int) : Int := a + tiV σ d * (i64 (n * σ 99 (16 * d + x).toNat)).tdiv (σ 94 d.toNat)
def buRV (σ : Sg) (x n : Int) : Int := if buT σ x n = 0 then fW (σ 84 15) (buG (up σ 84 0 0) x n) 16 0 0 else 0
def mqG (σ : Sg) (d : Int) (q : Int × Int) : Int × Int := (q.1 + tiV σ d * pcR σ d, q.2 + tiV σ d)
def mqT (σ : Sg) : Int × Int := fW (σ 84 15) (mqG σ) 16 0 (0, 0)
def mqV (σ : Sg) : UInt64 := if (mqT σ).2 = 0 then FP.dconst0 else FP.ddiv (dbl (i32 (mqT σ).1)) (dbl (mqT σ).2)
def dgC (σ : Sg) (w a : Int) : Int := a * 31 + cnV σ w
def dgF (σ : Sg) (f a : Int) : Int := fW 3 (fun w a => a * 31 + fT σ f w) 3 0 a
def dgD (σ : Sg) (f a : Int) : Int := fW 5 (fun w a => a * 31 + dT σ f w) 5 0 a
def dgH (σ : Sg) (c a : Int) : Int := (a * 31 + σ 101 c.toNat) * 31 + σ 102 c.toNat
def dgR (σ : Sg) (f a : Int) : Int := fW 4 (fun w a => a * 31 + rT σ f w) 4 0 a
def dgM (σ : Sg) (d a : Int) : Int := fW (σ 84 25) (fun c a => a * 31 + dA σ d c) 8 0 a
def dgT (σ : Sg) : Int := (fW (σ 84 39) (dgM σ) 14 0 (fW (σ 84 30) (dgR σ) 8 0 (fW (σ 84 25) (dgH σ) 8 0 (fW (σ 84 15) (dgD σ) 16 0 (fW (σ 84 10) (dgF σ) 16 0 (fW 8 (dgC σ) 8 0 359)))))) * 31 + afV σ
end S48
