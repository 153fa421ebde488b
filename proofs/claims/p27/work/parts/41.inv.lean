/-! what the reading of each item keeps -/
section S41
variable {σ : Sg} {e : Int} {K V N S : Int → Int}
theorem mul_bd {n x A B : Int} (h1 : 0 ≤ n ∧ n ≤ A) (h2 : 0 ≤ x ∧ x ≤ B) : 0 ≤ n * x ∧ n * x ≤ A * B :=
  ⟨Int.mul_nonneg h1.1 h2.1, Int.mul_le_mul h1.2 h2.2 h2.1 (Int.le_trans h1.1 h1.2)⟩
theorem tdiv_bd {a b : Int} (h1 : 0 ≤ a) (h2 : 1 ≤ b) : 0 ≤ a.tdiv b ∧ a.tdiv b ≤ a := by
  rw [Int.tdiv_eq_ediv_of_nonneg h1]
  exact ⟨Int.ediv_nonneg h1 (by omega), Int.ediv_le_self _ h1⟩
theorem thL_b {b : Int} : ∀ (m n : Nat) (set : Int) (σ : Sg), m < n → K (σ 84 8) = 22 → TgC K m (σ 84 8 + 1) b → (thL K V n set σ).1 ≠ -1 → (thL K V n set σ).2 84 8 = b := by
  intro m
  induction m with
  | zero =>
    intro n set σ hn hk hg h1
    obtain ⟨n, rfl⟩ : ∃ q, n = q + 1 := ⟨n - 1, by omega⟩
    obtain ⟨g1, g2⟩ := hg
    have g3 : ¬ K (σ 84 8 + 1) = 19 := by rw [← g1]; exact g2
    simp only [thL] at h1 ⊢
    by_cases c : thI σ (V (σ 84 8)) = -1 ∧ σ 84 36 = 16
    · rw [if_pos c] at h1; exact absurd rfl h1
    · rw [if_neg c, if_neg g3]
      dsimp only
      rw [incS_s, th1_j _ _ (by decide)]; exact g1.symm
  | succ m ih =>
    intro n set σ hn hk hg h1
    obtain ⟨n, rfl⟩ : ∃ q, n = q + 1 := ⟨n - 1, by omega⟩
    obtain ⟨g1, g2, g3⟩ := hg
    simp only [thL] at h1 ⊢
    by_cases c : thI σ (V (σ 84 8)) = -1 ∧ σ 84 36 = 16
    · rw [if_pos c] at h1; exact absurd rfl h1
    · rw [if_neg c, if_pos g1] at h1 ⊢
      have e1 : (incS 8 (incS 8 (th1 σ (V (σ 84 8))))) 84 8 = σ 84 8 + 2 := by rw [incS_s, incS_s, th1_j _ _ (by decide)]; omega
      refine ih n _ _ (by omega) ?_ ?_ h1
      · rw [e1]; rw [ad11] at g2; exact g2
      · rw [e1]
        have : σ 84 8 + 1 + 2 = σ 84 8 + 2 + 1 := by omega
        rw [← this]; exact g3
theorem thC_b (h : Tk σ e K V N S) {b : Int} (hg : TgO K (σ 84 8) b) (hb : K b ≠ 25) (h1 : (thC K V σ).1 ≠ -1) : (thC K V σ).2 84 8 = b := by
  unfold thC at h1 ⊢
  rcases hg with ⟨g1, g2⟩ | ⟨g1, g2, m, g3⟩
  · rw [if_neg g1]; exact g2.symm
  · rw [if_pos g1] at h1 ⊢
    have hin := h.in g1 (by decide)
    have hl := TgC_len h m _ g3 (by omega)
    have hbi := h.in (t := b) rfl hb
    have := h.e
    refine thL_b m 1501 0 (incS 8 σ) (by omega) ?_ ?_ h1
    · rw [incS_s]; exact g2
    · rw [incS_s, ad11]; exact g3
/-- the choices told have a right form -/
def CI (K : Int → Int) (σ : Sg) : Prop := ∀ c : Nat, (c : Int) < σ 84 25 → (∃ b, ChO K (σ 103 c) b) ∧ 0 ≤ σ 104 c ∧ σ 104 c ≤ 16
theorem CI.cg {K : Int → Int} {σ τ : Sg} (h : CI K σ) (h1 : τ 84 25 = σ 84 25) (h2 : τ 103 = σ 103) (h3 : τ 104 = σ 104) : CI K τ := by
  intro c hc
  rw [h1] at hc
  rw [h2, h3]
  exact h c hc
/-- what the reading of a program keeps -/
def IV (e : Int) (K V N S : Int → Int) (σ : Sg) : Prop := Tk σ e K V N S ∧ Cn σ ∧ Dn σ ∧ CI K σ
theorem IV.i8 (h : IV e K V N S σ) : IV e K V N S (incS 8 σ) := by
  obtain ⟨h1, h2, h3, h4⟩ := h
  exact ⟨h1.i (by decide), h2, h3, h4.cg (incS_j _ (by decide)) (incS_r _ (by decide)) (incS_r _ (by decide))⟩
theorem fdT_inv {X : Sg} (h : IV e K V N S X) (hf : X 84 10 ≠ 16) {v en pr b : Int} (he : 0 ≤ en ∧ en ≤ 900) (hp : 0 ≤ pr ∧ pr ≤ 999) (hg : TgO K (X 84 8) b) (hb : K b = 17) (h0 : (fdT K V S (X 84 10).toNat v en pr X).1 = 0) : IV e K V N S (fdT K V S (X 84 10).toNat v en pr X).2 ∧ (fdT K V S (X 84 10).toNat v en pr X).2 84 8 = b ∧ (fdT K V S (X 84 10).toNat v en pr X).2 84 30 = X 84 30 := by
  obtain ⟨hT, hC, hD, hI⟩ := h
  unfold fdT at h0 ⊢
  by_cases c : (thC K V X).1 = -1
  · rw [if_pos c] at h0; exact absurd (show (4 : Int) = 0 from h0) (by decide)
  · rw [if_neg c]
    have hat := thC_b (V := V) hT hg (by rw [hb]; decide) c
    have h36 := thC_36 (K := K) (V := V) (σ := X) hC.2.2.2.2.2
    obtain ⟨hC1, hC2, hC3, hC4, hC5, hC6⟩ := hC
    dsimp only
    refine ⟨⟨(((((hT.tC V).x (by decide)).x (by decide)).x (by decide)).x (by decide)).i (by decide), ?_, ?_, ?_⟩, ?_, ?_⟩
    · unfold Cn
      simp (disch := omega) only [incS_s, incS_j, up_k, thC_keep]
      exact ⟨⟨by omega, by omega⟩, hC2, hC3, hC4, hC5, h36⟩
    · refine ⟨fun j hj => ?_, fun j hj => ?_⟩
      · simp (disch := omega) only [incS_j, incS_k, up_k, thC_keep] at hj ⊢
        exact hD.1 j hj
      · simp (disch := omega) only [incS_s, up_k, thC_keep] at hj
        by_cases ej : j = (X 84 10).toNat
        · subst ej
          simp (disch := omega) only [incS_k, up_k, up_s]
          exact ⟨he, hp⟩
        · simp (disch := omega) only [incS_k, up_k, up_j, thC_keep]
          exact hD.2 j (by omega)
    · exact hI.cg (by simp (disch := omega) only [incS_j, up_k, thC_keep]) (funext fun j => by simp (disch := omega) only [incS_k, up_k, thC_keep]) (funext fun j => by simp (disch := omega) only [incS_k, up_k, thC_keep])
    · simp (disch := omega) only [incS_j, up_k]
      exact hat
    · simp (disch := omega) only [incS_j, up_k, thC_keep]
theorem fo_inv (h : IV e K V N S σ) {first b : Int} (hg : FdO K (σ 84 8) b) (h0 : (foM K V N S first σ).1 = 0) : IV e K V N S (foM K V N S first σ).2 ∧ (foM K V N S first σ).2 84 8 = b ∧ (foM K V N S first σ).2 84 30 = σ 84 30 := by
  obtain ⟨g1, g2, g3, g4⟩ := hg
  have hT := h.1
  have hN1 := hT.2.2.2.1 _ g2
  unfold foM at h0 ⊢
  by_cases c1 : σ 84 10 = 16
  · rw [if_pos c1] at h0; exact absurd (show (4 : Int) = 0 from h0) (by decide)
  · rw [if_neg c1] at h0 ⊢
    by_cases c2 : tknR σ (V (σ 84 8)) = true
    · rw [if_pos c2] at h0; exact absurd (show (3 : Int) = 0 from h0) (by decide)
    · rw [if_neg c2] at h0 ⊢
      by_cases c3 : 900 < N (σ 84 8 + 1)
      · rw [if_pos c3] at h0; exact absurd (show (5 : Int) = 0 from h0) (by decide)
      · rw [if_neg c3] at h0 ⊢
        by_cases c4 : K (σ 84 8 + 2) = 16
        · rw [if_pos c4] at h0 ⊢
          obtain ⟨g5, g6⟩ : K (σ 84 8 + 3) = 23 ∧ TgO K (σ 84 8 + 4) b := by
            rcases g3 with z | z
            · exact z.2
            · exact absurd c4 z.1
          have hN3 := hT.2.2.2.1 _ g5
          by_cases c5 : 999 < N (σ 84 8 + 3)
          · rw [if_pos c5] at h0; exact absurd (show (5 : Int) = 0 from h0) (by decide)
          · rw [if_neg c5] at h0 ⊢
            have h1 : incS 8 (incS 8 (incS 8 (incS 8 σ))) 84 10 = σ 84 10 := rfl
            have h2 := fdT_inv (X := incS 8 (incS 8 (incS 8 (incS 8 σ)))) (v := V (σ 84 8)) (en := N (σ 84 8 + 1)) (pr := N (σ 84 8 + 3)) h.i8.i8.i8.i8 (by rw [h1]; exact c1) ⟨hN1.1, by omega⟩ ⟨hN3.1, by omega⟩ (b := b) (by simp only [incS_s, ad11, ad21, ad31]; exact g6) g4
            rw [h1] at h2
            exact h2 h0
        · rw [if_neg c4] at h0 ⊢
          have g6 : TgO K (σ 84 8 + 2) b := by
            rcases g3 with z | z
            · exact absurd z.1 c4
            · exact z.2
          have h1 : incS 8 (incS 8 σ) 84 10 = σ 84 10 := rfl
          have h2 := fdT_inv (X := incS 8 (incS 8 σ)) (v := V (σ 84 8)) (en := N (σ 84 8 + 1)) (pr := 0) h.i8.i8 (by rw [h1]; exact c1) ⟨hN1.1, by omega⟩ ⟨by omega, by omega⟩ (b := b) (by rw [incS_s, incS_s, ad11]; exact g6) g4
          rw [h1] at h2
          exact h2 h0
/-! dishes -/
theorem dpL_k {k : Nat} (h : k ≠ 84 ∧ (k < 95 ∨ 99 < k)) : ∀ (n : Nat) (σ : Sg), Cn σ → (dpL K V N S n σ).2 k = σ k := by
  intro n
  induction n with
  | zero => intro σ hC; rfl
  | succ n ih =>
    intro σ hC
    have hC2 : Cn (incS 8 σ) := hC
    have e1 : (ptM K V N S (incS 8 σ)).2 k = σ k := by rw [ptM_k hC2 h, incS_r _ h.1]
    simp only [dpL]
    split
    · split
      · rw [ih _ hC2.pt, e1]
      · exact e1
    · exact e1
/-- the dish that is read: its sums so far -/
def DG (σ : Sg) : Prop := (0 ≤ σ 95 (σ 84 15).toNat ∧ σ 95 (σ 84 15).toNat ≤ σ 98 (σ 84 15).toNat * 2000000000) ∧ (0 ≤ σ 96 (σ 84 15).toNat ∧ σ 96 (σ 84 15).toNat ≤ σ 98 (σ 84 15).toNat * 2000000000) ∧ ∀ f : Nat, f < 16 → 0 ≤ σ 99 (16 * (σ 84 15).toNat + f) ∧ σ 99 (16 * (σ 84 15).toNat + f) ≤ σ 98 (σ 84 15).toNat * 200000000
theorem fW_at {d x n : Int} (hd : 0 ≤ d) (hx : 0 ≤ x ∧ x < d) (a0 : Sg) : ∀ (m : Nat) (i : Int) (a : Sg), 0 ≤ i → i + m = 16 → a 94 = a0 94 → (∀ j : Nat, (j : Int) < 16 * d → a 99 j = a0 99 j) → (∀ f : Nat, f < 16 → a 99 (16 * d + f).toNat = if (f : Int) < i then a0 99 (16 * d + f).toNat + (i64 (n * a0 99 (16 * x + f).toNat)).tdiv (a0 94 x.toNat) else a0 99 (16 * d + f).toNat) → ∀ f : Nat, f < 16 → fW 16 (ptGR d x n) m i a 99 (16 * d + f).toNat = a0 99 (16 * d + f).toNat + (i64 (n * a0 99 (16 * x + f).toNat)).tdiv (a0 94 x.toNat) := by
  intro m
  induction m with
  | zero =>
    intro i a h0 hi h94 hlt h f hf
    have := h f hf
    rw [if_pos (by omega)] at this
    exact this
  | succ m ih =>
    intro i a h0 hi h94 hlt h f hf
    rw [fW_s, if_pos (by omega)]
    refine ih (i + 1) _ (by omega) (by omega) ?_ ?_ ?_ f hf
    · unfold ptGR; rw [up_r _ _ _ (by decide)]; exact h94
    · intro j hj; unfold ptGR; rw [up_j _ _ (by omega)]; exact hlt j hj
    · intro g hg
      unfold ptGR
      by_cases c : (g : Int) = i
      · have c2 : (16 * d + (g : Int)).toNat = (16 * d + i).toNat := by rw [c]
        rw [c2, up_s, if_pos (by omega)]
        have h1 := h g hg
        rw [if_neg (by omega), c2] at h1
        rw [h1, h94, hlt _ (by omega), c]
      · rw [up_j _ _ (by omega), h g hg]
        by_cases c3 : (g : Int) < i
        · rw [if_pos c3, if_pos (by omega)]
        · rw [if_neg c3, if_neg (by omega)]
theorem ptD_g {d x n : Int} (hd : 0 ≤ d) (hx : 0 ≤ x ∧ x < d) {f : Nat} (hf : f < 16) : ptD d x n σ 99 (16 * d + f).toNat = σ 99 (16 * d + f).toNat + (i64 (n * σ 99 (16 * x + f).toNat)).tdiv (σ 94 x.toNat) := by
  unfold ptD
  have h := fW_at (n := n) hd hx (up (up (up (up σ 98 d.toNat (σ 98 d.toNat + 1)) 95 d.toNat (σ 95 d.toNat + n * (σ 95 x.toNat).tdiv (σ 94 x.toNat))) 96 d.toNat (σ 96 d.toNat + n * (σ 96 x.toNat).tdiv (σ 94 x.toNat))) 97 d.toNat (ior (σ 97 d.toNat) (σ 97 x.toNat))) 16 0 _ (by omega) (by omega) rfl (fun _ _ => rfl) (fun g hg => by rw [if_neg (by omega)]) f hf
  rw [h]
  simp (disch := omega) only [up_k]
theorem ptD_95 {d x n : Int} : ptD d x n σ 95 d.toNat = σ 95 d.toNat + n * (σ 95 x.toNat).tdiv (σ 94 x.toNat) := by
  unfold ptD
  rw [fW_r (a := 95) (fun i a _ => by unfold ptGR; rw [up_r _ _ _ (by decide)]), up_r _ _ _ (by decide), up_r _ _ _ (by decide), up_s]
theorem ptD_96 {d x n : Int} : ptD d x n σ 96 d.toNat = σ 96 d.toNat + n * (σ 96 x.toNat).tdiv (σ 94 x.toNat) := by
  unfold ptD
  rw [fW_r (a := 96) (fun i a _ => by unfold ptGR; rw [up_r _ _ _ (by decide)]), up_r _ _ _ (by decide), up_s]
theorem ptF_95 {d x n : Int} : ptF d x n σ 95 d.toNat = σ 95 d.toNat + i32 ((i32 (n * σ 90 x.toNat)).tdiv 100) := by
  unfold ptF
  rw [up_r _ _ _ (by decide), up_r _ _ _ (by decide), up_r _ _ _ (by decide), up_s]
theorem ptF_96 {d x n : Int} : ptF d x n σ 96 d.toNat = σ 96 d.toNat + i32 ((i32 (n * σ 91 x.toNat)).tdiv 100) := by
  unfold ptF
  rw [up_r _ _ _ (by decide), up_r _ _ _ (by decide), up_s]
theorem ptF_g {d x n : Int} (hd : 0 ≤ d) (hx : 0 ≤ x ∧ x < 16) {f : Nat} (hf : f < 16) : ptF d x n σ 99 (16 * d + f).toNat = if (f : Int) = x then σ 99 (16 * d + f).toNat + n else σ 99 (16 * d + f).toNat := by
  unfold ptF
  by_cases c : (f : Int) = x
  · rw [if_pos c, c, up_s]
  · rw [if_neg c, up_j _ _ (by omega)]
    simp (disch := omega) only [up_k]
theorem ptM_N {b : Int} (hg : PtO K (σ 84 8) b) (h0 : (ptM K V N S σ).1 = 0) : 1 ≤ N (σ 84 8) ∧ N (σ 84 8) ≤ 2000 := by
  unfold ptM at h0
  by_cases c : σ 98 (σ 84 15).toNat = 8
  · rw [if_pos c] at h0; exact absurd (show (4 : Int) = 0 from h0) (by decide)
  · rw [if_neg c] at h0
    by_cases c2 : 1 ≤ N (σ 84 8) ∧ N (σ 84 8) ≤ 2000
    · exact c2
    · rw [if_neg c2] at h0; exact absurd (show (5 : Int) = 0 from h0) (by decide)
theorem DG.pt (h : DI e K V N S σ) (hG : DG σ) {b : Int} (hg : PtO K (σ 84 8) b) (h0 : (ptM K V N S σ).1 = 0) : DG (ptM K V N S σ).2 := by
  obtain ⟨hT, hC, hD, hd, hp⟩ := h
  obtain ⟨q1, q2, q3⟩ := hG
  have e15 : (ptM K V N S σ).2 84 15 = σ 84 15 := ptM_j hC (by decide)
  have e98 := (ptM_at hC hg h0).2
  have hn := ptM_N hg h0
  have hC2 := hC.2.1
  have ed : ∀ f : Nat, (16 * σ 84 15 + (f : Int)).toNat = 16 * (σ 84 15).toNat + f := fun f => by omega
  unfold DG
  rw [e15, e98]
  rcases ptM_cs (K := K) (V := V) (N := N) (S := S) hC with ⟨c, p, hc, q⟩ | ⟨hk, ⟨p, q⟩ | ⟨x, -, hx, q⟩⟩ | ⟨hk, ⟨p, q⟩ | ⟨x, -, hx, q⟩⟩ <;> rw [q] at h0 ⊢
  · have h0 : c = 0 := h0
    omega
  · exact absurd (show (2 : Int) = 0 from h0) (by decide)
  · obtain ⟨d1, d2, d3, d4⟩ := hD.1 x.toNat (by omega)
    have t1 := mul_bd (n := N (σ 84 8)) (A := 2000) (B := 1000000) ⟨by omega, hn.2⟩ (x := (σ 95 x.toNat).tdiv (σ 94 x.toNat)) (by have := tdiv_bd d2.1 d1.1; omega)
    have t2 := mul_bd (n := N (σ 84 8)) (A := 2000) (B := 1000000) ⟨by omega, hn.2⟩ (x := (σ 96 x.toNat).tdiv (σ 94 x.toNat)) (by have := tdiv_bd d3.1 d1.1; omega)
    dsimp only
    rw [ptD_95, ptD_96]
    simp only [incS_k (j := 8) _ (show (95 : Nat) ≠ 84 by decide), incS_k (j := 8) _ (show (94 : Nat) ≠ 84 by decide), incS_k (j := 8) _ (show (96 : Nat) ≠ 84 by decide)]
    refine ⟨by omega, by omega, fun f hf => ?_⟩
    rw [← ed f, ptD_g hC2.1 hx hf]
    simp only [incS_k (j := 8) _ (show (99 : Nat) ≠ 84 by decide), incS_k (j := 8) _ (show (94 : Nat) ≠ 84 by decide)]
    have q4 := q3 f hf
    rw [← ed f] at q4
    have d5 := d4 f hf
    have e5 : 16 * x.toNat + f = (16 * x + (f : Int)).toNat := by omega
    rw [e5] at d5
    have t3 := mul_bd (n := N (σ 84 8)) (A := 2000) (B := 100000) ⟨by omega, hn.2⟩ d5
    rw [i64_eq ⟨by omega, by omega⟩]
    have t4 := tdiv_bd (b := σ 94 x.toNat) t3.1 d1.1
    omega
  · exact absurd (show (2 : Int) = 0 from h0) (by decide)
  · obtain ⟨d1, d2⟩ := hD.2 x.toNat (by omega)
    have t1 := mul_bd (n := N (σ 84 8)) (A := 2000) (B := 900) ⟨by omega, hn.2⟩ d1
    have t2 := mul_bd (n := N (σ 84 8)) (A := 2000) (B := 999) ⟨by omega, hn.2⟩ d2
    have t3 := tdiv_bd (b := 100) t1.1 (by decide)
    have t4 := tdiv_bd (b := 100) t2.1 (by decide)
    dsimp only
    rw [ptF_95, ptF_96]
    simp only [incS_k (j := 8) _ (show (95 : Nat) ≠ 84 by decide), incS_k (j := 8) _ (show (90 : Nat) ≠ 84 by decide), incS_k (j := 8) _ (show (91 : Nat) ≠ 84 by decide), incS_k (j := 8) _ (show (96 : Nat) ≠ 84 by decide)]
    rw [i32_eq (t := N (σ 84 8) * σ 90 x.toNat) ⟨by omega, by omega⟩, i32_eq (t := N (σ 84 8) * σ 91 x.toNat) ⟨by omega, by omega⟩, i32_eq ⟨by omega, by omega⟩, i32_eq ⟨by omega, by omega⟩]
    refine ⟨by omega, by omega, fun f hf => ?_⟩
    rw [← ed f, ptF_g hC2.1 ⟨hx.1, by have := hC.1; omega⟩ hf]
    have q4 := q3 f hf
    rw [← ed f] at q4
    simp only [incS_k (j := 8) _ (show (99 : Nat) ≠ 84 by decide)]
    split <;> omega
theorem dpL_g {b : Int} : ∀ (m n : Nat) (σ : Sg), DI e K V N S σ → DG σ → LsC K (PtO K) m (σ 84 8 + 1) b → m < n → (dpL K V N S n σ).1 = 0 → DG (dpL K V N S n σ).2 := by
  intro m
  induction m with
  | zero =>
    intro n σ hD hG hg hn h0
    obtain ⟨n, rfl⟩ : ∃ q, n = q + 1 := ⟨n - 1, by omega⟩
    obtain ⟨g1, g2⟩ := hg
    have g1 : PtO K (incS 8 σ 84 8) b := by rw [incS_s]; exact g1
    simp only [dpL] at h0 ⊢
    by_cases c : (ptM K V N S (incS 8 σ)).1 = 0
    · have e1 := ptM_at hD.i8.2.1 g1 c
      have c2 : ¬ K ((ptM K V N S (incS 8 σ)).2 84 8) = 19 := by rw [e1.1]; exact g2
      rw [if_pos c, if_neg c2]
      exact DG.pt hD.i8 hG g1 c
    · rw [if_neg c] at h0; exact absurd h0 c
  | succ m ih =>
    intro n σ hD hG hg hn h0
    obtain ⟨n, rfl⟩ : ∃ q, n = q + 1 := ⟨n - 1, by omega⟩
    obtain ⟨c0, g1, g2, g3⟩ := hg
    have g1 : PtO K (incS 8 σ 84 8) c0 := by rw [incS_s]; exact g1
    simp only [dpL] at h0 ⊢
    by_cases c : (ptM K V N S (incS 8 σ)).1 = 0
    · have e1 := ptM_at hD.i8.2.1 g1 c
      have c2 : K ((ptM K V N S (incS 8 σ)).2 84 8) = 19 := by rw [e1.1]; exact g2
      rw [if_pos c, if_pos c2] at h0 ⊢
      exact ih n _ (hD.i8.pt g1 c) (DG.pt hD.i8 hG g1 c) (by rw [e1.1]; exact g3) (by omega) h0
    · rw [if_neg c] at h0; exact absurd h0 c
theorem dsZ_95 {d n2 : Int} : dsZ d n2 σ 95 d.toNat = 0 ∧ dsZ d n2 σ 96 d.toNat = 0 ∧ dsZ d n2 σ 97 d.toNat = 0 ∧ dsZ d n2 σ 94 d.toNat = n2 := by
  unfold dsZ
  refine ⟨?_, ?_, ?_, ?_⟩
  · rw [fW_r (a := 95) (fun i a _ => by unfold dzG; rw [up_r _ _ _ (by decide)]), up_r _ _ _ (by decide), up_r _ _ _ (by decide), up_r _ _ _ (by decide), up_s]
  · rw [fW_r (a := 96) (fun i a _ => by unfold dzG; rw [up_r _ _ _ (by decide)]), up_r _ _ _ (by decide), up_r _ _ _ (by decide), up_s]
  · rw [fW_r (a := 97) (fun i a _ => by unfold dzG; rw [up_r _ _ _ (by decide)]), up_r _ _ _ (by decide), up_s]
  · rw [fW_r (a := 94) (fun i a _ => by unfold dzG; rw [up_r _ _ _ (by decide)]), up_r _ _ _ (by decide), up_r _ _ _ (by decide), up_r _ _ _ (by decide), up_r _ _ _ (by decide), incS_r _ (by decide), up_s]
theorem dzG_at {d : Int} (hd : 0 ≤ d) : ∀ (m : Nat) (i : Int) (a : Sg), 0 ≤ i → i + m = 16 → (∀ f : Nat, (f : Int) < i → f < 16 → a 99 (16 * d + f).toNat = 0) → ∀ f : Nat, f < 16 → fW 16 (dzG d) m i a 99 (16 * d + f).toNat = 0 := by
  intro m
  induction m with
  | zero => intro i a h0 hi h f hf; exact h f (by omega) hf
  | succ m ih =>
    intro i a h0 hi h f hf
    rw [fW_s, if_pos (by omega)]
    refine ih (i + 1) _ (by omega) (by omega) ?_ f hf
    intro g hg hg2
    unfold dzG
    by_cases c : (g : Int) = i
    · rw [c, up_s]
    · rw [up_j _ _ (by omega)]; exact h g (by omega) hg2
theorem dsZ_g {d n2 : Int} (hd : 0 ≤ d) {f : Nat} (hf : f < 16) : dsZ d n2 σ 99 (16 * d + f).toNat = 0 := dzG_at hd 16 0 _ (by omega) (by omega) (fun g hg _ => by omega) f hf
theorem DG.z {n2 : Int} (hC : Cn σ) : DG (dsZ (σ 84 15) n2 σ) := by
  have e1 : dsZ (σ 84 15) n2 σ 84 15 = σ 84 15 := dsZ_j (by decide)
  obtain ⟨a1, a2, a3, a4⟩ := dsZ_95 (σ := σ) (d := σ 84 15) (n2 := n2)
  unfold DG
  rw [e1, a1, a2, dsZ_98]
  refine ⟨by omega, by omega, fun f hf => ?_⟩
  have hC2 := hC.2.1
  have ed : 16 * (σ 84 15).toNat + f = (16 * σ 84 15 + (f : Int)).toNat := by omega
  rw [ed, dsZ_g hC2.1 hf]; omega
/-- a sum of sixteen that are not negative is no less than each -/
theorem dsS_bd {d : Int} (hd : 0 ≤ d) (B : Int) (h : ∀ f : Nat, f < 16 → 0 ≤ σ 99 (16 * d + f).toNat ∧ σ 99 (16 * d + f).toNat ≤ B) : ∀ (m : Nat) (i s : Int), 0 ≤ i → i + m = 16 → 0 ≤ s → s ≤ fW 16 (dsG σ d) m i s ∧ fW 16 (dsG σ d) m i s ≤ s + m * B ∧ ∀ f : Nat, f < 16 → i ≤ f → s + σ 99 (16 * d + f).toNat ≤ fW 16 (dsG σ d) m i s
  | 0, i, s, h0, hi, hs => ⟨Int.le_refl _, by simp [fW], fun f hf hf2 => by omega⟩
  | m + 1, i, s, h0, hi, hs => by
    rw [fW_s, if_pos (by omega)]
    have hB := h i.toNat (by omega)
    rw [show ((i.toNat : Nat) : Int) = i from by omega] at hB
    obtain ⟨r1, r2, r3⟩ := dsS_bd hd B h m (i + 1) (dsG σ d i s) (by omega) (by omega) (by unfold dsG; omega)
    have r4 : dsG σ d i s = s + σ 99 (16 * d + i).toNat := rfl
    rw [r4] at r1 r2 r3 ⊢
    have r5 : ((m + 1 : Nat) : Int) * B = m * B + B := by rw [Int.natCast_add, Int.add_mul]; simp
    refine ⟨by omega, by omega, fun f hf hf2 => ?_⟩
    by_cases c : (f : Int) = i
    · rw [c]; omega
    · have := r3 f hf (by omega)
      omega
theorem ds_inv (h : IV e K V N S σ) {first b : Int} (hg : DsO K (σ 84 8) b) (h0 : (dsM K V N S first σ).1 = 0) : IV e K V N S (dsM K V N S first σ).2 ∧ (dsM K V N S first σ).2 84 8 = b ∧ (dsM K V N S first σ).2 84 30 = σ 84 30 := by
  obtain ⟨hT, hC, hD, hI⟩ := h
  obtain ⟨g1, g2, g3, g4, m, c, g5, g6, g7⟩ := hg
  have hN2 := hT.2.2.2.1 _ g3
  have hC2 := hC.2.1
  unfold dsM at h0 ⊢
  by_cases c1 : σ 84 15 = 16
  · rw [if_pos c1] at h0; exact absurd (show (4 : Int) = 0 from h0) (by decide)
  · rw [if_neg c1] at h0 ⊢
    by_cases c2 : tknR σ (V (σ 84 8)) = true
    · rw [if_pos c2] at h0; exact absurd (show (3 : Int) = 0 from h0) (by decide)
    · rw [if_neg c2] at h0 ⊢
      by_cases c3 : 1 ≤ N (σ 84 8 + 2) ∧ N (σ 84 8 + 2) ≤ 20
      · rw [if_pos c3] at h0 ⊢
        have hDZ : DI e K V N S (dsZ (σ 84 15) (N (σ 84 8 + 2)) σ) := DI.z hT hC hD (by omega)
        have hgz : LsC K (PtO K) m (dsZ (σ 84 15) (N (σ 84 8 + 2)) σ 84 8 + 1) c := by rw [dsZ_8, ad31]; exact g5
        have hml := LsC_le hT m _ g5
        have hmc : c ≤ e := by
          have hce := LsC_end hT m _ g5
          have := hT.in hce (by decide)
          omega
        have hme := hT.e
        have ha2 := hT.in g3 (by decide)
        have hm : m < 1501 := by omega
        have eK : ∀ k : Nat, k ≠ 84 ∧ (k < 94 ∨ 99 < k) → (dpL K V N S 1501 (dsZ (σ 84 15) (N (σ 84 8 + 2)) σ)).2 k = σ k := fun k hk => by rw [dpL_k ⟨hk.1, by omega⟩ _ _ hDZ.2.1, dsZ_k hk]
        have eJ : ∀ j : Nat, j ≠ 4 ∧ j ≠ 8 → (dpL K V N S 1501 (dsZ (σ 84 15) (N (σ 84 8 + 2)) σ)).2 84 j = σ 84 j := fun j hj => by rw [dpL_j hj _ _ hDZ.2.1, dsZ_j hj.2]
        have e94 : (dpL K V N S 1501 (dsZ (σ 84 15) (N (σ 84 8 + 2)) σ)).2 94 (σ 84 15).toNat = N (σ 84 8 + 2) := by rw [dpL_k (by decide) _ _ hDZ.2.1]; exact dsZ_95.2.2.2
        unfold dsP at h0 ⊢
        by_cases c4 : (dpL K V N S 1501 (dsZ (σ 84 15) (N (σ 84 8 + 2)) σ)).1 = 0
        · rw [if_pos c4] at h0 ⊢
          obtain ⟨hDI, hqa⟩ := dpL_inv m 1501 _ hDZ hgz hm c4
          have hDG := dpL_g m 1501 _ hDZ (DG.z hC) hgz hm c4
          generalize (dpL K V N S 1501 (dsZ (σ 84 15) (N (σ 84 8 + 2)) σ)).2 = X at h0 hDI hqa hDG eK eJ e94 ⊢
          obtain ⟨xT, xC, xD, xd, xp⟩ := hDI
          obtain ⟨y1, y2, y3⟩ := hDG
          have e15 := eJ 15 (by decide)
          rw [e15] at y1 y2 y3 xp
          unfold dsE at h0 ⊢
          by_cases c5 : (thC K V X).1 = -1
          · rw [if_pos c5] at h0; exact absurd (show (4 : Int) = 0 from h0) (by decide)
          · rw [if_neg c5] at h0 ⊢
            have hgt : TgO K (X 84 8) b := by rw [hqa]; exact g6
            have hat := thC_b (V := V) xT hgt (by rw [g7]; decide) c5
            have h36 := thC_36 (K := K) (V := V) (σ := X) xC.2.2.2.2.2
            have hgr : ∀ f : Nat, f < 16 → 0 ≤ dsT K V (σ 84 15) X 99 (16 * σ 84 15 + (f : Int)).toNat ∧ dsT K V (σ 84 15) X 99 (16 * σ 84 15 + (f : Int)).toNat ≤ 1600000000 := by
              intro f hf
              rw [dsT_k (by decide), thC_keep (by omega)]
              have := y3 f hf
              rw [show 16 * (σ 84 15).toNat + f = (16 * σ 84 15 + (f : Int)).toNat from by omega] at this
              omega
            obtain ⟨s1, s2, s3⟩ := dsS_bd hC2.1 1600000000 hgr 16 0 0 (by omega) (by omega) (by omega)
            have s1 : 0 ≤ dsS (σ 84 15) (dsT K V (σ 84 15) X) := s1
            have s2 : dsS (σ 84 15) (dsT K V (σ 84 15) X) ≤ 0 + (16 : Nat) * 1600000000 := s2
            rw [i64_eq (t := dsS (σ 84 15) (dsT K V (σ 84 15) X)) ⟨by omega, by omega⟩, i64_eq (t := X 95 (σ 84 15).toNat) ⟨by omega, by omega⟩, i64_eq (t := X 96 (σ 84 15).toNat) ⟨by omega, by omega⟩] at h0 ⊢
            by_cases c6 : 100000 < dsS (σ 84 15) (dsT K V (σ 84 15) X) ∨ 1000000 < X 95 (σ 84 15).toNat ∨ 1000000 < X 96 (σ 84 15).toNat
            · rw [if_pos c6] at h0; exact absurd (show (5 : Int) = 0 from h0) (by decide)
            · rw [if_neg c6]
              dsimp only
              obtain ⟨hC1', hC2', hC3', hC4', hC5', hC6'⟩ := xC
              have hgr2 : ∀ f : Nat, f < 16 → 0 ≤ X 99 (16 * (σ 84 15).toNat + f) ∧ X 99 (16 * (σ 84 15).toNat + f) ≤ 100000 := by
                intro f hf
                have r1 := s3 f hf (by omega)
                have r1 : 0 + dsT K V (σ 84 15) X 99 (16 * σ 84 15 + (f : Int)).toNat ≤ dsS (σ 84 15) (dsT K V (σ 84 15) X) := r1
                rw [dsT_k (by decide), thC_keep (by omega), show (16 * σ 84 15 + (f : Int)).toNat = 16 * (σ 84 15).toNat + f from by omega] at r1
                have := y3 f hf
                omega
              refine ⟨⟨Tk.i (by decide) (Tk.x (by decide) (Tk.x (by decide) (xT.tC V))), ?_, ?_, ?_⟩, ?_, ?_⟩
              · unfold Cn
                simp (disch := omega) only [incS_s, incS_j, up_k, dsT_k, thC_keep]
                exact ⟨hC1', ⟨by omega, by omega⟩, hC3', hC4', hC5', h36⟩
              · refine ⟨fun j hj => ?_, fun j hj => ?_⟩
                · simp (disch := omega) only [incS_s, up_k, dsT_k, thC_keep] at hj
                  simp (disch := omega) only [incS_k, up_k, dsT_k, thC_keep]
                  by_cases ej : j = (σ 84 15).toNat
                  · subst ej
                    rw [e94]
                    exact ⟨c3, by omega, by omega, hgr2⟩
                  · exact xD.1 j (by omega)
                · simp (disch := omega) only [incS_j, incS_k, up_k, dsT_k, thC_keep] at hj ⊢
                  exact xD.2 j hj
              · exact hI.cg (by simp (disch := omega) only [incS_j, up_k, dsT_k, thC_keep]; exact eJ 25 (by decide)) (funext fun j => by simp (disch := omega) only [incS_k, up_k, dsT_k, thC_keep]; rw [eK 103 (by decide)]) (funext fun j => by simp (disch := omega) only [incS_k, up_k, dsT_k, thC_keep]; rw [eK 104 (by decide)])
              · simp (disch := omega) only [incS_j, up_k, dsT_k]
                exact hat
              · simp (disch := omega) only [incS_j, up_k, dsT_k, thC_keep]
                exact eJ 30 (by decide)
        · rw [if_neg c4] at h0; exact absurd h0 c4
      · rw [if_neg c3] at h0; exact absurd (show (5 : Int) = 0 from h0) (by decide)
end S41
