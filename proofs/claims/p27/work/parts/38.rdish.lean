/-! the reference: meaning: dishes -/
section S38
variable {l : Launch} {G : Gx}
variable {σ : Sg} {e : Int} {K V N S : Int → Int}
theorem ptD_k {d x n : Int} {k : Nat} (h : k < 95 ∨ 99 < k) : ptD d x n σ k = σ k := by
  unfold ptD
  rw [fW_r (fun i a _ => by unfold ptGR; rw [up_r _ _ _ (by omega)]), up_r _ _ _ (by omega), up_r _ _ _ (by omega), up_r _ _ _ (by omega), up_r _ _ _ (by omega)]
theorem ptF_k {d x n : Int} {k : Nat} (h : k < 95 ∨ 99 < k) : ptF d x n σ k = σ k := by
  unfold ptF
  rw [up_r _ _ _ (by omega), up_r _ _ _ (by omega), up_r _ _ _ (by omega), up_r _ _ _ (by omega), up_r _ _ _ (by omega)]
theorem ptD_98 {d x n : Int} : ptD d x n σ 98 d.toNat = σ 98 d.toNat + 1 := by
  unfold ptD
  rw [fW_r (a := 98) (fun i a _ => by unfold ptGR; rw [up_r _ _ _ (by decide)]), up_r _ _ _ (by decide), up_r _ _ _ (by decide), up_r _ _ _ (by decide), up_s]
theorem ptF_98 {d x n : Int} : ptF d x n σ 98 d.toNat = σ 98 d.toNat + 1 := by
  unfold ptF
  rw [up_r _ _ _ (by decide), up_r _ _ _ (by decide), up_r _ _ _ (by decide), up_r _ _ _ (by decide), up_s]
theorem ptD_j {d x n : Int} {k j : Nat} (hk : k < 99) (h : j ≠ d.toNat) : ptD d x n σ k j = σ k j := by
  unfold ptD
  rw [fW_r (fun i a _ => by unfold ptGR; rw [up_r _ _ _ (by omega)]), up_j _ _ h, up_j _ _ h, up_j _ _ h, up_j _ _ h]
theorem ptF_j {d x n : Int} {k j : Nat} (hk : k < 99) (h : j ≠ d.toNat) : ptF d x n σ k j = σ k j := by
  unfold ptF
  rw [up_k _ _ (by omega), up_j _ _ h, up_j _ _ h, up_j _ _ h, up_j _ _ h]
theorem fW_keep2 {α : Type} {sz : Int} {g : Int → α → α} (v : α → Int) (h : ∀ i a, 0 ≤ i → v (g i a) = v a) : ∀ (n : Nat) (i : Int) (a : α), 0 ≤ i → v (fW sz g n i a) = v a := by
  intro n
  induction n with
  | zero => intro i a _; rfl
  | succ n ih =>
    intro i a hi
    rw [fW_s]
    split
    · rw [ih _ _ (by omega), h _ _ hi]
    · rfl
theorem ptD_99 {d x n : Int} {j : Nat} (hd : 0 ≤ d) (h : (j : Int) < 16 * d) : ptD d x n σ 99 j = σ 99 j := by
  unfold ptD
  rw [fW_keep2 (fun a : Sg => a 99 j) (fun i a hi => by unfold ptGR; rw [up_j _ _ (by omega)]) 16 0 _ (by omega), up_k _ _ (by decide), up_k _ _ (by decide), up_k _ _ (by decide), up_k _ _ (by decide)]
theorem ptF_99 {d x n : Int} {j : Nat} (hd : 0 ≤ d) (hx : 0 ≤ x) (h : (j : Int) < 16 * d) : ptF d x n σ 99 j = σ 99 j := by
  unfold ptF
  rw [up_j _ _ (by omega), up_k _ _ (by decide), up_k _ _ (by decide), up_k _ _ (by decide), up_k _ _ (by decide)]
theorem ptM_cs (hC : Cn σ) : (∃ c p, (c = 4 ∨ c = 5) ∧ ptM K V N S σ = (c, up σ 84 4 p)) ∨
    (K (σ 84 8 + 1) = 4 ∧ ((∃ p, ptM K V N S σ = (2, up (incS 8 (incS 8 σ)) 84 4 p)) ∨ ∃ x, x = fnC σ 93 (σ 84 15) (V (σ 84 8 + 2)) ∧ (0 ≤ x ∧ x < σ 84 15) ∧ ptM K V N S σ = (0, ptD (σ 84 15) x (N (σ 84 8)) (incS 8 (incS 8 (incS 8 σ)))))) ∨
    (K (σ 84 8 + 1) ≠ 4 ∧ ((∃ p, ptM K V N S σ = (2, up (incS 8 σ) 84 4 p)) ∨ ∃ x, x = fnC σ 89 (σ 84 10) (V (σ 84 8 + 1)) ∧ (0 ≤ x ∧ x < σ 84 10) ∧ ptM K V N S σ = (0, ptF (σ 84 15) x (N (σ 84 8)) (incS 8 (incS 8 σ))))) := by
  unfold ptM
  split
  · exact Or.inl ⟨4, _, Or.inl rfl, rfl⟩
  · split
    · split
      · rename_i h1 h2 h3
        refine Or.inr (Or.inl ⟨h3, ?_⟩)
        unfold ptX
        split
        · exact Or.inl ⟨_, rfl⟩
        · rename_i h4
          have := fnC_in (σ := σ) (ka := 93) (v := V (σ 84 8 + 2)) hC.2.1
          exact Or.inr ⟨_, rfl, ⟨by omega, by omega⟩, rfl⟩
      · rename_i h1 h2 h3
        refine Or.inr (Or.inr ⟨h3, ?_⟩)
        unfold ptX
        split
        · exact Or.inl ⟨_, rfl⟩
        · rename_i h4
          have := fnC_in (σ := σ) (ka := 89) (v := V (σ 84 8 + 1)) hC.1
          exact Or.inr ⟨_, rfl, ⟨by omega, by omega⟩, rfl⟩
    · exact Or.inl ⟨5, _, Or.inr rfl, rfl⟩
theorem ptM_k (hC : Cn σ) {k : Nat} (h : k ≠ 84 ∧ (k < 95 ∨ 99 < k)) : (ptM K V N S σ).2 k = σ k := by
  rcases ptM_cs (K := K) (V := V) (N := N) (S := S) hC with ⟨c, p, -, q⟩ | ⟨-, ⟨p, q⟩ | ⟨x, -, -, q⟩⟩ | ⟨-, ⟨p, q⟩ | ⟨x, -, -, q⟩⟩ <;> rw [q]
  · exact up_r _ _ _ h.1
  · dsimp only
    rw [up_r _ _ _ h.1, incS_r _ h.1, incS_r _ h.1]
  · dsimp only
    rw [ptD_k h.2, incS_r _ h.1, incS_r _ h.1, incS_r _ h.1]
  · dsimp only
    rw [up_r _ _ _ h.1, incS_r _ h.1]
  · dsimp only
    rw [ptF_k h.2, incS_r _ h.1, incS_r _ h.1]
theorem ptM_j (hC : Cn σ) {j : Nat} (h : j ≠ 4 ∧ j ≠ 8) : (ptM K V N S σ).2 84 j = σ 84 j := by
  rcases ptM_cs (K := K) (V := V) (N := N) (S := S) hC with ⟨c, p, -, q⟩ | ⟨-, ⟨p, q⟩ | ⟨x, -, -, q⟩⟩ | ⟨-, ⟨p, q⟩ | ⟨x, -, -, q⟩⟩ <;> rw [q]
  · exact up_j _ _ h.1
  · dsimp only
    rw [up_j _ _ h.1, incS_j _ h.2, incS_j _ h.2]
  · dsimp only
    rw [ptD_k (by omega), incS_j _ h.2, incS_j _ h.2, incS_j _ h.2]
  · dsimp only
    rw [up_j _ _ h.1, incS_j _ h.2]
  · dsimp only
    rw [ptF_k (by omega), incS_j _ h.2, incS_j _ h.2]
theorem ptM_d (hC : Cn σ) {k j : Nat} (hk : 84 < k ∧ k < 99) (h : j ≠ (σ 84 15).toNat) : (ptM K V N S σ).2 k j = σ k j := by
  have hk84 : k ≠ 84 := by omega
  rcases ptM_cs (K := K) (V := V) (N := N) (S := S) hC with ⟨c, p, -, q⟩ | ⟨-, ⟨p, q⟩ | ⟨x, -, -, q⟩⟩ | ⟨-, ⟨p, q⟩ | ⟨x, -, -, q⟩⟩ <;> rw [q]
  · exact up_k _ _ hk84
  · dsimp only
    rw [up_k _ _ hk84, incS_k _ hk84, incS_k _ hk84]
  · dsimp only
    rw [ptD_j hk.2 h, incS_k _ hk84, incS_k _ hk84, incS_k _ hk84]
  · dsimp only
    rw [up_k _ _ hk84, incS_k _ hk84]
  · dsimp only
    rw [ptF_j hk.2 h, incS_k _ hk84, incS_k _ hk84]
theorem ptM_99 (hC : Cn σ) {j : Nat} (h : (j : Int) < 16 * σ 84 15) : (ptM K V N S σ).2 99 j = σ 99 j := by
  rcases ptM_cs (K := K) (V := V) (N := N) (S := S) hC with ⟨c, p, -, q⟩ | ⟨-, ⟨p, q⟩ | ⟨x, -, -, q⟩⟩ | ⟨-, ⟨p, q⟩ | ⟨x, -, hx, q⟩⟩ <;> rw [q]
  · dsimp only
    rw [up_k _ _ (by decide)]
  · dsimp only
    rw [up_k _ _ (by decide), incS_k _ (by decide), incS_k _ (by decide)]
  · dsimp only
    rw [ptD_99 hC.2.1.1 h, incS_k _ (by decide), incS_k _ (by decide), incS_k _ (by decide)]
  · dsimp only
    rw [up_k _ _ (by decide), incS_k _ (by decide)]
  · dsimp only
    rw [ptF_99 hC.2.1.1 hx.1 h, incS_k _ (by decide), incS_k _ (by decide)]
theorem ptM_res (hC : Cn σ) : (ptM K V N S σ).1 = 0 ∨ (ptM K V N S σ).1 = 2 ∨ (ptM K V N S σ).1 = 4 ∨ (ptM K V N S σ).1 = 5 := by
  rcases ptM_cs (K := K) (V := V) (N := N) (S := S) hC with ⟨c, p, hc, q⟩ | ⟨-, ⟨p, q⟩ | ⟨x, -, -, q⟩⟩ | ⟨-, ⟨p, q⟩ | ⟨x, -, -, q⟩⟩ <;> rw [q]
  · rcases hc with rfl | rfl
    · exact Or.inr (Or.inr (Or.inl rfl))
    · exact Or.inr (Or.inr (Or.inr rfl))
  · exact Or.inr (Or.inl rfl)
  · exact Or.inl rfl
  · exact Or.inr (Or.inl rfl)
  · exact Or.inl rfl
theorem ptM_i32 (hC : Cn σ) : i32 (ptM K V N S σ).1 = (ptM K V N S σ).1 := i32_n _ (by have := ptM_res (K := K) (V := V) (N := N) (S := S) hC; omega)
theorem ptM_at (hC : Cn σ) {b : Int} (hg : PtO K (σ 84 8) b) (h0 : (ptM K V N S σ).1 = 0) : (ptM K V N S σ).2 84 8 = b ∧ (ptM K V N S σ).2 98 (σ 84 15).toNat = σ 98 (σ 84 15).toNat + 1 := by
  obtain ⟨g1, g2⟩ := hg
  rcases ptM_cs (K := K) (V := V) (N := N) (S := S) hC with ⟨c, p, hc, q⟩ | ⟨hk, ⟨p, q⟩ | ⟨x, -, -, q⟩⟩ | ⟨hk, ⟨p, q⟩ | ⟨x, -, -, q⟩⟩ <;> rw [q] at h0 ⊢
  · have h0 : c = 0 := h0
    omega
  · exact absurd (show (2 : Int) = 0 from h0) (by decide)
  · refine ⟨?_, ?_⟩
    · dsimp only
      rw [ptD_k (by decide), incS_s, incS_s, incS_s]
      rcases g2 with z | z
      · omega
      · exact absurd (hk.symm.trans z.1) (by decide)
    · dsimp only
      rw [ptD_98, incS_k _ (by decide), incS_k _ (by decide), incS_k _ (by decide)]
  · exact absurd (show (2 : Int) = 0 from h0) (by decide)
  · refine ⟨?_, ?_⟩
    · dsimp only
      rw [ptF_k (by decide), incS_s, incS_s]
      rcases g2 with z | z
      · exact absurd z.1 hk
      · omega
    · dsimp only
      rw [ptF_98, incS_k _ (by decide), incS_k _ (by decide)]
theorem ptM_8 (h0 : (ptM K V N S σ).1 = 0) : σ 98 (σ 84 15).toNat ≠ 8 := by
  intro c
  unfold ptM at h0
  rw [if_pos c] at h0
  exact absurd (show (4 : Int) = 0 from h0) (by decide)
theorem Tk.pt (hC : Cn σ) (h : Tk σ e K V N S) : Tk (ptM K V N S σ).2 e K V N S := h.cg (ptM_j hC (by decide)) (ptM_j hC (by decide)) (ptM_k hC (by decide)) (ptM_k hC (by decide)) (ptM_k hC (by decide)) (ptM_k hC (by decide))
theorem Cn.cg {σ τ : Sg} (h : Cn σ) (h1 : τ 84 10 = σ 84 10) (h2 : τ 84 15 = σ 84 15) (h3 : τ 84 23 = σ 84 23) (h4 : τ 84 25 = σ 84 25) (h5 : τ 84 30 = σ 84 30) (h6 : τ 84 36 = σ 84 36) : Cn τ := by
  unfold Cn
  rw [h1, h2, h3, h4, h5, h6]; exact h
theorem Cn.pt (hC : Cn σ) : Cn (ptM K V N S σ).2 := hC.cg (ptM_j hC (by decide)) (ptM_j hC (by decide)) (ptM_j hC (by decide)) (ptM_j hC (by decide)) (ptM_j hC (by decide)) (ptM_j hC (by decide))
theorem Dn.cg {σ τ : Sg} (h : Dn σ) (h1 : τ 84 10 = σ 84 10) (h2 : τ 84 15 = σ 84 15) (h3 : ∀ j : Nat, (j : Int) < σ 84 15 → τ 94 j = σ 94 j ∧ τ 95 j = σ 95 j ∧ τ 96 j = σ 96 j ∧ ∀ f : Nat, f < 16 → τ 99 (16 * j + f) = σ 99 (16 * j + f)) (h4 : τ 90 = σ 90) (h5 : τ 91 = σ 91) : Dn τ := by
  refine ⟨fun j hj => ?_, fun j hj => ?_⟩
  · rw [h2] at hj
    obtain ⟨a1, a2, a3, a4⟩ := h3 j hj
    obtain ⟨b1, b2, b3, b4⟩ := h.1 j hj
    rw [a1, a2, a3]
    exact ⟨b1, b2, b3, fun f hf => by rw [a4 f hf]; exact b4 f hf⟩
  · rw [h1] at hj
    rw [h4, h5]
    exact h.2 j hj
theorem Dn.pt (hC : Cn σ) (h : Dn σ) : Dn (ptM K V N S σ).2 := h.cg (ptM_j hC (by decide)) (ptM_j hC (by decide)) (fun j hj => ⟨ptM_d hC (by decide) (by omega), ptM_d hC (by decide) (by omega), ptM_d hC (by decide) (by omega), fun f hf => ptM_99 hC (by omega)⟩) (ptM_k hC (by decide)) (ptM_k hC (by decide))
/-- while a dish is read -/
def DI (e : Int) (K V N S : Int → Int) (σ : Sg) : Prop := Tk σ e K V N S ∧ Cn σ ∧ Dn σ ∧ σ 84 15 < 16 ∧ 0 ≤ σ 98 (σ 84 15).toNat ∧ σ 98 (σ 84 15).toNat ≤ 8
theorem DI.i8 (h : DI e K V N S σ) : DI e K V N S (incS 8 σ) := by
  obtain ⟨h1, h2, h3, h4, h5⟩ := h
  exact ⟨h1.i (by decide), h2, h3, h4, h5⟩
theorem DI.pt (h : DI e K V N S σ) {b : Int} (hg : PtO K (σ 84 8) b) (h0 : (ptM K V N S σ).1 = 0) : DI e K V N S (ptM K V N S σ).2 := by
  obtain ⟨h1, h2, h3, h4, h5⟩ := h
  have e1 : (ptM K V N S σ).2 84 15 = σ 84 15 := ptM_j h2 (by decide)
  have e2 := ptM_at h2 hg h0
  have e3 := ptM_8 h0
  refine ⟨h1.pt h2, h2.pt, h3.pt h2, by rw [e1]; exact h4, ?_⟩
  rw [e1, e2.2]; omega
def dpL (K V N S : Int → Int) : Nat → Sg → Int × Sg
  | 0, σ => (0, σ)
  | n + 1, σ => if (ptM K V N S (incS 8 σ)).1 = 0 then (if K ((ptM K V N S (incS 8 σ)).2 84 8) = 19 then dpL K V N S n (ptM K V N S (incS 8 σ)).2 else (0, (ptM K V N S (incS 8 σ)).2)) else ((ptM K V N S (incS 8 σ)).1, (ptM K V N S (incS 8 σ)).2)
theorem dpL_inv {b : Int} : ∀ (m n : Nat) (σ : Sg), DI e K V N S σ → LsC K (PtO K) m (σ 84 8 + 1) b → m < n → (dpL K V N S n σ).1 = 0 → DI e K V N S (dpL K V N S n σ).2 ∧ (dpL K V N S n σ).2 84 8 = b := by
  intro m
  induction m with
  | zero =>
    intro n σ hD hg hn h0
    obtain ⟨n, rfl⟩ : ∃ q, n = q + 1 := ⟨n - 1, by omega⟩
    obtain ⟨g1, g2⟩ := hg
    have g1 : PtO K (incS 8 σ 84 8) b := by rw [incS_s]; exact g1
    simp only [dpL] at h0 ⊢
    by_cases c : (ptM K V N S (incS 8 σ)).1 = 0
    · have e1 := ptM_at hD.i8.2.1 g1 c
      have c2 : ¬ K ((ptM K V N S (incS 8 σ)).2 84 8) = 19 := by rw [e1.1]; exact g2
      rw [if_pos c, if_neg c2]
      exact ⟨hD.i8.pt g1 c, e1.1⟩
    · rw [if_neg c] at h0; exact absurd h0 c
  | succ m ih =>
    intro n σ hD hg hn h0
    obtain ⟨n, rfl⟩ : ∃ q, n = q + 1 := ⟨n - 1, by omega⟩
    obtain ⟨c0, g1, g2, g3⟩ := hg
    have g1 : PtO K (incS 8 σ 84 8) c0 := by rw [incS_s]; exact g1
    simp only [dpL] at h0 ⊢
    by_cases c : (ptM K V N S (incS 8 σ)).1 = 0
    · have e1 := ptM_at hD.i8.2.1 g1 c
      have c2 : K ((ptM K V N S (incS 8 σ)).2 84 8) = 19 := by rw [e1.1]; exact g2
      rw [if_pos c, if_pos c2] at h0 ⊢
      exact ih n _ (hD.i8.pt g1 c) (by rw [e1.1]; exact g3) (by omega) h0
    · rw [if_neg c] at h0; exact absurd h0 c
theorem dpL_j {j : Nat} (h : j ≠ 4 ∧ j ≠ 8) : ∀ (n : Nat) (σ : Sg), Cn σ → (dpL K V N S n σ).2 84 j = σ 84 j := by
  intro n
  induction n with
  | zero => intro σ hC; rfl
  | succ n ih =>
    intro σ hC
    have hC2 : Cn (incS 8 σ) := hC
    have e1 : (ptM K V N S (incS 8 σ)).2 84 j = σ 84 j := by rw [ptM_j hC2 h, incS_j _ h.2]
    simp only [dpL]
    split
    · split
      · rw [ih _ hC2.pt, e1]
      · exact e1
    · exact e1
def dzG (d i : Int) (a : Sg) : Sg := up a 99 (16 * d + i).toNat 0
def dsZ (d n2 : Int) (σ : Sg) : Sg := fW 16 (dzG d) 16 0 (up (up (up (up (incS 8 (up (up σ 84 8 (σ 84 8 + 2)) 94 d.toNat n2)) 95 d.toNat 0) 96 d.toNat 0) 97 d.toNat 0) 98 d.toNat 0)
def dsG (σ : Sg) (d i s : Int) : Int := s + σ 99 (16 * d + i).toNat
def dsS (d : Int) (σ : Sg) : Int := fW 16 (dsG σ d) 16 0 0
def dsT (K V : Int → Int) (d : Int) (σ : Sg) : Sg := up (thC K V σ).2 97 d.toNat (ior (σ 97 d.toNat) (thC K V σ).1)
theorem dsT_k {K V : Int → Int} {d : Int} {σ : Sg} {k j : Nat} (h : k ≠ 97) : dsT K V d σ k j = (thC K V σ).2 k j := up_k _ _ h
def dsE (K V S : Int → Int) (d nm : Int) (σ : Sg) : Int × Sg := if (thC K V σ).1 = -1 then (4, up (thC K V σ).2 84 4 (S ((thC K V σ).2 84 8))) else if 100000 < i64 (dsS d (dsT K V d σ)) ∨ 1000000 < i64 (σ 95 d.toNat) ∨ 1000000 < i64 (σ 96 d.toNat) then (5, up (dsT K V d σ) 84 4 (S nm)) else (0, incS 15 (up (dsT K V d σ) 93 d.toNat (V nm)))
def dsP (K V S : Int → Int) (d nm : Int) (q : Int × Sg) : Int × Sg := if q.1 = 0 then dsE K V S d nm q.2 else q
def dsM (K V N S : Int → Int) (first : Int) (σ : Sg) : Int × Sg :=
  if σ 84 15 = 16 then (4, up σ 84 4 (S first))
  else if tknR σ (V (σ 84 8)) = true then (3, up σ 84 4 (S (σ 84 8)))
  else if 1 ≤ N (σ 84 8 + 2) ∧ N (σ 84 8 + 2) ≤ 20 then dsP K V S (σ 84 15) (σ 84 8) (dpL K V N S 1501 (dsZ (σ 84 15) (N (σ 84 8 + 2)) σ))
  else (5, up (up σ 84 8 (σ 84 8 + 2)) 84 4 (S (σ 84 8 + 2)))
theorem dsZ_k {d n2 : Int} {k : Nat} (h : k ≠ 84 ∧ (k < 94 ∨ 99 < k)) : dsZ d n2 σ k = σ k := by
  unfold dsZ
  rw [fW_r (fun i a _ => by unfold dzG; rw [up_r _ _ _ (by omega)]), up_r _ _ _ (by omega), up_r _ _ _ (by omega), up_r _ _ _ (by omega), up_r _ _ _ (by omega), incS_r _ h.1, up_r _ _ _ (by omega), up_r _ _ _ h.1]
theorem dsZ_j {d n2 : Int} {j : Nat} (h : j ≠ 8) : dsZ d n2 σ 84 j = σ 84 j := by
  unfold dsZ
  rw [fW_r (a := 84) (fun i a _ => by unfold dzG; rw [up_r _ _ _ (by decide)]), up_r _ _ _ (by decide), up_r _ _ _ (by decide), up_r _ _ _ (by decide), up_r _ _ _ (by decide), incS_j _ h, up_r _ _ _ (by decide), up_j _ _ h]
theorem dsZ_8 {d n2 : Int} : dsZ d n2 σ 84 8 = σ 84 8 + 3 := by
  unfold dsZ
  rw [fW_r (a := 84) (fun i a _ => by unfold dzG; rw [up_r _ _ _ (by decide)]), up_r _ _ _ (by decide), up_r _ _ _ (by decide), up_r _ _ _ (by decide), up_r _ _ _ (by decide), incS_s, up_r _ _ _ (by decide), up_s]
  omega
theorem dsZ_d {d n2 : Int} {k j : Nat} (hk : 84 < k ∧ k < 99) (h : j ≠ d.toNat) : dsZ d n2 σ k j = σ k j := by
  unfold dsZ
  rw [fW_r (fun i a _ => by unfold dzG; rw [up_r _ _ _ (by omega)]), up_j _ _ h, up_j _ _ h, up_j _ _ h, up_j _ _ h, incS_k _ (by omega), up_j _ _ h, up_k _ _ (by omega)]
theorem dsZ_98 {d n2 : Int} : dsZ d n2 σ 98 d.toNat = 0 := by
  unfold dsZ
  rw [fW_r (a := 98) (fun i a _ => by unfold dzG; rw [up_r _ _ _ (by decide)]), up_s]
theorem dsZ_99 {d n2 : Int} {j : Nat} (hd : 0 ≤ d) (h : (j : Int) < 16 * d) : dsZ d n2 σ 99 j = σ 99 j := by
  unfold dsZ
  rw [fW_keep2 (fun a : Sg => a 99 j) (fun i a hi => by unfold dzG; rw [up_j _ _ (by omega)]) 16 0 _ (by omega), up_k _ _ (by decide), up_k _ _ (by decide), up_k _ _ (by decide), up_k _ _ (by decide), incS_k _ (by decide), up_k _ _ (by decide), up_k _ _ (by decide)]
theorem DI.z {n2 : Int} (hT : Tk σ e K V N S) (hC : Cn σ) (hD : Dn σ) (h : σ 84 15 < 16) : DI e K V N S (dsZ (σ 84 15) n2 σ) := by
  have e1 : dsZ (σ 84 15) n2 σ 84 15 = σ 84 15 := dsZ_j (by decide)
  refine ⟨hT.cg (dsZ_j (by decide)) (dsZ_j (by decide)) (dsZ_k (by decide)) (dsZ_k (by decide)) (dsZ_k (by decide)) (dsZ_k (by decide)), hC.cg (dsZ_j (by decide)) (dsZ_j (by decide)) (dsZ_j (by decide)) (dsZ_j (by decide)) (dsZ_j (by decide)) (dsZ_j (by decide)), hD.cg (dsZ_j (by decide)) e1 (fun j hj => ⟨dsZ_d (by decide) (by omega), dsZ_d (by decide) (by omega), dsZ_d (by decide) (by omega), fun f hf => dsZ_99 hC.2.1.1 (by omega)⟩) (dsZ_k (by decide)) (dsZ_k (by decide)), by rw [e1]; exact h, ?_⟩
  rw [e1, dsZ_98]; omega
theorem LsC_le (h : Tk σ e K V N S) {b : Int} : ∀ (m : Nat) (a : Int), LsC K (PtO K) m a b → a + 2 * m < b
  | 0, a, hg => by
    obtain ⟨g1, g2⟩ := hg
    obtain ⟨g3, z | z⟩ := g1 <;> omega
  | m + 1, a, ⟨c, g1, g2, g3⟩ => by
    have h1 := LsC_le h m (c + 1) g3
    obtain ⟨g4, z | z⟩ := g1 <;> omega
theorem LsC_end (h : Tk σ e K V N S) {b : Int} : ∀ (m : Nat) (a : Int), LsC K (PtO K) m a b → K (b - 1) = 22
  | 0, a, hg => by
    obtain ⟨⟨g3, z | z⟩, g2⟩ := hg
    · rw [z.2.2, show a + 3 - 1 = a + 2 from by omega]; exact z.2.1
    · rw [z.2, show a + 2 - 1 = a + 1 from by omega]; exact z.1
  | m + 1, a, ⟨c, g1, g2, g3⟩ => LsC_end h m (c + 1) g3
end S38
