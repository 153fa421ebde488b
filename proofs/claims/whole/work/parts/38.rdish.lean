/-! the reference: meaning: dishes -/
section S38
variable {l : Launch} {G : Gx}
variable {σ : Sg} {e : Int} {K V N S : Int → Int}
theorem ptD_k {d x n : Int} {k : Nat} (h : k < 95 ∨ 99 < k) : ptD d x n σ k = σ k := by
  unfold ptD
  rw [fW_r (fun i a _ => by unfold ptGR; rw [up_r _ _ _ (by omega)]), up_r _ _ _ (by omega), up_r _ _ _ (by omega), up_r _ _ _ (by omega), up_r _ _ _ (by omega)]
theorem ptF_k {d x n : Int} {k : Nat} (h : k < 95 ∨ 99 < k) : ptF d x n σ k = σ k := by
  unfold ptF
  rw [up_r _ _ _ (by omega), up_r _ _ _ (by omega), up_r _ _ _ (by omega), up_r _ _ _ (by omega), up_r _ _ _ (by omega)]
theorem ptD_98 {d x n : Int} : ptD d x n σ 98 d.toNat = σ 98 d.toNat + 1 := by
  unfold ptD
  rw [fW_r (a := 98) (fun i a _ => by unfold ptGR; rw [up_r _ _ _ (by decide)]), up_r _ _ _ (by decide), up_r _ _ _ (by decide), up_r _ _ _ (by decide), up_s]
theorem ptF_98 {d x n : Int} : ptF d x n σ 98 d.toNat = σ 98 d.toNat + 1 := by
  unfold ptF
  rw [up_r _ _ _ (by decide), up_r _ _ _ (by decide), up_r _ _ _ (by decide), up_r _ _ _ (by decide), up_s]
theorem ptD_j {d x n : Int} {k j : Nat} (hk : k < 99) (h : j ≠ d.toNat) : ptD d x n σ k j = σ k j := by
  unfold ptD
  rw [fW_r (fun i a _ => by unfold ptGR; rw [up_r _ _ _ (by omega)]), up_j _ _ h, up_j _ _ h, up_j _ _ h, up_j _ _ h]
theorem ptF_j {d x n : Int} {k j : Nat} (hk : k < 99) (h : j ≠ d.toNat) : ptF d x n σ k j = σ k j := by
  unfold ptF
  rw [up_k _ _ (by omega), up_j _ _ h, up_j _ _ h, up_j _ _ h, up_j _ _ h]
theorem fW_keep2 {α : Type} {sz : Int} {g : Int → α → α} (v : α → Int) (h : ∀ i a, 0 ≤ i → v (g i a) = v a) : ∀ (n : Nat) (i : Int) (a : α), 0 ≤ i → v (fW sz g n i a) = v a := by
  intro n
  induction n with
  | zero => intro i a _; rfl
  | succ n ih =>
    intro i a hi
    rw [fW_s]
    split
    · rw [ih _ _ (by omega), h _ _ hi]
    · rfl
theorem ptD_99 {d x n : Int} {j : Nat} (hd : 0 ≤ d) (h : (j : Int) < 16 * d) : ptD d x n σ 99 j = σ 99 j := by
  unfold ptD
  rw [fW_keep2 (fun a : Sg => a 99 j) (fun i a hi => by unfold ptGR; rw [up_j _ _ (by omega)]) 16 0 _ (by omega), up_k _ _ (by decide), up_k _ _ (by decide), up_k _ _ (by decide), up_k _ _ (by decide)]
theorem ptF_99 {d x n : Int} {j : Nat} (hd : 0 ≤ d) (hx : 0 ≤ x) (h : (j : Int) < 16 * d) : ptF d x n σ 99 j = σ 99 j := by
  unfold ptF
  rw [up_j _ _ (by omega), up_k _ _ (by decide), up_k _ _ (by decide), up_k _ _ (by decide), up_k _ _ (by decide)]
theorem ptM_cs (hC : Cn σ) : (∃ c p, (c = 4 ∨ c = 5) ∧ ptM K V N S σ = (c, up σ 84 4 p)) ∨
    (K (σ 84 8 + 1) = 4 ∧ ((∃ p, ptM K V N S σ = (2, up (incS 8 (incS 8 σ)) 84 4 p)) ∨ ∃ x, x = fnC σ 93 (σ 84 15) (V (σ 84 8 + 2)) ∧ (0 ≤ x ∧ x < σ 84 15) ∧ ptM K V N S σ = (0, ptD (σ 84 15) x (N (σ 84 8)) (incS 8 (incS 8 (incS 8 σ)))))) ∨
    (K (σ 84 8 + 1) ≠ 4 ∧ ((∃ p, ptM K V N S σ = (2, up (incS 8 σ) 84 4 p)) ∨ ∃ x, x = fnC σ 89 (σ 84 10) (V (σ 84 8 + 1)) ∧ (0 ≤ x ∧ x < σ 84 10) ∧ ptM K V N S σ = (0, ptF (σ 84 15) x (N (σ 84 8)) (incS 8 (incS 8 σ))))) := by
  unfold ptM
  split
  · exact Or.inl ⟨4, _, Or.inl rfl, rfl⟩
  · split
    · split
      · rename_i h1 h2 h3
        refine Or.inr (Or.inl ⟨h3, ?_⟩)
        unfold ptX
        split
        · exact Or.inl ⟨_, rfl⟩
        · rename_i h4
          have := fnC_in (σ := σ) (ka := 93) (v := V (σ 84 8 + 2)) hC.2.1
          exact Or.inr ⟨_, rfl, ⟨by omega, by omega⟩, rfl⟩
      · rename_i h1 h2 h3
        refine Or.inr (Or.inr ⟨h3, ?_⟩)
        unfold ptX
        split
        · exact Or.inl ⟨_, rfl⟩
        · rename_i h4
          have := fnC_in (σ := σ) (ka := 89) (v := V (σ 84 8 + 1)) hC.1
          exact Or.inr ⟨_, rfl, ⟨by omega, by omega⟩, rfl⟩
    · exact Or.inl ⟨5, _, Or.inr rfl, rfl⟩
theorem ptM_k (hC : Cn σ) {k : Nat} (h : k ≠ 84 ∧ (k < 95 ∨ 99 < k)) : (ptM K V N S σ).2 k = σ k := by
  rcases ptM_cs (K := K) (V := V) (N := N) (S := S) hC with ⟨c, p, -, q⟩ | ⟨-, ⟨p, q⟩ | ⟨x, -, -, q⟩⟩ | ⟨-, ⟨p, q⟩ | ⟨x, -, -, q⟩⟩ <;> rw [q]
  · exact up_r _ _ _ h.1
  · dsimp only
    rw [up_r _ _ _ h.1, incS_r _ h.1, incS_r _ h.1]
  · dsimp only
    rw [ptD_k h.2, incS_r _ h.1, incS_r _ h.1, incS_r _ h.1]
  · dsimp only
    rw [up_r _ _ _ h.1, incS_r _ h.1]
  · dsimp only
    rw [ptF_k h.2, incS_r _ h.1, incS_r _ h.1]
theorem ptM_j (hC : Cn σ) {j : Nat} (h : j ≠ 4 ∧ j ≠ 8) : (ptM K V N S σ).2 84 j = σ 84 j := by
  rcases ptM_cs (K := K) (V := V) (N := N) (S := S) hC with ⟨c, p, -, q⟩ | ⟨-, ⟨p, q⟩ | ⟨x, -, -, q⟩⟩ | ⟨-, ⟨p, q⟩ | ⟨x, -, -, q⟩⟩ <;> rw [q]
  · exact up_j _ _ h.1
  · dsimp only
    rw [up_j _ _ h.1, incS_j _ h.2, incS_j _ h.2]
  · dsimp only
    rw [ptD_k (by omega), incS_j _ h.2, incS_j _ h.2, incS_j _ h.2]
  · dsimp only
    rw [up_j _ _ h.1, incS_j _ h.2]
  · dsimp only
    rw [ptF_k (by omega), incS_j _ h.2, incS_j _ h.2]
theorem ptM_d (hC : Cn σ) {k j : Nat} (hk : 84 < k ∧ k < 99) (h : j ≠ (σ 84 15).toNat) : (ptM K V N S σ).2 k j = σ k j := by
  have hk84 : k ≠ 84 := by omega
  rcases ptM_cs (K := K) (V := V) (N := N) (S := S) hC with ⟨c, p, -, q⟩ | ⟨-, ⟨p, q⟩ | ⟨x, -, -, q⟩⟩ | ⟨-, ⟨p, q⟩ | ⟨x, -, -, q⟩⟩ <;> rw [q]
  · exact up_k _ _ hk84
  · dsimp only
    rw [up_k _ _ hk84, incS_k _ hk84, incS_k _ hk84]
  · dsimp only
    rw [ptD_j hk.2 h, incS_k _ hk84, incS_k _ hk84, incS_k _ hk84]
  · dsimp only
    rw [up_k _ _ hk84, incS_k _ hk84]
  · dsimp only
    rw [ptF_j hk.2 h, incS_k _ hk84, incS_k _ hk84]
theorem ptM_99 (hC : Cn σ) {j : Nat} (h : (j : Int) < 16 * σ 84 15) : (ptM K V N S σ).2 99 j = σ 99 j := by
  rcases ptM_cs (K := K) (V := V) (N := N) (S := S) hC with ⟨c, p, -, q⟩ | ⟨-, ⟨p, q⟩ | ⟨x, -, -, q⟩⟩ | ⟨-, ⟨p, q⟩ | ⟨x, -, hx, q⟩⟩ <;> rw [q]
  · dsimp only
    rw [up_k _ _ (by decide)]
  · dsimp only
    rw [up_k _ _ (by decide), incS_k _ (by decide), incS_k _ (by decide)]
  · dsimp only
    rw [ptD_99 hC.2.1.1 h, incS_k _ (by decide), incS_k _ (by decide), incS_k _ (by decide)]
  · dsimp only
    rw [up_k _ _ (by decide), incS_k _ (by decide)]
  · dsimp only
    rw [ptF_99 hC.2.1.1 hx.1 h, incS_k _ (by decide), incS_k _ (by decide)]
theorem ptM_res (hC : Cn σ) : (ptM K V N S σ).1 = 0 ∨ (ptM K V N S σ).1 = 2 ∨ (ptM K V N S σ).1 = 4 ∨ (ptM K V N S σ).1 = 5 := by
  rcases ptM_cs (K := K) (V := V) (N := N) (S := S) hC with ⟨c, p, hc, q⟩ | ⟨-, ⟨p, q⟩ | ⟨x, -, -, q⟩⟩ | ⟨-, ⟨p, q⟩ | ⟨x, -, -, q⟩⟩ <;> rw [q]
  · rcases hc with rfl | rfl
    · exact Or.inr (Or.inr (Or.inl rfl))
    · exact Or.inr (Or.inr (Or.inr rfl))
  · exact Or.inr (Or.inl rfl)
  · exact Or.inl rfl
  · exact Or.inr (Or.inl rfl)
  · exact Or.inl rfl
theorem ptM_i32 (hC : Cn σ) : i32 (ptM K V N S σ).1 = (ptM K V N S σ).1 := i32_n _ (by have := ptM_res (K := K) (V := V) (N := N) (S := S) hC; omega)
theorem ptM_at (hC : Cn σ) {b : Int} (hg : PtO K (σ 84 8) b) (h0 : (ptM K V N S σ).1 = 0) : (ptM K V N S σ).2 84 8 = b ∧ (ptM K V N S σ).2 98 (σ 84 15).toNat = σ 98 (σ 84 15).toNat + 1 := by
  obtain ⟨g1, g2⟩ := hg
  rcases ptM_cs (K := K) (V := V) (N := N) (S := S) hC with ⟨c, p, hc, q⟩ | ⟨hk, ⟨p, q⟩ | ⟨x, -, -, q⟩⟩ | ⟨hk, ⟨p, q⟩ | ⟨x, -, -, q⟩⟩ <;> rw [q] at h0 ⊢
  · have h0 : c = 0 := h0
    omega
  · exact absurd (show (2 : Int) = 0 from h0) (by decide)
  · refine ⟨?_, ?_⟩
    · dsimp only
      rw [ptD_k (by decide), incS_s, incS_s, incS_s]
      rcases g2 with z | z
      · omega
      · exact absurd (hk.symm.trans z.1) (by decide)
    · dsimp only
      rw [ptD_98, incS_k _ (by decide), incS_k _ (by decide), incS_k _ (by decide)]
  · exact absurd (show (2 : Int) = 0 from h0) (by decide)
  · refine ⟨?_, ?_⟩
    · dsimp only
      rw [ptF_k (by decide), incS_s, incS_s]
      rcases g2 with z | z
      · exact absurd z.1 hk
      · omega
    · dsimp only
      rw [ptF_98, incS_k _ (by decide), incS_k _ (by decide)]
theorem ptM_8 (h0 : (ptM K V N S σ).1 = 0) : σ 98 (σ 84 15).toNat ≠ 8 := by
  intro c
  unfold ptM at h0
  rw [if_pos c] at h0
  exact absurd (show (4 : Int) = 0 from h0) (by decide)
theorem Tk.pt (hC : Cn σ) (h : Tk σ e K V N S) : Tk (ptM K V N S σ).2 e K V N S := h.cg (ptM_j hC (by decide)) (ptM_j hC (by decide)) (ptM_k hC (by decide)) (ptM_k hC (by decide)) (ptM_k hC (by decide)) (ptM_k hC (by decide))
theorem Cn.cg {σ τ : Sg} (h : Cn σ) (h1 : τ 84 10 = σ 84 10) (h2 : τ 84 15 = σ 84 15) (h3 : τ 84 23 = σ 84 23) (h4 : τ 84 25 = σ 84 25) (h5 : τ 84 30 = σ 84 30) (h6 : τ 84 36 = σ 84 36) : Cn τ := by
  unfold Cn
  rw [h1, h2, h3, h4, h5, h6]; exact h
theorem Cn.pt (hC : Cn σ) : Cn (ptM K V N S σ).2 := hC.cg (ptM_j hC (by decide)) (ptM_j hC (by decide)) (ptM_j hC (by decide)) (ptM_j hC (by decide)) (ptM_j hC (by decide)) (ptM_j hC (by decide))
theorem Dn.cg {σ τ : Sg} (h : Dn σ) (h1 : τ 84 10 = σ 84 10) (h2 : τ 84 15 = σ 84 15) (h3 : ∀ j : Nat, (j : Int) < σ 84 15 → τ 94 j = σ 94 j ∧ τ 95 j = σ 95 j ∧ τ 96 j = σ 96 j ∧ ∀ f : Nat, f < 16 → τ 99 (16 * j + f) = σ 99 (16 * j + f)) (h4 : τ 90 = σ 90) (h5 : τ 91 = σ 91) : Dn τ := by
  refine ⟨fun j hj => ?_, fun j hj => ?_⟩
  · rw [h2] at hj
    obtain ⟨a1, a2, a3, a4⟩ := h3 j hj
    obtain ⟨b1, b2, b3, b4⟩ := h.1 j hj
    rw [a1, a2, a3]
    exact ⟨b1, b2, b3, fun f hf => by rw [a4 f hf]; exact b4 f hf⟩
  · rw [h1] at hj
    rw [h4, h5]
    exact h.2 j hj
theorem Dn.pt (hC : Cn σ) (h : Dn σ) : Dn (ptM K V N S σ).2 := h.cg (ptM_j hC (by decide)) (ptM_j hC (by decide)) (fun j hj => ⟨ptM_d hC (by decide) (by omega), ptM_d hC (by decide) (by omega), ptM_d hC (by decide) (by omega), fun f hf => ptM_99 hC (by omega)⟩) (ptM_k hC (by decide)) (ptM_k hC (by decide))
/-- while a dish is read -/
def DI (e : Int) (K V N S : Int → Int) (σ : Sg) : Prop := Tk σ e K V N S ∧ Cn σ ∧ Dn σ ∧ σ 84 15 < 16 ∧ 0 ≤ σ 98 (σ 84 15).toNat ∧ σ 98 (σ 84 15).toNat ≤ 8
theorem DI.i8 (h : DI e K V N S σ) : DI e K V N S (incS 8 σ) := by
  obtain ⟨h1, h2, h3, h4, h5⟩ := h
  exact ⟨h1.i (by decide), h2, h3, h4, h5⟩
theorem DI.pt (h : DI e K V N S σ) {b : Int} (hg : PtO K (σ 84 8) b) (h0 : (ptM K V N S σ).1 = 0) : DI e K V N S (ptM K V N S σ).2 := by
  obtain ⟨h1, h2, h3, h4, h5⟩ := h
  have e1 : (ptM K V N S σ).2 84 15 = σ 84 15 := ptM_j h2 (by decide)
  have e2 := ptM_at h2 hg h0
  have e3 := ptM_8 h0
  refine ⟨h1.pt h2, h2.pt, h3.pt h2, by rw [e1]; exact h4, ?_⟩
  rw [e1, e2.2]; omega
def dpL (K V N S : Int → Int) : Nat → Sg → Int × Sg
  | 0, σ => (0, σ)
  | n + 1, σ => if (ptM K V N S (incS 8 σ)).1 = 0 then (if K ((ptM K V N S (incS 8 σ)).2 84 8) = 19 then dpL K V N S n (ptM K V N S (incS 8 σ)).2 else (0, (ptM K V N S (incS 8 σ)).2)) else ((ptM K V N S (incS 8 σ)).1, (ptM K V N S (incS 8 σ)).2)
theorem dpL_inv {b : Int} : ∀ (m n : Nat) (σ : Sg), DI e K V N S σ → LsC K (PtO K) m (σ 84 8 + 1) b → m < n → (dpL K V N S n σ).1 = 0 → DI e K V N S (dpL K V N S n σ).2 ∧ (dpL K V N S n σ).2 84 8 = b := by
  intro m
  induction m with
  | zero =>
    intro n σ hD hg hn h0
    obtain ⟨n, rfl⟩ : ∃ q, n = q + 1 := ⟨n - 1, by omega⟩
    obtain ⟨g1, g2⟩ := hg
    have g1 : PtO K (incS 8 σ 84 8) b := by rw [incS_s]; exact g1
    simp only [dpL] at h0 ⊢
    by_cases c : (ptM K V N S (incS 8 σ)).1 = 0
    · have e1 := ptM_at hD.i8.2.1 g1 c
      have c2 : ¬ K ((ptM K V N S (incS 8 σ)).2 84 8) = 19 := by rw [e1.1]; exact g2
      rw [if_pos c, if_neg c2]
      exact ⟨hD.i8.pt g1 c, e1.1⟩
    · rw [if_neg c] at h0; exact absurd h0 c
  | succ m ih =>
    intro n σ hD hg hn h0
    obtain ⟨n, rfl⟩ : ∃ q, n = q + 1 := ⟨n - 1, by omega⟩
    obtain ⟨c0, g1, g2, g3⟩ := hg
    have g1 : PtO K (incS 8 σ 84 8) c0 := by rw [incS_s]; exact g1
    simp only [dpL] at h0 ⊢
    by_cases c : (ptM K V N S (incS 8 σ)).1 = 0
    · have e1 := ptM_at hD.i8.2.1 g1 c
      have c2 : K ((ptM K V N S (incS 8 σ)).2 84 8) = 19 := by rw [e1.1]; exact g2
      rw [if_pos c, if_pos c2] at h0 ⊢
      exact ih n _ (hD.i8.pt g1 c) (by rw [e1.1]; exact g3) (by omega) h0
    · rw [if_neg c] at h0; exact absurd h0 c
theorem dpL_j {j : Nat} (h : j ≠ 4 ∧ j ≠ 8) : ∀ (n : Nat) (σ : Sg), Cn σ → (dpL K V N S n σ).2 84 j = σ 84 j := by
  intro n
  induction n with
  | zero => intro σ hC; rfl
  | succ n ih =>
    intro σ hC
    have hC2 : Cn (incS 8 σ) := hC
    have e1 : (ptM K V N S (incS 8 σ)).2 84 j = σ 84 j := by rw [ptM_j hC2 h, incS_j _ h.2]
    simp only [dpL]
    split
    · split
      · rw [ih _ hC2.pt, e1]
      · exact e1
    · exact e1
def dzG (d i : Int) (a : Sg) : Sg := up a 99 (16 * d + i).toNat 0
def dsZ (d n2 : Int) (σ : Sg) : Sg := fW 16 (dzG d) 16 0 (up (up (up (up (incS 8 (up (up σ 84 8 (σ 84 8 + 2)) 94 d.toNat n2)) 95 d.toNat 0) 96 d.toNat 0) 97 d.toNat 0) 98 d.toNat 0)
def dsG (σ : Sg) (d i s : Int) : Int := s + σ 99 (16 * d + i).toNat
def dsS (d : Int) (σ : Sg) : Int := fW 16 (dsG σ d) 16 0 0
def dsT (K V : Int → Int) (d : Int) (σ : Sg) : Sg := up (thC K V σ).2 97 d.toNat (ior (σ 97 d.toNat) (thC K V σ).1)
theorem dsT_k {K V : Int → Int} {d : Int} {σ : Sg} {k j : Nat} (h : k ≠ 97) : dsT K V d σ k j = (thC K V σ).2 k j := up_k _ _ h
def dsE (K V S : Int → Int) (d nm : Int) (σ : Sg) : Int × Sg := if (thC K V σ).1 = -1 then (4, up (thC K V σ).2 84 4 (S ((thC K V σ).2 84 8))) else if 100000 < i64 (dsS d (dsT K V d σ)) ∨ 1000000 < i64 (σ 95 d.toNat) ∨ 1000000 < i64 (σ 96 d.toNat) then (5, up (dsT K V d σ) 84 4 (S nm)) else (0, incS 15 (up (dsT K V d σ) 93 d.toNat (V nm)))
def dsP (K V S : Int → Int) (d nm : Int) (q : Int × Sg) : Int × Sg := if q.1 = 0 then dsE K V S d nm q.2 else q
def dsM (K V N S : Int → Int) (first : Int) (σ : Sg) : Int × Sg :=
  if σ 84 15 = 16 then (4, up σ 84 4 (S first))
  else if tknR σ (V (σ 84 8)) = true then (3, up σ 84 4 (S (σ 84 8)))
  else if 1 ≤ N (σ 84 8 + 2) ∧ N (σ 84 8 + 2) ≤ 20 then dsP K V S (σ 84 15) (σ 84 8) (dpL K V N S 1501 (dsZ (σ 84 15) (N (σ 84 8 + 2)) σ))
  else (5, up (up σ 84 8 (σ 84 8 + 2)) 84 4 (S (σ 84 8 + 2)))
theorem dsZ_k {d n2 : Int} {k : Nat} (h : k ≠ 84 ∧ (k < 94 ∨ 99 < k)) : dsZ d n2 σ k = σ k := by
  unfold dsZ
  rw [fW_r (fun i a _ => by unfold dzG; rw [up_r _ _ _ (by omega)]), up_r _ _ _ (by omega), up_r _ _ _ (by omega), up_r _ _ _ (by omega), up_r _ _ _ (by omega), incS_r _ h.1, up_r _ _ _ (by omega), up_r _ _ _ h.1]
theorem dsZ_j {d n2 : Int} {j : Nat} (h : j ≠ 8) : dsZ d n2 σ 84 j = σ 84 j := by
  unfold dsZ
  rw [fW_r (a := 84) (fun i a _ => by unfold dzG; rw [up_r _ _ _ (by decide)]), up_r _ _ _ (by decide), up_r _ _ _ (by decide), up_r _ _ _ (by decide), up_r _ _ _ (by decide), incS_j _ h, up_r _ _ _ (by decide), up_j _ _ h]
theorem dsZ_8 {d n2 : Int} : dsZ d n2 σ 84 8 = σ 84 8 + 3 := by
  unfold dsZ
  rw [fW_r (a := 84) (fun i a _ => by unfold dzG; rw [up_r _ _ _ (by decide)]), up_r _ _ _ (by decide), up_r _ _ _ (by decide), up_r _ _ _ (by decide), up_r _ _ _ (by decide), incS_s, up_r _ _ _ (by decide), up_s]
  omega
theorem dsZ_d {d n2 : Int} {k j : Nat} (hk : 84 < k ∧ k < 99) (h : j ≠ d.toNat) : dsZ d n2 σ k j = σ k j := by
  unfold dsZ
  rw [fW_r (fun i a _ => by unfold dzG; rw [up_r _ _ _ (by omega)]), up_j _ _ h, up_j _ _ h, up_j _ _ h, up_j _ _ h, incS_k _ (by omega), up_j _ _ h, up_k _ _ (by omega)]
theorem dsZ_98 {d n2 : Int} : dsZ d n2 σ 98 d.toNat = 0 := by
  unfold dsZ
  rw [fW_r (a := 98) (fun i a _ => by unfold dzG; rw [up_r _ _ _ (by decide)]), up_s]
theorem dsZ_99 {d n2 : Int} {j : Nat} (hd : 0 ≤ d) (h : (j : Int) < 16 * d) : dsZ d n2 σ 99 j = σ 99 j := by
  unfold dsZ
  rw [fW_keep2 (fun a : Sg => a 99 j) (fun i a hi => by unfold dzG; rw [up_j _ _ (by omega)]) 16 0 _ (by omega), up_k _ _ (by decide), up_k _ _ (by decide), up_k _ _ (by decide), up_k _ _ (by decide), incS_k _ (by decide), up_k _ _ (by decide), up_k _ _ (by decide)]
theorem DI.z {n2 : Int} (hT : Tk σ e K V N S) (hC : Cn σ) (hD : Dn σ) (h : σ 84 15 < 16) : DI e K V N S (dsZ (σ 84 15) n2 σ) := by
  have e1 : dsZ (σ 84 15) n2 σ 84 15 = σ 84 15 := dsZ_j (by decide)
  refine ⟨hT.cg (dsZ_j (by decide)) (dsZ_j (by decide)) (dsZ_k (by decide)) (dsZ_k (by decide)) (dsZ_k (by decide)) (dsZ_k (by decide)), hC.cg (dsZ_j (by decide)) (dsZ_j (by decide)) (dsZ_j (by decide)) (dsZ_j (by decide)) (dsZ_j (by decide)) (dsZ_j (by decide)), hD.cg (dsZ_j (by decide)) e1 (fun j hj => ⟨dsZ_d (by decide) (by omega), dsZ_d (by decide) (by omega), dsZ_d (by decide) (by omega), fun f hf => dsZ_99 hC.2.1.1 (by omega)⟩) (dsZ_k (by decide)) (dsZ_k (by decide)), by rw [e1]; exact h, ?_⟩
  rw [e1, dsZ_98]; omega
set_option maxRecDepth 100000 in
set_option maxHeartbeats 4000000 in
theorem w_X11_dish173 {f : Fm} (e : Int) (K V N S : Int → Int) (first nm b : Int) : ∀ (m n : Nat) (σ : Sg) (r : Option Value) (σ1 : Sg), DI e K V N S σ → LsC K (PtO K) m (σ 84 8 + 1) b → m < n → ((dpL K V N S n σ).1 = 0 → AW l G f (RX11, cX11_dish, 7, (some .int)) (8, 0, 0) (QT G f 0 0 r σ1) [] 0 0 203 [(0, .ref (lay G 84)), (1, .int (I32 first)), (2, .int (I32 nm))] [] (dpL K V N S n σ).2) → ((dpL K V N S n σ).1 ≠ 0 → r = some (.int (I32 (dpL K V N S n σ).1)) ∧ σ1 = (dpL K V N S n σ).2) → AW l G f (RX11, cX11_dish, 7, (some .int)) (8, 0, 0) (QT G f 0 0 r σ1) [] 0 0 173 [(0, .ref (lay G 84)), (1, .int (I32 first)), (2, .int (I32 nm))] [] σ := by
  intro m
  induction m using Nat.strongRecOn with | _ m ih =>
  intro n σ r σ1 hD hg hn hK hE
  obtain ⟨n, rfl⟩ : ∃ q, n = q + 1 := ⟨n - 1, by omega⟩
  have hD8 := hD.i8
  obtain ⟨hT8, hC8, hDn8, hd8, hp8⟩ := id hD8
  obtain ⟨c0, g1⟩ : ∃ c, PtO K (incS 8 σ 84 8) c := by
    rw [incS_s]
    cases m with
    | zero => exact ⟨_, hg.1⟩
    | succ m => exact ⟨_, hg.choose_spec.1⟩
  have hpi := ptM_i32 (K := K) (V := V) (N := N) (S := S) hC8
  refine A_inc fl_X11_144 lk_84 rfl 0 rfl dX11_dish_173 dX11_dish_174 dX11_dish_175 dX11_dish_178 dX11_dish_179 dX11_dish_180 ?_
  refine A_aload_n dX11_dish_183 rfl 0 rfl ?_
  refine A_Va0 mv_X11_282 lk_84 rfl rfl (c_X11_part _ hT8 hC8 hDn8 hd8 hp8 g1) (Nat.le_of_ble_eq_true rfl) (by omega) (by omega) dX11_dish_184 ?_
  try simp (disch := omega) only [incS_s, incS_k, incS_j, thC_keep, ad11, ad21, ad31, ad41, ad12, nc0, nc1, nc2, nc3, nc4, nc5, nc6, nc7, nc8, nc9, nc10, nc11, nc12, nc13, nc14, nc15, nc16, nc17, nc18, nc19, nc20, nc21, fnC_inc, fnC_up, dsZ_j, dsZ_8, dsT_k]
  refine A_istore_n (lv2 := [(3, _), (0, _), (1, _), (2, _)]) dX11_dish_187 rfl (by decide) rfl ?_
  refine A_iload_n dX11_dish_188 rfl 0 rfl ?_
  refine J_if_eq (tgt := 194) dX11_dish_189 (by decide) (by first | exact hpi | exact i32_eq (by assumption) | exact i32_eq ⟨by omega, by omega⟩ | with_reducible exact thC_i32 _ _ _ | with_reducible exact i32_i32 _ | with_reducible exact i32_eq (b2i_inr _) | rfl) (fun h189 => ?_) (fun h189 => ?_)
  · have e1 := ptM_at hC8 g1 h189
    have hgr : K c0 = 23 ∨ True := Or.inr trivial
    have hb0 : 0 ≤ c0 ∧ c0 ≤ e := by
      have q1 := hT8.in g1.1 (by decide)
      rcases g1.2 with z | z
      · have := hT8.in z.2.1 (by decide); omega
      · have := hT8.in z.1 (by decide); omega
    have hbq : 0 ≤ (ptM K V N S (incS 8 σ)).2 84 8 ∧ (ptM K V N S (incS 8 σ)).2 84 8 ≤ e := by rw [e1.1]; exact hb0
    refine A_aload_n dX11_dish_194 rfl 1 rfl ?_
    refine A_ldcs (i := 19) (by decide +kernel) dX11_dish_195 ?_
    refine A_Va1 mv_X11_147 lk_84 rfl rfl (c_seesT (hT8.pt hC8) 19 hbq (by decide)) (Nat.le_of_ble_eq_true rfl) (by omega) (by omega) dX11_dish_197 ?_
    try simp (disch := omega) only [incS_s, incS_k, incS_j, thC_keep, ad11, ad21, ad31, ad41, ad12, nc0, nc1, nc2, nc3, nc4, nc5, nc6, nc7, nc8, nc9, nc10, nc11, nc12, nc13, nc14, nc15, nc16, nc17, nc18, nc19, nc20, nc21, fnC_inc, fnC_up, dsZ_j, dsZ_8, dsT_k]
    refine A_ifne_b (tgt := 173) dX11_dish_200 (by decide) (fun h200 => ?_) (fun h200 => ?_)
    · have hkq : K ((ptM K V N S (incS 8 σ)).2 84 8) = 19 := of_decide_eq_true h200
      have ed : dpL K V N S (n + 1) σ = dpL K V N S n (ptM K V N S (incS 8 σ)).2 := by simp only [dpL]; rw [if_pos h189, if_pos hkq]
      rw [ed] at hK hE
      refine A_lv [1, 2, 3] rfl ?_
      rcases m with _ | m
      · have g0 := hg.2
        have g1' := hg.1
        rw [← incS_s] at g1'
        exact absurd hkq (by rw [(ptM_at hC8 g1' h189).1]; exact g0)
      · obtain ⟨c1, g1', g2, g3⟩ := hg
        rw [← incS_s] at g1'
        have e2 := ptM_at hC8 g1' h189
        exact ih m (by omega) n _ r σ1 (hD8.pt g1' h189) (by rw [e2.1]; exact g3) (by omega) hK hE
    · have hkq : ¬ K ((ptM K V N S (incS 8 σ)).2 84 8) = 19 := of_decide_eq_false h200
      have ed : dpL K V N S (n + 1) σ = (0, (ptM K V N S (incS 8 σ)).2) := by simp only [dpL]; rw [if_pos h189, if_neg hkq]
      rw [ed] at hK
      refine A_lv [1, 2, 3] rfl ?_
      exact hK rfl
  · have ed : dpL K V N S (n + 1) σ = ptM K V N S (incS 8 σ) := by simp only [dpL]; rw [if_neg h189]
    rw [ed] at hE
    obtain ⟨hr, hs⟩ := hE h189
    refine A_iload_n dX11_dish_192 rfl 0 rfl ?_
    exact A_iret dX11_dish_193 (by rw [hr]) (by rw [hs])
set_option maxRecDepth 100000 in
set_option maxHeartbeats 4000000 in
theorem w_X11_dish146 {f : Fm} {Q : State → Prop} {xs : va_W} {kk nn rc rs : Nat} (first nm d : Int) (hd : 0 ≤ d ∧ d < 16) (hm : kk ≤ rc ∧ nn ≤ rs) : ∀ (n : Nat) (i : Int) (a : Sg), 0 ≤ i → inr i → i + n = 16 → (a 84 15 = d) → AW l G f (RX11, cX11_dish, 7, (some .int)) (8, rc, rs) Q xs kk nn 173 [(0, .ref (lay G 84)), (1, .int (I32 first)), (2, .int (I32 nm))] [] ((fW (16) (dzG d) n i a)) → AW l G f (RX11, cX11_dish, 7, (some .int)) (8, rc, rs) Q xs kk nn 146 [(3, .int (I32 i)), (0, .ref (lay G 84)), (1, .int (I32 first)), (2, .int (I32 nm))] [] (a) := by
  intro n
  induction n using Nat.strongRecOn with | _ n ih =>
  intro i a h0 hii hn hv0 hK
  obtain ⟨hi1, hi2⟩ := hii
  have hv0c := hv0
  refine A_iload_n dX11_dish_146 rfl 0 rfl ?_
  refine A_bipush dX11_dish_147 (by decide +kernel) ?_
  refine J_icmp_ge (tgt := 173) dX11_dish_149 (by decide) (by first | exact i32_eq (by assumption) | exact i32_eq ⟨by omega, by omega⟩ | with_reducible exact i32_i32 _ | with_reducible exact i32_eq (b2i_inr _) | rfl) (by first | exact i32_eq (by assumption) | exact i32_eq ⟨by omega, by omega⟩ | with_reducible exact i32_i32 _ | with_reducible exact i32_eq (b2i_inr _) | rfl) (fun h149 => ?_) (fun h149 => ?_)
  · refine A_lv [1, 2, 3] rfl ?_
    clear ih
    rcases n with _ | n <;> simp only [fW] at hK <;> (repeat' split at hK) <;> first | contradiction | (exfalso; omega) | exact hK | (simp_all; done)
  · refine A_aload_n dX11_dish_152 rfl 1 rfl ?_
    refine A_getr fl_X11_57 lk_84 rfl dX11_dish_153 ?_
    refine A_bipush dX11_dish_156 (by decide +kernel) ?_
    refine A_aload_n dX11_dish_158 rfl 1 rfl ?_
    refine A_geti fl_X11_247 lk_84 rfl dX11_dish_159 ?_
    try simp (disch := omega) only [up_k, up_j, up_s]
    rw [hv0]
    refine A_imul dX11_dish_162 ?_
    refine A_iload_n dX11_dish_163 rfl 0 rfl ?_
    refine A_iadd dX11_dish_164 ?_
    refine A_lconst (w := 0) dX11_dish_165 rfl ?_
    refine J_last lk_99 (by first | exact i32_eq (by assumption) | exact i32_eq ⟨by omega, by omega⟩ | with_reducible exact i32_i32 _ | with_reducible exact i32_eq (b2i_inr _) | rfl) (by omega) (by omega) (by decide) dX11_dish_166 ?_
    refine A_iinc (lv2 := [(3, _), (0, _), (1, _), (2, _)]) dX11_dish_167 0 rfl (by decide) rfl ?_
    refine A_goto (tgt := 146) dX11_dish_170 (by decide) ?_
    refine A_lv [0, 1, 2, 3] rfl ?_
    refine ih (n - 1) (by omega) (i + 1) _ (by omega) ⟨by omega, by omega⟩ (by omega) (by simp (disch := omega) only [up_k]; assumption) ?_
    obtain ⟨n, rfl⟩ : ∃ q, n = q + 1 := ⟨n - 1, by omega⟩
    clear ih
    rw [fW_s] at hK
    simp only [Nat.add_sub_cancel]
    simp only [dzG] at hK
    (repeat' split at hK) <;> first | contradiction | (exfalso; omega) | exact hK | (simp_all; done)
set_option maxRecDepth 100000 in
set_option maxHeartbeats 4000000 in
theorem w_X11_dish242 {f : Fm} {Q : State → Prop} {xs : va_W} {kk nn rc rs : Nat} (σ : Sg) (first nm st d : Int) (hd : 0 ≤ d ∧ d < 16) (h15 : σ 84 15 = d) (hm : kk ≤ rc ∧ nn ≤ rs) : ∀ (n : Nat) (i : Int) (s : Int), 0 ≤ i → inr i → i + n = 16 → AW l G f (RX11, cX11_dish, 7, (some .int)) (8, rc, rs) Q xs kk nn 275 [(4, .long (I64 (fW (16) (dsG σ d) n i s))), (0, .ref (lay G 84)), (1, .int (I32 first)), (2, .int (I32 nm)), (3, .int (I32 st))] [] (σ) → AW l G f (RX11, cX11_dish, 7, (some .int)) (8, rc, rs) Q xs kk nn 242 [(6, .int (I32 i)), (4, .long (I64 s)), (0, .ref (lay G 84)), (1, .int (I32 first)), (2, .int (I32 nm)), (3, .int (I32 st))] [] (σ) := by
  intro n
  induction n using Nat.strongRecOn with | _ n ih =>
  intro i s h0 hii hn  hK
  obtain ⟨hi1, hi2⟩ := hii
  refine A_iload dX11_dish_242 0 rfl ?_
  refine A_bipush dX11_dish_244 (by decide +kernel) ?_
  refine J_icmp_ge (tgt := 275) dX11_dish_246 (by decide) (by first | exact i32_eq (by assumption) | exact i32_eq ⟨by omega, by omega⟩ | with_reducible exact i32_i32 _ | with_reducible exact i32_eq (b2i_inr _) | rfl) (by first | exact i32_eq (by assumption) | exact i32_eq ⟨by omega, by omega⟩ | with_reducible exact i32_i32 _ | with_reducible exact i32_eq (b2i_inr _) | rfl) (fun h246 => ?_) (fun h246 => ?_)
  · refine A_lv [1, 2, 3, 4, 5] rfl ?_
    clear ih
    rcases n with _ | n <;> simp only [fW] at hK <;> (repeat' split at hK) <;> first | contradiction | (exfalso; omega) | exact hK | (simp_all; done)
  · refine A_lload dX11_dish_249 1 rfl ?_
    refine A_aload_n dX11_dish_251 rfl 2 rfl ?_
    refine A_getr fl_X11_57 lk_84 rfl dX11_dish_252 ?_
    refine A_bipush dX11_dish_255 (by decide +kernel) ?_
    refine A_aload_n dX11_dish_257 rfl 2 rfl ?_
    refine A_geti fl_X11_247 lk_84 rfl dX11_dish_258 ?_
    rw [h15]
    refine A_imul dX11_dish_261 ?_
    refine A_iload dX11_dish_262 0 rfl ?_
    refine A_iadd dX11_dish_264 ?_
    refine J_lald lk_99 (by first | exact i32_eq (by assumption) | exact i32_eq ⟨by omega, by omega⟩ | with_reducible exact i32_i32 _ | with_reducible exact i32_eq (b2i_inr _) | rfl) (by omega) (by omega) (by decide) dX11_dish_265 ?_
    refine A_ladd dX11_dish_266 ?_
    refine A_lstore (lv2 := [(4, _), (6, _), (0, _), (1, _), (2, _), (3, _)]) dX11_dish_267 (by decide) rfl ?_
    refine A_iinc (lv2 := [(6, _), (4, _), (0, _), (1, _), (2, _), (3, _)]) dX11_dish_269 1 rfl (by decide) rfl ?_
    refine A_goto (tgt := 242) dX11_dish_272 (by decide) ?_
    refine A_lv [0, 1, 2, 3, 4, 5] rfl ?_
    refine ih (n - 1) (by omega) (i + 1) _ (by omega) ⟨by omega, by omega⟩ (by omega) ?_
    obtain ⟨n, rfl⟩ : ∃ q, n = q + 1 := ⟨n - 1, by omega⟩
    clear ih
    rw [fW_s] at hK
    simp only [Nat.add_sub_cancel]
    simp only [dsG] at hK
    (repeat' split at hK) <;> first | contradiction | (exfalso; omega) | exact hK | (simp_all; done)
theorem LsC_le (h : Tk σ e K V N S) {b : Int} : ∀ (m : Nat) (a : Int), LsC K (PtO K) m a b → a + 2 * m < b
  | 0, a, hg => by
    obtain ⟨g1, g2⟩ := hg
    obtain ⟨g3, z | z⟩ := g1 <;> omega
  | m + 1, a, ⟨c, g1, g2, g3⟩ => by
    have h1 := LsC_le h m (c + 1) g3
    obtain ⟨g4, z | z⟩ := g1 <;> omega
theorem LsC_end (h : Tk σ e K V N S) {b : Int} : ∀ (m : Nat) (a : Int), LsC K (PtO K) m a b → K (b - 1) = 22
  | 0, a, hg => by
    obtain ⟨⟨g3, z | z⟩, g2⟩ := hg
    · rw [z.2.2, show a + 3 - 1 = a + 2 from by omega]; exact z.2.1
    · rw [z.2, show a + 2 - 1 = a + 1 from by omega]; exact z.1
  | m + 1, a, ⟨c, g1, g2, g3⟩ => LsC_end h m (c + 1) g3
set_option maxRecDepth 100000 in
set_option maxHeartbeats 4000000 in
theorem c_X11_dish (first b : Int) (hT : Tk σ e K V N S) (hC : Cn σ) (hD : Dn σ) (hfi : 0 ≤ first ∧ first ≤ e) (hg : DsO K (σ 84 8) b) : Ct l G yX11_dish cX11_dish 7 (some .int) 8 0 0 [.ref (lay G 84), .int (I32 first)] σ (some (.int (I32 (dsM K V N S first σ).1))) ((dsM K V N S first σ).2) := by
  obtain ⟨g1, g2, g3, g4, m, c, g5, g6, g7⟩ := hg
  obtain ⟨hC1, hC2, hC3, hC4, hC5, hC6⟩ := id hC
  have ha := hT.in g1 (by decide)
  have ha2 := hT.in g3 (by decide)
  have hN2 := hT.2.2.2.1 _ g3
  have hbi := hT.in g7 (by decide)
  have hpi : True := trivial
  refine Ct.of (by decide +kernel) (Nat.le_of_ble_eq_true rfl) (fun f => ?_)
  show AW _ _ _ _ _ _ _ _ _ _ [(0, _), (1, _)] _ _
  refine A_aload_n dX11_dish_0 rfl 0 rfl ?_
  refine A_geti fl_X11_247 lk_84 rfl dX11_dish_1 ?_
  try simp (disch := (first | omega | assumption)) only [up_k, up_j, up_s, incS_s, incS_k, incS_j, thC_keep, ad11, ad21, ad31, ad41, ad12, nc0, nc1, nc2, nc3, nc4, nc5, nc6, nc7, nc8, nc9, nc10, nc11, nc12, nc13, nc14, nc15, nc16, nc17, nc18, nc19, nc20, nc21, fnC_inc, fnC_up, dsZ_j, dsZ_8, dsT_k, dpL_j]
  refine A_bipush dX11_dish_4 (by decide +kernel) ?_
  refine J_icmp_ne (tgt := 16) dX11_dish_6 (by decide) (by first | exact hqi | exact i32_eq (by assumption) | exact i32_eq ⟨by omega, by omega⟩ | with_reducible exact thC_i32 _ _ _ | with_reducible exact i32_i32 _ | with_reducible exact i32_eq (b2i_inr _) | rfl) (by first | exact hqi | exact i32_eq (by assumption) | exact i32_eq ⟨by omega, by omega⟩ | with_reducible exact thC_i32 _ _ _ | with_reducible exact i32_i32 _ | with_reducible exact i32_eq (b2i_inr _) | rfl) (fun h6 => ?_) (fun h6 => ?_)
  · refine A_aload_n dX11_dish_16 rfl 0 rfl ?_
    refine A_geti fl_X11_144 lk_84 rfl dX11_dish_17 ?_
    try simp (disch := (first | omega | assumption)) only [up_k, up_j, up_s, incS_s, incS_k, incS_j, thC_keep, ad11, ad21, ad31, ad41, ad12, nc0, nc1, nc2, nc3, nc4, nc5, nc6, nc7, nc8, nc9, nc10, nc11, nc12, nc13, nc14, nc15, nc16, nc17, nc18, nc19, nc20, nc21, fnC_inc, fnC_up, dsZ_j, dsZ_8, dsT_k, dpL_j]
    refine A_istore_n (lv2 := [(2, _), (0, _), (1, _)]) dX11_dish_20 rfl (by decide) rfl ?_
    refine A_aload_n dX11_dish_21 rfl 1 rfl ?_
    refine A_aload_n dX11_dish_22 rfl 1 rfl ?_
    refine A_iload_n dX11_dish_23 rfl 0 rfl ?_
    refine A_Va1 mv_X11_265 lk_84 rfl rfl (c_nameT hT _ ⟨by omega, by omega⟩) (Nat.le_of_ble_eq_true rfl) (by omega) (by omega) dX11_dish_24 ?_
    try simp (disch := (first | omega | assumption)) only [incS_s, incS_k, incS_j, thC_keep, ad11, ad21, ad31, ad41, ad12, nc0, nc1, nc2, nc3, nc4, nc5, nc6, nc7, nc8, nc9, nc10, nc11, nc12, nc13, nc14, nc15, nc16, nc17, nc18, nc19, nc20, nc21, fnC_inc, fnC_up, dsZ_j, dsZ_8, dsT_k, dpL_j]
    refine A_Va1 mv_X11_272 lk_84 rfl rfl (c_X11_isTaken σ _ hC1 hC2 hC3) (Nat.le_of_ble_eq_true rfl) (by omega) (by omega) dX11_dish_27 ?_
    try simp (disch := (first | omega | assumption)) only [incS_s, incS_k, incS_j, thC_keep, ad11, ad21, ad31, ad41, ad12, nc0, nc1, nc2, nc3, nc4, nc5, nc6, nc7, nc8, nc9, nc10, nc11, nc12, nc13, nc14, nc15, nc16, nc17, nc18, nc19, nc20, nc21, fnC_inc, fnC_up, dsZ_j, dsZ_8, dsT_k, dpL_j]
    refine A_ifeq_b (tgt := 40) dX11_dish_30 (by decide) (fun h30 => ?_) (fun h30 => ?_)
    · refine A_aload_n dX11_dish_40 rfl 1 rfl ?_
      refine A_dup dX11_dish_41 rfl ?_
      refine A_geti fl_X11_144 lk_84 rfl dX11_dish_42 ?_
      try simp (disch := (first | omega | assumption)) only [up_k, up_j, up_s, incS_s, incS_k, incS_j, thC_keep, ad11, ad21, ad31, ad41, ad12, nc0, nc1, nc2, nc3, nc4, nc5, nc6, nc7, nc8, nc9, nc10, nc11, nc12, nc13, nc14, nc15, nc16, nc17, nc18, nc19, nc20, nc21, fnC_inc, fnC_up, dsZ_j, dsZ_8, dsT_k, dpL_j]
      refine A_iconst dX11_dish_45 ?_
      refine A_iadd dX11_dish_46 ?_
      refine A_puti fl_X11_144 lk_84 rfl dX11_dish_47 ?_
      refine A_aload_n dX11_dish_50 rfl 1 rfl ?_
      refine A_aload_n dX11_dish_51 rfl 1 rfl ?_
      refine A_geti fl_X11_144 lk_84 rfl dX11_dish_52 ?_
      try simp (disch := (first | omega | assumption)) only [up_k, up_j, up_s, incS_s, incS_k, incS_j, thC_keep, ad11, ad21, ad31, ad41, ad12, nc0, nc1, nc2, nc3, nc4, nc5, nc6, nc7, nc8, nc9, nc10, nc11, nc12, nc13, nc14, nc15, nc16, nc17, nc18, nc19, nc20, nc21, fnC_inc, fnC_up, dsZ_j, dsZ_8, dsT_k, dpL_j]
      refine A_Va1 mv_X11_276 lk_84 rfl rfl (c_numT (by repeat (first | exact hT | refine Tk.i (by decide) ?_ | refine Tk.tC ?_ _ | refine Tk.x (by decide) ?_ | refine Tk.o (by decide) ?_)) _ ⟨by omega, by omega⟩) (Nat.le_of_ble_eq_true rfl) (by omega) (by omega) dX11_dish_55 ?_
      try simp (disch := (first | omega | assumption)) only [incS_s, incS_k, incS_j, thC_keep, ad11, ad21, ad31, ad41, ad12, nc0, nc1, nc2, nc3, nc4, nc5, nc6, nc7, nc8, nc9, nc10, nc11, nc12, nc13, nc14, nc15, nc16, nc17, nc18, nc19, nc20, nc21, fnC_inc, fnC_up, dsZ_j, dsZ_8, dsT_k, dpL_j]
      refine A_iconst dX11_dish_58 ?_
      refine A_bipush dX11_dish_59 (by decide +kernel) ?_
      refine A_Sa3 ms_X11_106 (c_X11_isIn _ _ _ _) (Nat.le_of_ble_eq_true rfl) (by omega) (by omega) dX11_dish_61 ?_
      try simp (disch := (first | omega | assumption)) only [incS_s, incS_k, incS_j, thC_keep, ad11, ad21, ad31, ad41, ad12, nc0, nc1, nc2, nc3, nc4, nc5, nc6, nc7, nc8, nc9, nc10, nc11, nc12, nc13, nc14, nc15, nc16, nc17, nc18, nc19, nc20, nc21, fnC_inc, fnC_up, dsZ_j, dsZ_8, dsT_k, dpL_j]
      rw [inR_n (by omega) (by decide) (by decide)]
      refine A_ifne_b (tgt := 77) dX11_dish_64 (by decide) (fun h64 => ?_) (fun h64 => ?_)
      · have hDZ : DI e K V N S (dsZ (σ 84 15) (N (σ 84 8 + 2)) σ) := DI.z hT hC hD (by omega)
        have hgz : LsC K (PtO K) m ((dsZ (σ 84 15) (N (σ 84 8 + 2)) σ) 84 8 + 1) c := by rw [dsZ_8, ad31]; exact g5
        have hml := LsC_le hT m _ g5
        have hmc : c ≤ e := by
          have hce := LsC_end hT m _ g5
          have := hT.in hce (by decide); omega
        have hme := hT.e
        have hDZC : Cn (dsZ (σ 84 15) (N (σ 84 8 + 2)) σ) := hDZ.2.1
        refine A_aload_n dX11_dish_77 rfl 1 rfl ?_
        refine A_getr fl_X11_42 lk_84 rfl dX11_dish_78 ?_
        refine A_aload_n dX11_dish_81 rfl 1 rfl ?_
        refine A_geti fl_X11_247 lk_84 rfl dX11_dish_82 ?_
        try simp (disch := (first | omega | assumption)) only [up_k, up_j, up_s, incS_s, incS_k, incS_j, thC_keep, ad11, ad21, ad31, ad41, ad12, nc0, nc1, nc2, nc3, nc4, nc5, nc6, nc7, nc8, nc9, nc10, nc11, nc12, nc13, nc14, nc15, nc16, nc17, nc18, nc19, nc20, nc21, fnC_inc, fnC_up, dsZ_j, dsZ_8, dsT_k, dpL_j]
        refine A_aload_n dX11_dish_85 rfl 1 rfl ?_
        refine A_aload_n dX11_dish_86 rfl 1 rfl ?_
        refine A_geti fl_X11_144 lk_84 rfl dX11_dish_87 ?_
        try simp (disch := (first | omega | assumption)) only [up_k, up_j, up_s, incS_s, incS_k, incS_j, thC_keep, ad11, ad21, ad31, ad41, ad12, nc0, nc1, nc2, nc3, nc4, nc5, nc6, nc7, nc8, nc9, nc10, nc11, nc12, nc13, nc14, nc15, nc16, nc17, nc18, nc19, nc20, nc21, fnC_inc, fnC_up, dsZ_j, dsZ_8, dsT_k, dpL_j]
        refine A_Va1 mv_X11_276 lk_84 rfl rfl (c_numT (by repeat (first | exact hT | refine Tk.i (by decide) ?_ | refine Tk.tC ?_ _ | refine Tk.x (by decide) ?_ | refine Tk.o (by decide) ?_)) _ ⟨by omega, by omega⟩) (Nat.le_of_ble_eq_true rfl) (by omega) (by omega) dX11_dish_90 ?_
        try simp (disch := (first | omega | assumption)) only [incS_s, incS_k, incS_j, thC_keep, ad11, ad21, ad31, ad41, ad12, nc0, nc1, nc2, nc3, nc4, nc5, nc6, nc7, nc8, nc9, nc10, nc11, nc12, nc13, nc14, nc15, nc16, nc17, nc18, nc19, nc20, nc21, fnC_inc, fnC_up, dsZ_j, dsZ_8, dsT_k, dpL_j]
        refine J_iast lk_94 (by first | exact hqi | exact i32_eq (by assumption) | exact i32_eq ⟨by omega, by omega⟩ | with_reducible exact thC_i32 _ _ _ | with_reducible exact i32_i32 _ | with_reducible exact i32_eq (b2i_inr _) | rfl) (by omega) (by omega) (by decide) dX11_dish_93 ?_
        refine A_inc fl_X11_144 lk_84 rfl 1 rfl dX11_dish_94 dX11_dish_95 dX11_dish_96 dX11_dish_99 dX11_dish_100 dX11_dish_101 ?_
        refine A_aload_n dX11_dish_104 rfl 1 rfl ?_
        refine A_getr fl_X11_45 lk_84 rfl dX11_dish_105 ?_
        refine A_aload_n dX11_dish_108 rfl 1 rfl ?_
        refine A_geti fl_X11_247 lk_84 rfl dX11_dish_109 ?_
        try simp (disch := (first | omega | assumption)) only [up_k, up_j, up_s, incS_s, incS_k, incS_j, thC_keep, ad11, ad21, ad31, ad41, ad12, nc0, nc1, nc2, nc3, nc4, nc5, nc6, nc7, nc8, nc9, nc10, nc11, nc12, nc13, nc14, nc15, nc16, nc17, nc18, nc19, nc20, nc21, fnC_inc, fnC_up, dsZ_j, dsZ_8, dsT_k, dpL_j]
        refine A_lconst (w := 0) dX11_dish_112 rfl ?_
        refine J_last lk_95 (by first | exact hqi | exact i32_eq (by assumption) | exact i32_eq ⟨by omega, by omega⟩ | with_reducible exact thC_i32 _ _ _ | with_reducible exact i32_i32 _ | with_reducible exact i32_eq (b2i_inr _) | rfl) (by omega) (by omega) (by decide) dX11_dish_113 ?_
        refine A_aload_n dX11_dish_114 rfl 1 rfl ?_
        refine A_getr fl_X11_48 lk_84 rfl dX11_dish_115 ?_
        refine A_aload_n dX11_dish_118 rfl 1 rfl ?_
        refine A_geti fl_X11_247 lk_84 rfl dX11_dish_119 ?_
        try simp (disch := (first | omega | assumption)) only [up_k, up_j, up_s, incS_s, incS_k, incS_j, thC_keep, ad11, ad21, ad31, ad41, ad12, nc0, nc1, nc2, nc3, nc4, nc5, nc6, nc7, nc8, nc9, nc10, nc11, nc12, nc13, nc14, nc15, nc16, nc17, nc18, nc19, nc20, nc21, fnC_inc, fnC_up, dsZ_j, dsZ_8, dsT_k, dpL_j]
        refine A_lconst (w := 0) dX11_dish_122 rfl ?_
        refine J_last lk_96 (by first | exact hqi | exact i32_eq (by assumption) | exact i32_eq ⟨by omega, by omega⟩ | with_reducible exact thC_i32 _ _ _ | with_reducible exact i32_i32 _ | with_reducible exact i32_eq (b2i_inr _) | rfl) (by omega) (by omega) (by decide) dX11_dish_123 ?_
        refine A_aload_n dX11_dish_124 rfl 1 rfl ?_
        refine A_getr fl_X11_51 lk_84 rfl dX11_dish_125 ?_
        refine A_aload_n dX11_dish_128 rfl 1 rfl ?_
        refine A_geti fl_X11_247 lk_84 rfl dX11_dish_129 ?_
        try simp (disch := (first | omega | assumption)) only [up_k, up_j, up_s, incS_s, incS_k, incS_j, thC_keep, ad11, ad21, ad31, ad41, ad12, nc0, nc1, nc2, nc3, nc4, nc5, nc6, nc7, nc8, nc9, nc10, nc11, nc12, nc13, nc14, nc15, nc16, nc17, nc18, nc19, nc20, nc21, fnC_inc, fnC_up, dsZ_j, dsZ_8, dsT_k, dpL_j]
        refine A_iconst dX11_dish_132 ?_
        refine J_iast lk_97 (by first | exact hqi | exact i32_eq (by assumption) | exact i32_eq ⟨by omega, by omega⟩ | with_reducible exact thC_i32 _ _ _ | with_reducible exact i32_i32 _ | with_reducible exact i32_eq (b2i_inr _) | rfl) (by omega) (by omega) (by decide) dX11_dish_133 ?_
        refine A_aload_n dX11_dish_134 rfl 1 rfl ?_
        refine A_getr fl_X11_54 lk_84 rfl dX11_dish_135 ?_
        refine A_aload_n dX11_dish_138 rfl 1 rfl ?_
        refine A_geti fl_X11_247 lk_84 rfl dX11_dish_139 ?_
        try simp (disch := (first | omega | assumption)) only [up_k, up_j, up_s, incS_s, incS_k, incS_j, thC_keep, ad11, ad21, ad31, ad41, ad12, nc0, nc1, nc2, nc3, nc4, nc5, nc6, nc7, nc8, nc9, nc10, nc11, nc12, nc13, nc14, nc15, nc16, nc17, nc18, nc19, nc20, nc21, fnC_inc, fnC_up, dsZ_j, dsZ_8, dsT_k, dpL_j]
        refine A_iconst dX11_dish_142 ?_
        refine J_iast lk_98 (by first | exact hqi | exact i32_eq (by assumption) | exact i32_eq ⟨by omega, by omega⟩ | with_reducible exact thC_i32 _ _ _ | with_reducible exact i32_i32 _ | with_reducible exact i32_eq (b2i_inr _) | rfl) (by omega) (by omega) (by decide) dX11_dish_143 ?_
        refine A_iconst dX11_dish_144 ?_
        refine A_istore_n (lv2 := [(3, _), (2, _), (0, _), (1, _)]) dX11_dish_145 rfl (by decide) rfl ?_
        refine A_lv [0, 2, 3, 1] rfl ?_
        refine w_X11_dish146 first (σ 84 8) (σ 84 15) (by omega) (by omega) 16 0 _ (by omega) ⟨by omega, by omega⟩ (by omega) (by simp (disch := omega) only [up_k, up_j, up_s, incS_s, incS_k, incS_j, thC_keep, ad11, ad21, ad31, ad41, ad12, nc0, nc1, nc2, nc3, nc4, nc5, nc6, nc7, nc8, nc9, nc10, nc11, nc12, nc13, nc14, nc15, nc16, nc17, nc18, nc19, nc20, nc21, fnC_inc, fnC_up, dsZ_j, dsZ_8, dsT_k]) ?_
        show AW _ _ _ _ _ _ _ _ _ _ _ _ (dsZ (σ 84 15) (N (σ 84 8 + 2)) σ)
        refine A_lv [0, 1, 2] rfl ?_
        refine w_X11_dish173 e K V N S first (σ 84 8) c m 1501 (dsZ (σ 84 15) (N (σ 84 8 + 2)) σ) _ _ hDZ hgz (by omega) (fun h0q => ?_) (fun h0q => ⟨by simp only [dsM]; rw [if_neg h6, if_neg (by rw [h30]; decide), if_pos (of_decide_eq_true h64)]; unfold dsP; rw [if_neg h0q], by simp only [dsM]; rw [if_neg h6, if_neg (by rw [h30]; decide), if_pos (of_decide_eq_true h64)]; unfold dsP; rw [if_neg h0q]⟩)
        have hdf : (dpL K V N S 1501 (dsZ (σ 84 15) (N (σ 84 8 + 2)) σ)).1 = 0 := h0q
        obtain ⟨hDI, hqa⟩ := dpL_inv m 1501 (dsZ (σ 84 15) (N (σ 84 8 + 2)) σ) hDZ hgz (by omega) hdf
        obtain ⟨hTq, hCq, hDq, hdq, hpq⟩ := id hDI
        have hq15 : (dpL K V N S 1501 (dsZ (σ 84 15) (N (σ 84 8 + 2)) σ)).2 84 15 = σ 84 15 := by rw [dpL_j (by decide) _ _ hDZ.2.1, dsZ_j (by decide)]
        have hgt : TgO K ((dpL K V N S 1501 (dsZ (σ 84 15) (N (σ 84 8 + 2)) σ)).2 84 8) b := by rw [hqa]; exact g6
        have hat := thC_at hTq hgt (by rw [g7]; decide)
        have hTt := Tk.tC hTq V
        have haq : 0 ≤ (thC K V (dpL K V N S 1501 (dsZ (σ 84 15) (N (σ 84 8 + 2)) σ)).2).2 84 8 ∧ (thC K V (dpL K V N S 1501 (dsZ (σ 84 15) (N (σ 84 8 + 2)) σ)).2).2 84 8 ≤ e := by
          rcases hat with z | z
          · have := hT.in z (by decide); omega
          · rw [z]; omega
        have hbq : 0 ≤ (dpL K V N S 1501 (dsZ (σ 84 15) (N (σ 84 8 + 2)) σ)).2 84 8 ∧ (dpL K V N S 1501 (dsZ (σ 84 15) (N (σ 84 8 + 2)) σ)).2 84 8 ≤ e := by
          rw [hqa]
          rcases g6 with z | z
          · omega
          · have := hT.in z.1 (by decide); omega
        have hqi : i32 (thC K V (dpL K V N S 1501 (dsZ (σ 84 15) (N (σ 84 8 + 2)) σ)).2).1 = (thC K V (dpL K V N S 1501 (dsZ (σ 84 15) (N (σ 84 8 + 2)) σ)).2).1 := thC_i32 _ _ _
        refine A_aload_n dX11_dish_203 rfl 0 rfl ?_
        refine A_Va0 mv_X11_279 lk_84 rfl rfl (c_X11_tagsHere b hTq hCq.2.2.2.2.2 hbq hgt (by rw [g7]; decide)) (Nat.le_of_ble_eq_true rfl) (by omega) (by omega) dX11_dish_204 ?_
        try simp (disch := (first | omega | assumption)) only [incS_s, incS_k, incS_j, thC_keep, ad11, ad21, ad31, ad41, ad12, nc0, nc1, nc2, nc3, nc4, nc5, nc6, nc7, nc8, nc9, nc10, nc11, nc12, nc13, nc14, nc15, nc16, nc17, nc18, nc19, nc20, nc21, fnC_inc, fnC_up, dsZ_j, dsZ_8, dsT_k, dpL_j]
        refine A_istore_n (lv2 := [(3, _), (0, _), (1, _), (2, _)]) dX11_dish_207 rfl (by decide) rfl ?_
        refine A_iload_n dX11_dish_208 rfl 0 rfl ?_
        refine A_iconst dX11_dish_209 ?_
        refine J_icmp_ne (tgt := 223) dX11_dish_210 (by decide) (by first | exact hqi | exact i32_eq (by assumption) | exact i32_eq ⟨by omega, by omega⟩ | with_reducible exact thC_i32 _ _ _ | with_reducible exact i32_i32 _ | with_reducible exact i32_eq (b2i_inr _) | rfl) (by first | exact hqi | exact i32_eq (by assumption) | exact i32_eq ⟨by omega, by omega⟩ | with_reducible exact thC_i32 _ _ _ | with_reducible exact i32_i32 _ | with_reducible exact i32_eq (b2i_inr _) | rfl) (fun h210 => ?_) (fun h210 => ?_)
        · refine A_aload_n dX11_dish_223 rfl 1 rfl ?_
          refine A_getr fl_X11_51 lk_84 rfl dX11_dish_224 ?_
          refine A_aload_n dX11_dish_227 rfl 1 rfl ?_
          refine A_geti fl_X11_247 lk_84 rfl dX11_dish_228 ?_
          try simp (disch := (first | omega | assumption)) only [up_k, up_j, up_s, incS_s, incS_k, incS_j, thC_keep, ad11, ad21, ad31, ad41, ad12, nc0, nc1, nc2, nc3, nc4, nc5, nc6, nc7, nc8, nc9, nc10, nc11, nc12, nc13, nc14, nc15, nc16, nc17, nc18, nc19, nc20, nc21, fnC_inc, fnC_up, dsZ_j, dsZ_8, dsT_k, dpL_j]
          refine A_dup2 dX11_dish_231 rfl rfl ?_
          refine J_iald lk_97 (by first | exact hqi | exact i32_eq (by assumption) | exact i32_eq ⟨by omega, by omega⟩ | with_reducible exact thC_i32 _ _ _ | with_reducible exact i32_i32 _ | with_reducible exact i32_eq (b2i_inr _) | rfl) (by omega) (by omega) (by decide) dX11_dish_232 ?_
          try simp (disch := (first | omega | assumption)) only [up_k, up_j, up_s, incS_s, incS_k, incS_j, thC_keep, ad11, ad21, ad31, ad41, ad12, nc0, nc1, nc2, nc3, nc4, nc5, nc6, nc7, nc8, nc9, nc10, nc11, nc12, nc13, nc14, nc15, nc16, nc17, nc18, nc19, nc20, nc21, fnC_inc, fnC_up, dsZ_j, dsZ_8, dsT_k, dpL_j]
          refine A_iload_n dX11_dish_233 rfl 0 rfl ?_
          refine A_ior dX11_dish_234 ?_
          refine J_iast lk_97 (by first | exact hqi | exact i32_eq (by assumption) | exact i32_eq ⟨by omega, by omega⟩ | with_reducible exact thC_i32 _ _ _ | with_reducible exact i32_i32 _ | with_reducible exact i32_eq (b2i_inr _) | rfl) (by omega) (by omega) (by decide) dX11_dish_235 ?_
          show AW _ _ _ _ _ _ _ _ _ _ _ _ (dsT K V (σ 84 15) (dpL K V N S 1501 (dsZ (σ 84 15) (N (σ 84 8 + 2)) σ)).2)
          refine A_lconst (w := 0) dX11_dish_236 rfl ?_
          refine A_lstore (lv2 := [(4, _), (3, _), (0, _), (1, _), (2, _)]) dX11_dish_237 (by decide) rfl ?_
          refine A_iconst dX11_dish_239 ?_
          refine A_istore (lv2 := [(6, _), (4, _), (3, _), (0, _), (1, _), (2, _)]) dX11_dish_240 (by decide) rfl ?_
          refine A_lv [0, 1, 3, 4, 5, 2] rfl ?_
          refine w_X11_dish242 (dsT K V (σ 84 15) (dpL K V N S 1501 (dsZ (σ 84 15) (N (σ 84 8 + 2)) σ)).2) first (σ 84 8) _ (σ 84 15) (by omega) (by simp (disch := (first | omega | assumption)) only [up_k, up_j, up_s, incS_s, incS_k, incS_j, thC_keep, ad11, ad21, ad31, ad41, ad12, nc0, nc1, nc2, nc3, nc4, nc5, nc6, nc7, nc8, nc9, nc10, nc11, nc12, nc13, nc14, nc15, nc16, nc17, nc18, nc19, nc20, nc21, fnC_inc, fnC_up, dsZ_j, dsZ_8, dsT_k, dpL_j]) (by omega) 16 0 0 (by omega) ⟨by omega, by omega⟩ (by omega) ?_
          refine A_lload dX11_dish_275 0 rfl ?_
          refine A_ldc2 kc_X11_285 dX11_dish_277 ?_
          refine J_lcmp dX11_dish_280 (by first | exact i64_eq (by assumption) | exact i64_eq ⟨by omega, by omega⟩ | rfl) (by first | exact i64_eq (by assumption) | exact i64_eq ⟨by omega, by omega⟩ | rfl) ?_
          refine A_if_gt_c (tgt := 316) dX11_dish_281 (by decide) (fun h281 => ?_) (fun h281 => ?_)
          · have hov : (100000 < i64 (dsS (σ 84 15) (dsT K V (σ 84 15) (dpL K V N S 1501 (dsZ (σ 84 15) (N (σ 84 8 + 2)) σ)).2)) ∨ 1000000 < i64 ((dpL K V N S 1501 (dsZ (σ 84 15) (N (σ 84 8 + 2)) σ)).2 95 (σ 84 15).toNat) ∨ 1000000 < i64 ((dpL K V N S 1501 (dsZ (σ 84 15) (N (σ 84 8 + 2)) σ)).2 96 (σ 84 15).toNat)) := by unfold dsS; omega
            refine A_aload_n dX11_dish_316 rfl 1 rfl ?_
            refine A_iconst dX11_dish_317 ?_
            refine A_iload_n dX11_dish_318 rfl 3 rfl ?_
            refine A_Va2 mv_X11_261 lk_84 rfl rfl (c_wrongT (hTt.x (by decide)) _ _ ⟨by omega, by omega⟩) (Nat.le_of_ble_eq_true rfl) (by omega) (by omega) dX11_dish_319 ?_
            try simp (disch := (first | omega | assumption)) only [incS_s, incS_k, incS_j, thC_keep, ad11, ad21, ad31, ad41, ad12, nc0, nc1, nc2, nc3, nc4, nc5, nc6, nc7, nc8, nc9, nc10, nc11, nc12, nc13, nc14, nc15, nc16, nc17, nc18, nc19, nc20, nc21, fnC_inc, fnC_up, dsZ_j, dsZ_8, dsT_k, dpL_j]
            exact A_iret dX11_dish_322 (by simp only [dsM]; first | (rw [if_pos h6]; done) | (rw [if_neg h6, if_pos h30]; done) | (rw [if_neg h6, if_neg (by rw [h30]; decide), if_neg (of_decide_eq_false h64)]; done) | (rw [if_neg h6, if_neg (by rw [h30]; decide), if_pos (of_decide_eq_true h64)]; unfold dsP; first | (rw [if_neg h0q]; done) | (rw [if_pos h0q]; unfold dsE; first | (rw [if_pos h210]; done) | (rw [if_neg h210, if_pos hov]; done) | (rw [if_neg h210, if_pos hov]; rfl) | (rw [if_neg h210, if_neg hov]; done) | (rw [if_neg h210, if_neg hov]; rfl)))) (by simp only [dsM]; first | (rw [if_pos h6]; done) | (rw [if_neg h6, if_pos h30]; done) | (rw [if_neg h6, if_neg (by rw [h30]; decide), if_neg (of_decide_eq_false h64)]; done) | (rw [if_neg h6, if_neg (by rw [h30]; decide), if_pos (of_decide_eq_true h64)]; unfold dsP; first | (rw [if_neg h0q]; done) | (rw [if_pos h0q]; unfold dsE; first | (rw [if_pos h210]; done) | (rw [if_neg h210, if_pos hov]; done) | (rw [if_neg h210, if_pos hov]; rfl) | (rw [if_neg h210, if_neg hov]; done) | (rw [if_neg h210, if_neg hov]; rfl))))
          · refine A_aload_n dX11_dish_284 rfl 1 rfl ?_
            refine A_getr fl_X11_45 lk_84 rfl dX11_dish_285 ?_
            refine A_aload_n dX11_dish_288 rfl 1 rfl ?_
            refine A_geti fl_X11_247 lk_84 rfl dX11_dish_289 ?_
            try simp (disch := (first | omega | assumption)) only [up_k, up_j, up_s, incS_s, incS_k, incS_j, thC_keep, ad11, ad21, ad31, ad41, ad12, nc0, nc1, nc2, nc3, nc4, nc5, nc6, nc7, nc8, nc9, nc10, nc11, nc12, nc13, nc14, nc15, nc16, nc17, nc18, nc19, nc20, nc21, fnC_inc, fnC_up, dsZ_j, dsZ_8, dsT_k, dpL_j]
            refine J_lald lk_95 (by first | exact hqi | exact i32_eq (by assumption) | exact i32_eq ⟨by omega, by omega⟩ | with_reducible exact thC_i32 _ _ _ | with_reducible exact i32_i32 _ | with_reducible exact i32_eq (b2i_inr _) | rfl) (by omega) (by omega) (by decide) dX11_dish_292 ?_
            try simp (disch := (first | omega | assumption)) only [up_k, up_j, up_s, incS_s, incS_k, incS_j, thC_keep, ad11, ad21, ad31, ad41, ad12, nc0, nc1, nc2, nc3, nc4, nc5, nc6, nc7, nc8, nc9, nc10, nc11, nc12, nc13, nc14, nc15, nc16, nc17, nc18, nc19, nc20, nc21, fnC_inc, fnC_up, dsZ_j, dsZ_8, dsT_k, dpL_j]
            refine A_ldc2 kc_X11_287 dX11_dish_293 ?_
            refine J_lcmp dX11_dish_296 (by first | exact i64_eq (by assumption) | exact i64_eq ⟨by omega, by omega⟩ | rfl) (by first | exact i64_eq (by assumption) | exact i64_eq ⟨by omega, by omega⟩ | rfl) ?_
            refine A_if_gt_c (tgt := 316) dX11_dish_297 (by decide) (fun h297 => ?_) (fun h297 => ?_)
            · have hov : (100000 < i64 (dsS (σ 84 15) (dsT K V (σ 84 15) (dpL K V N S 1501 (dsZ (σ 84 15) (N (σ 84 8 + 2)) σ)).2)) ∨ 1000000 < i64 ((dpL K V N S 1501 (dsZ (σ 84 15) (N (σ 84 8 + 2)) σ)).2 95 (σ 84 15).toNat) ∨ 1000000 < i64 ((dpL K V N S 1501 (dsZ (σ 84 15) (N (σ 84 8 + 2)) σ)).2 96 (σ 84 15).toNat)) := by unfold dsS; omega
              refine A_aload_n dX11_dish_316 rfl 1 rfl ?_
              refine A_iconst dX11_dish_317 ?_
              refine A_iload_n dX11_dish_318 rfl 3 rfl ?_
              refine A_Va2 mv_X11_261 lk_84 rfl rfl (c_wrongT (hTt.x (by decide)) _ _ ⟨by omega, by omega⟩) (Nat.le_of_ble_eq_true rfl) (by omega) (by omega) dX11_dish_319 ?_
              try simp (disch := (first | omega | assumption)) only [incS_s, incS_k, incS_j, thC_keep, ad11, ad21, ad31, ad41, ad12, nc0, nc1, nc2, nc3, nc4, nc5, nc6, nc7, nc8, nc9, nc10, nc11, nc12, nc13, nc14, nc15, nc16, nc17, nc18, nc19, nc20, nc21, fnC_inc, fnC_up, dsZ_j, dsZ_8, dsT_k, dpL_j]
              exact A_iret dX11_dish_322 (by simp only [dsM]; first | (rw [if_pos h6]; done) | (rw [if_neg h6, if_pos h30]; done) | (rw [if_neg h6, if_neg (by rw [h30]; decide), if_neg (of_decide_eq_false h64)]; done) | (rw [if_neg h6, if_neg (by rw [h30]; decide), if_pos (of_decide_eq_true h64)]; unfold dsP; first | (rw [if_neg h0q]; done) | (rw [if_pos h0q]; unfold dsE; first | (rw [if_pos h210]; done) | (rw [if_neg h210, if_pos hov]; done) | (rw [if_neg h210, if_pos hov]; rfl) | (rw [if_neg h210, if_neg hov]; done) | (rw [if_neg h210, if_neg hov]; rfl)))) (by simp only [dsM]; first | (rw [if_pos h6]; done) | (rw [if_neg h6, if_pos h30]; done) | (rw [if_neg h6, if_neg (by rw [h30]; decide), if_neg (of_decide_eq_false h64)]; done) | (rw [if_neg h6, if_neg (by rw [h30]; decide), if_pos (of_decide_eq_true h64)]; unfold dsP; first | (rw [if_neg h0q]; done) | (rw [if_pos h0q]; unfold dsE; first | (rw [if_pos h210]; done) | (rw [if_neg h210, if_pos hov]; done) | (rw [if_neg h210, if_pos hov]; rfl) | (rw [if_neg h210, if_neg hov]; done) | (rw [if_neg h210, if_neg hov]; rfl))))
            · refine A_aload_n dX11_dish_300 rfl 1 rfl ?_
              refine A_getr fl_X11_48 lk_84 rfl dX11_dish_301 ?_
              refine A_aload_n dX11_dish_304 rfl 1 rfl ?_
              refine A_geti fl_X11_247 lk_84 rfl dX11_dish_305 ?_
              try simp (disch := (first | omega | assumption)) only [up_k, up_j, up_s, incS_s, incS_k, incS_j, thC_keep, ad11, ad21, ad31, ad41, ad12, nc0, nc1, nc2, nc3, nc4, nc5, nc6, nc7, nc8, nc9, nc10, nc11, nc12, nc13, nc14, nc15, nc16, nc17, nc18, nc19, nc20, nc21, fnC_inc, fnC_up, dsZ_j, dsZ_8, dsT_k, dpL_j]
              refine J_lald lk_96 (by first | exact hqi | exact i32_eq (by assumption) | exact i32_eq ⟨by omega, by omega⟩ | with_reducible exact thC_i32 _ _ _ | with_reducible exact i32_i32 _ | with_reducible exact i32_eq (b2i_inr _) | rfl) (by omega) (by omega) (by decide) dX11_dish_308 ?_
              try simp (disch := (first | omega | assumption)) only [up_k, up_j, up_s, incS_s, incS_k, incS_j, thC_keep, ad11, ad21, ad31, ad41, ad12, nc0, nc1, nc2, nc3, nc4, nc5, nc6, nc7, nc8, nc9, nc10, nc11, nc12, nc13, nc14, nc15, nc16, nc17, nc18, nc19, nc20, nc21, fnC_inc, fnC_up, dsZ_j, dsZ_8, dsT_k, dpL_j]
              refine A_ldc2 kc_X11_287 dX11_dish_309 ?_
              refine J_lcmp dX11_dish_312 (by first | exact i64_eq (by assumption) | exact i64_eq ⟨by omega, by omega⟩ | rfl) (by first | exact i64_eq (by assumption) | exact i64_eq ⟨by omega, by omega⟩ | rfl) ?_
              refine A_if_le_c (tgt := 323) dX11_dish_313 (by decide) (fun h313 => ?_) (fun h313 => ?_)
              · have hov : ¬ (100000 < i64 (dsS (σ 84 15) (dsT K V (σ 84 15) (dpL K V N S 1501 (dsZ (σ 84 15) (N (σ 84 8 + 2)) σ)).2)) ∨ 1000000 < i64 ((dpL K V N S 1501 (dsZ (σ 84 15) (N (σ 84 8 + 2)) σ)).2 95 (σ 84 15).toNat) ∨ 1000000 < i64 ((dpL K V N S 1501 (dsZ (σ 84 15) (N (σ 84 8 + 2)) σ)).2 96 (σ 84 15).toNat)) := by unfold dsS; omega
                refine A_aload_n dX11_dish_323 rfl 1 rfl ?_
                refine A_getr fl_X11_39 lk_84 rfl dX11_dish_324 ?_
                refine A_aload_n dX11_dish_327 rfl 1 rfl ?_
                refine A_geti fl_X11_247 lk_84 rfl dX11_dish_328 ?_
                try simp (disch := (first | omega | assumption)) only [up_k, up_j, up_s, incS_s, incS_k, incS_j, thC_keep, ad11, ad21, ad31, ad41, ad12, nc0, nc1, nc2, nc3, nc4, nc5, nc6, nc7, nc8, nc9, nc10, nc11, nc12, nc13, nc14, nc15, nc16, nc17, nc18, nc19, nc20, nc21, fnC_inc, fnC_up, dsZ_j, dsZ_8, dsT_k, dpL_j]
                refine A_aload_n dX11_dish_331 rfl 1 rfl ?_
                refine A_iload_n dX11_dish_332 rfl 3 rfl ?_
                refine A_Va1 mv_X11_265 lk_84 rfl rfl (c_nameT (hTt.x (by decide)) _ ⟨by omega, by omega⟩) (Nat.le_of_ble_eq_true rfl) (by omega) (by omega) dX11_dish_333 ?_
                try simp (disch := (first | omega | assumption)) only [incS_s, incS_k, incS_j, thC_keep, ad11, ad21, ad31, ad41, ad12, nc0, nc1, nc2, nc3, nc4, nc5, nc6, nc7, nc8, nc9, nc10, nc11, nc12, nc13, nc14, nc15, nc16, nc17, nc18, nc19, nc20, nc21, fnC_inc, fnC_up, dsZ_j, dsZ_8, dsT_k, dpL_j]
                refine J_last lk_93 (by first | exact hqi | exact i32_eq (by assumption) | exact i32_eq ⟨by omega, by omega⟩ | with_reducible exact thC_i32 _ _ _ | with_reducible exact i32_i32 _ | with_reducible exact i32_eq (b2i_inr _) | rfl) (by omega) (by omega) (by decide) dX11_dish_336 ?_
                refine A_inc fl_X11_247 lk_84 rfl 1 rfl dX11_dish_337 dX11_dish_338 dX11_dish_339 dX11_dish_342 dX11_dish_343 dX11_dish_344 ?_
                refine A_iconst dX11_dish_347 ?_
                exact A_iret dX11_dish_348 (by simp only [dsM]; first | (rw [if_pos h6]; done) | (rw [if_neg h6, if_pos h30]; done) | (rw [if_neg h6, if_neg (by rw [h30]; decide), if_neg (of_decide_eq_false h64)]; done) | (rw [if_neg h6, if_neg (by rw [h30]; decide), if_pos (of_decide_eq_true h64)]; unfold dsP; first | (rw [if_neg h0q]; done) | (rw [if_pos h0q]; unfold dsE; first | (rw [if_pos h210]; done) | (rw [if_neg h210, if_pos hov]; done) | (rw [if_neg h210, if_pos hov]; rfl) | (rw [if_neg h210, if_neg hov]; done) | (rw [if_neg h210, if_neg hov]; rfl)))) (by simp only [dsM]; first | (rw [if_pos h6]; done) | (rw [if_neg h6, if_pos h30]; done) | (rw [if_neg h6, if_neg (by rw [h30]; decide), if_neg (of_decide_eq_false h64)]; done) | (rw [if_neg h6, if_neg (by rw [h30]; decide), if_pos (of_decide_eq_true h64)]; unfold dsP; first | (rw [if_neg h0q]; done) | (rw [if_pos h0q]; unfold dsE; first | (rw [if_pos h210]; done) | (rw [if_neg h210, if_pos hov]; done) | (rw [if_neg h210, if_pos hov]; rfl) | (rw [if_neg h210, if_neg hov]; done) | (rw [if_neg h210, if_neg hov]; rfl))))
              · have hov : (100000 < i64 (dsS (σ 84 15) (dsT K V (σ 84 15) (dpL K V N S 1501 (dsZ (σ 84 15) (N (σ 84 8 + 2)) σ)).2)) ∨ 1000000 < i64 ((dpL K V N S 1501 (dsZ (σ 84 15) (N (σ 84 8 + 2)) σ)).2 95 (σ 84 15).toNat) ∨ 1000000 < i64 ((dpL K V N S 1501 (dsZ (σ 84 15) (N (σ 84 8 + 2)) σ)).2 96 (σ 84 15).toNat)) := by unfold dsS; omega
                refine A_aload_n dX11_dish_316 rfl 1 rfl ?_
                refine A_iconst dX11_dish_317 ?_
                refine A_iload_n dX11_dish_318 rfl 3 rfl ?_
                refine A_Va2 mv_X11_261 lk_84 rfl rfl (c_wrongT (hTt.x (by decide)) _ _ ⟨by omega, by omega⟩) (Nat.le_of_ble_eq_true rfl) (by omega) (by omega) dX11_dish_319 ?_
                try simp (disch := (first | omega | assumption)) only [incS_s, incS_k, incS_j, thC_keep, ad11, ad21, ad31, ad41, ad12, nc0, nc1, nc2, nc3, nc4, nc5, nc6, nc7, nc8, nc9, nc10, nc11, nc12, nc13, nc14, nc15, nc16, nc17, nc18, nc19, nc20, nc21, fnC_inc, fnC_up, dsZ_j, dsZ_8, dsT_k, dpL_j]
                exact A_iret dX11_dish_322 (by simp only [dsM]; first | (rw [if_pos h6]; done) | (rw [if_neg h6, if_pos h30]; done) | (rw [if_neg h6, if_neg (by rw [h30]; decide), if_neg (of_decide_eq_false h64)]; done) | (rw [if_neg h6, if_neg (by rw [h30]; decide), if_pos (of_decide_eq_true h64)]; unfold dsP; first | (rw [if_neg h0q]; done) | (rw [if_pos h0q]; unfold dsE; first | (rw [if_pos h210]; done) | (rw [if_neg h210, if_pos hov]; done) | (rw [if_neg h210, if_pos hov]; rfl) | (rw [if_neg h210, if_neg hov]; done) | (rw [if_neg h210, if_neg hov]; rfl)))) (by simp only [dsM]; first | (rw [if_pos h6]; done) | (rw [if_neg h6, if_pos h30]; done) | (rw [if_neg h6, if_neg (by rw [h30]; decide), if_neg (of_decide_eq_false h64)]; done) | (rw [if_neg h6, if_neg (by rw [h30]; decide), if_pos (of_decide_eq_true h64)]; unfold dsP; first | (rw [if_neg h0q]; done) | (rw [if_pos h0q]; unfold dsE; first | (rw [if_pos h210]; done) | (rw [if_neg h210, if_pos hov]; done) | (rw [if_neg h210, if_pos hov]; rfl) | (rw [if_neg h210, if_neg hov]; done) | (rw [if_neg h210, if_neg hov]; rfl))))
        · refine A_aload_n dX11_dish_213 rfl 1 rfl ?_
          refine A_iconst dX11_dish_214 ?_
          refine A_aload_n dX11_dish_215 rfl 1 rfl ?_
          refine A_geti fl_X11_144 lk_84 rfl dX11_dish_216 ?_
          try simp (disch := (first | omega | assumption)) only [up_k, up_j, up_s, incS_s, incS_k, incS_j, thC_keep, ad11, ad21, ad31, ad41, ad12, nc0, nc1, nc2, nc3, nc4, nc5, nc6, nc7, nc8, nc9, nc10, nc11, nc12, nc13, nc14, nc15, nc16, nc17, nc18, nc19, nc20, nc21, fnC_inc, fnC_up, dsZ_j, dsZ_8, dsT_k, dpL_j]
          refine A_Va2 mv_X11_261 lk_84 rfl rfl (c_wrongT hTt _ _ haq) (Nat.le_of_ble_eq_true rfl) (by omega) (by omega) dX11_dish_219 ?_
          try simp (disch := (first | omega | assumption)) only [incS_s, incS_k, incS_j, thC_keep, ad11, ad21, ad31, ad41, ad12, nc0, nc1, nc2, nc3, nc4, nc5, nc6, nc7, nc8, nc9, nc10, nc11, nc12, nc13, nc14, nc15, nc16, nc17, nc18, nc19, nc20, nc21, fnC_inc, fnC_up, dsZ_j, dsZ_8, dsT_k, dpL_j]
          exact A_iret dX11_dish_222 (by simp only [dsM]; first | (rw [if_pos h6]; done) | (rw [if_neg h6, if_pos h30]; done) | (rw [if_neg h6, if_neg (by rw [h30]; decide), if_neg (of_decide_eq_false h64)]; done) | (rw [if_neg h6, if_neg (by rw [h30]; decide), if_pos (of_decide_eq_true h64)]; unfold dsP; first | (rw [if_neg h0q]; done) | (rw [if_pos h0q]; unfold dsE; first | (rw [if_pos h210]; done) | (rw [if_neg h210, if_pos hov]; done) | (rw [if_neg h210, if_pos hov]; rfl) | (rw [if_neg h210, if_neg hov]; done) | (rw [if_neg h210, if_neg hov]; rfl)))) (by simp only [dsM]; first | (rw [if_pos h6]; done) | (rw [if_neg h6, if_pos h30]; done) | (rw [if_neg h6, if_neg (by rw [h30]; decide), if_neg (of_decide_eq_false h64)]; done) | (rw [if_neg h6, if_neg (by rw [h30]; decide), if_pos (of_decide_eq_true h64)]; unfold dsP; first | (rw [if_neg h0q]; done) | (rw [if_pos h0q]; unfold dsE; first | (rw [if_pos h210]; done) | (rw [if_neg h210, if_pos hov]; done) | (rw [if_neg h210, if_pos hov]; rfl) | (rw [if_neg h210, if_neg hov]; done) | (rw [if_neg h210, if_neg hov]; rfl))))
      · refine A_aload_n dX11_dish_67 rfl 1 rfl ?_
        refine A_iconst dX11_dish_68 ?_
        refine A_aload_n dX11_dish_69 rfl 1 rfl ?_
        refine A_geti fl_X11_144 lk_84 rfl dX11_dish_70 ?_
        try simp (disch := (first | omega | assumption)) only [up_k, up_j, up_s, incS_s, incS_k, incS_j, thC_keep, ad11, ad21, ad31, ad41, ad12, nc0, nc1, nc2, nc3, nc4, nc5, nc6, nc7, nc8, nc9, nc10, nc11, nc12, nc13, nc14, nc15, nc16, nc17, nc18, nc19, nc20, nc21, fnC_inc, fnC_up, dsZ_j, dsZ_8, dsT_k, dpL_j]
        refine A_Va2 mv_X11_261 lk_84 rfl rfl (c_wrongT (by repeat (first | exact hT | refine Tk.i (by decide) ?_ | refine Tk.tC ?_ _ | refine Tk.x (by decide) ?_ | refine Tk.o (by decide) ?_)) _ _ ⟨by omega, by omega⟩) (Nat.le_of_ble_eq_true rfl) (by omega) (by omega) dX11_dish_73 ?_
        try simp (disch := (first | omega | assumption)) only [incS_s, incS_k, incS_j, thC_keep, ad11, ad21, ad31, ad41, ad12, nc0, nc1, nc2, nc3, nc4, nc5, nc6, nc7, nc8, nc9, nc10, nc11, nc12, nc13, nc14, nc15, nc16, nc17, nc18, nc19, nc20, nc21, fnC_inc, fnC_up, dsZ_j, dsZ_8, dsT_k, dpL_j]
        exact A_iret dX11_dish_76 (by simp only [dsM]; first | (rw [if_pos h6]; done) | (rw [if_neg h6, if_pos h30]; done) | (rw [if_neg h6, if_neg (by rw [h30]; decide), if_neg (of_decide_eq_false h64)]; done) | (rw [if_neg h6, if_neg (by rw [h30]; decide), if_pos (of_decide_eq_true h64)]; unfold dsP; first | (rw [if_neg h0q]; done) | (rw [if_pos h0q]; unfold dsE; first | (rw [if_pos h210]; done) | (rw [if_neg h210, if_pos hov]; done) | (rw [if_neg h210, if_pos hov]; rfl) | (rw [if_neg h210, if_neg hov]; done) | (rw [if_neg h210, if_neg hov]; rfl)))) (by simp only [dsM]; first | (rw [if_pos h6]; done) | (rw [if_neg h6, if_pos h30]; done) | (rw [if_neg h6, if_neg (by rw [h30]; decide), if_neg (of_decide_eq_false h64)]; done) | (rw [if_neg h6, if_neg (by rw [h30]; decide), if_pos (of_decide_eq_true h64)]; unfold dsP; first | (rw [if_neg h0q]; done) | (rw [if_pos h0q]; unfold dsE; first | (rw [if_pos h210]; done) | (rw [if_neg h210, if_pos hov]; done) | (rw [if_neg h210, if_pos hov]; rfl) | (rw [if_neg h210, if_neg hov]; done) | (rw [if_neg h210, if_neg hov]; rfl))))
    · refine A_aload_n dX11_dish_33 rfl 1 rfl ?_
      refine A_iconst dX11_dish_34 ?_
      refine A_iload_n dX11_dish_35 rfl 0 rfl ?_
      refine A_Va2 mv_X11_261 lk_84 rfl rfl (c_wrongT hT _ _ ⟨by omega, by omega⟩) (Nat.le_of_ble_eq_true rfl) (by omega) (by omega) dX11_dish_36 ?_
      try simp (disch := (first | omega | assumption)) only [incS_s, incS_k, incS_j, thC_keep, ad11, ad21, ad31, ad41, ad12, nc0, nc1, nc2, nc3, nc4, nc5, nc6, nc7, nc8, nc9, nc10, nc11, nc12, nc13, nc14, nc15, nc16, nc17, nc18, nc19, nc20, nc21, fnC_inc, fnC_up, dsZ_j, dsZ_8, dsT_k, dpL_j]
      exact A_iret dX11_dish_39 (by simp only [dsM]; first | (rw [if_pos h6]; done) | (rw [if_neg h6, if_pos h30]; done) | (rw [if_neg h6, if_neg (by rw [h30]; decide), if_neg (of_decide_eq_false h64)]; done) | (rw [if_neg h6, if_neg (by rw [h30]; decide), if_pos (of_decide_eq_true h64)]; unfold dsP; first | (rw [if_neg h0q]; done) | (rw [if_pos h0q]; unfold dsE; first | (rw [if_pos h210]; done) | (rw [if_neg h210, if_pos hov]; done) | (rw [if_neg h210, if_pos hov]; rfl) | (rw [if_neg h210, if_neg hov]; done) | (rw [if_neg h210, if_neg hov]; rfl)))) (by simp only [dsM]; first | (rw [if_pos h6]; done) | (rw [if_neg h6, if_pos h30]; done) | (rw [if_neg h6, if_neg (by rw [h30]; decide), if_neg (of_decide_eq_false h64)]; done) | (rw [if_neg h6, if_neg (by rw [h30]; decide), if_pos (of_decide_eq_true h64)]; unfold dsP; first | (rw [if_neg h0q]; done) | (rw [if_pos h0q]; unfold dsE; first | (rw [if_pos h210]; done) | (rw [if_neg h210, if_pos hov]; done) | (rw [if_neg h210, if_pos hov]; rfl) | (rw [if_neg h210, if_neg hov]; done) | (rw [if_neg h210, if_neg hov]; rfl))))
  · refine A_aload_n dX11_dish_9 rfl 0 rfl ?_
    refine A_iconst dX11_dish_10 ?_
    refine A_iload_n dX11_dish_11 rfl 1 rfl ?_
    refine A_Va2 mv_X11_261 lk_84 rfl rfl (c_wrongT hT _ _ hfi) (Nat.le_of_ble_eq_true rfl) (by omega) (by omega) dX11_dish_12 ?_
    try simp (disch := (first | omega | assumption)) only [incS_s, incS_k, incS_j, thC_keep, ad11, ad21, ad31, ad41, ad12, nc0, nc1, nc2, nc3, nc4, nc5, nc6, nc7, nc8, nc9, nc10, nc11, nc12, nc13, nc14, nc15, nc16, nc17, nc18, nc19, nc20, nc21, fnC_inc, fnC_up, dsZ_j, dsZ_8, dsT_k, dpL_j]
    exact A_iret dX11_dish_15 (by simp only [dsM]; first | (rw [if_pos h6]; done) | (rw [if_neg h6, if_pos h30]; done) | (rw [if_neg h6, if_neg (by rw [h30]; decide), if_neg (of_decide_eq_false h64)]; done) | (rw [if_neg h6, if_neg (by rw [h30]; decide), if_pos (of_decide_eq_true h64)]; unfold dsP; first | (rw [if_neg h0q]; done) | (rw [if_pos h0q]; unfold dsE; first | (rw [if_pos h210]; done) | (rw [if_neg h210, if_pos hov]; done) | (rw [if_neg h210, if_pos hov]; rfl) | (rw [if_neg h210, if_neg hov]; done) | (rw [if_neg h210, if_neg hov]; rfl)))) (by simp only [dsM]; first | (rw [if_pos h6]; done) | (rw [if_neg h6, if_pos h30]; done) | (rw [if_neg h6, if_neg (by rw [h30]; decide), if_neg (of_decide_eq_false h64)]; done) | (rw [if_neg h6, if_neg (by rw [h30]; decide), if_pos (of_decide_eq_true h64)]; unfold dsP; first | (rw [if_neg h0q]; done) | (rw [if_pos h0q]; unfold dsE; first | (rw [if_pos h210]; done) | (rw [if_neg h210, if_pos hov]; done) | (rw [if_neg h210, if_pos hov]; rfl) | (rw [if_neg h210, if_neg hov]; done) | (rw [if_neg h210, if_neg hov]; rfl))))
end S38
