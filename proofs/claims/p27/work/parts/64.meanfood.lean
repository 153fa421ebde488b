/-! the meaning, side by side: the rows told; foods -/
section S64
variable {σ τ : Sg} {e : Int} {K V N S : Int → Int}
def FdR (σ τ : Sg) (j : Nat) : Prop := σ 23 j = τ 90 j ∧ σ 24 j = τ 91 j ∧ σ 25 j = τ 92 j ∧ 0 ≤ τ 92 j ∧ inr (τ 92 j)
def DsR (σ τ : Sg) (j : Nat) : Prop := (σ 26 j = τ 94 j ∧ σ 27 j = enR τ j ∧ σ 28 j = pcR τ j ∧ σ 29 j = τ 97 j ∧ σ 30 j = τ 98 j ∧ 0 ≤ τ 97 j ∧ inr (τ 97 j)) ∧ ∀ f : Nat, f < 16 → σ (34 + j) f = τ 99 (16 * j + f)
def ChR (σ τ : Sg) (c : Nat) : Prop := σ 32 c = τ 101 c ∧ σ 52 c = τ 103 c ∧ σ 53 c = τ 104 c ∧ (0 ≤ τ 104 c ∧ τ 104 c ≤ τ 84 15) ∧ 0 ≤ τ 103 c
def RuR (σ τ : Sg) (r : Nat) : Prop := (σ 19 r = τ 105 r ∧ σ 20 r = τ 106 r ∧ σ 21 r = τ 107 r) ∧ ((0 ≤ τ 105 r ∧ τ 105 r ≤ 3) ∧ (0 ≤ τ 106 r ∧ τ 106 r ≤ 9999) ∧ (0 ≤ τ 107 r ∧ τ 107 r ≤ 9999) ∧ (-1 ≤ τ 108 r ∧ τ 108 r < 16) ∧ (-1 ≤ τ 109 r ∧ τ 109 r < 16)) ∧ ((τ 105 r = 0 → 1 ≤ τ 106 r) ∧ (τ 105 r = 1 ∨ τ 105 r = 2 → 1 ≤ τ 107 r)) ∧
  ((τ 105 r = 3 ∧ σ 22 r = 0 ∧ σ 54 r = -1) ∨ (τ 105 r ≠ 3 ∧ τ 108 r ≠ -1 ∧ σ 22 r = ishl 1 (τ 108 r) ∧ σ 54 r = -1) ∨ (τ 105 r ≠ 3 ∧ τ 108 r = -1 ∧ σ 54 r = τ 109 r ∧ 0 ≤ τ 109 r))
theorem FdR.fr {z y : Sg} {j : Nat} (h : FdR σ τ j) (h1 : ∀ k, k = 23 ∨ k = 24 ∨ k = 25 → z k j = σ k j) (h2 : ∀ k, k = 90 ∨ k = 91 ∨ k = 92 → y k j = τ k j) : FdR z y j := by
  unfold FdR
  rw [h1 23 (by decide), h1 24 (by decide), h1 25 (by decide), h2 90 (by decide), h2 91 (by decide), h2 92 (by decide)]
  exact h
theorem enR_at {y : Sg} {j : Nat} (h1 : y 95 j = τ 95 j) (h2 : y 94 j = τ 94 j) : enR y j = enR τ j := by
  show (y 95 j).tdiv (y 94 j) = (τ 95 j).tdiv (τ 94 j)
  rw [h1, h2]
theorem pcR_at {y : Sg} {j : Nat} (h1 : y 96 j = τ 96 j) (h2 : y 94 j = τ 94 j) : pcR y j = pcR τ j := by
  show (y 96 j).tdiv (y 94 j) = (τ 96 j).tdiv (τ 94 j)
  rw [h1, h2]
theorem DsR.fr {z y : Sg} {j : Nat} (h : DsR σ τ j) (h1 : ∀ k, 26 ≤ k ∧ k ≤ 30 → z k j = σ k j) (h2 : z (34 + j) = σ (34 + j)) (h3 : ∀ k, 94 ≤ k ∧ k ≤ 98 → y k j = τ k j) (h4 : ∀ f : Nat, f < 16 → y 99 (16 * j + f) = τ 99 (16 * j + f)) : DsR z y j := by
  unfold DsR
  rw [h1 26 (by decide), h1 27 (by decide), h1 28 (by decide), h1 29 (by decide), h1 30 (by decide), h2, h3 94 (by decide), h3 97 (by decide), h3 98 (by decide), enR_at (h3 95 (by decide)) (h3 94 (by decide)), pcR_at (h3 96 (by decide)) (h3 94 (by decide))]
  exact ⟨h.1, fun f hf => by rw [h4 f hf]; exact h.2 f hf⟩
theorem ChR.fr {z y : Sg} {c : Nat} (h : ChR σ τ c) (h1 : ∀ k, k = 32 ∨ k = 52 ∨ k = 53 → z k c = σ k c) (h2 : ∀ k, k = 101 ∨ k = 103 ∨ k = 104 → y k c = τ k c) (h3 : τ 84 15 ≤ y 84 15) : ChR z y c := by
  unfold ChR
  rw [h1 32 (by decide), h1 52 (by decide), h1 53 (by decide), h2 101 (by decide), h2 103 (by decide), h2 104 (by decide)]
  obtain ⟨a1, a2, a3, a4, a5⟩ := h
  exact ⟨a1, a2, a3, ⟨a4.1, by omega⟩, a5⟩
theorem RuR.fr {z y : Sg} {r : Nat} (h : RuR σ τ r) (h1 : ∀ k, (19 ≤ k ∧ k ≤ 22) ∨ k = 54 → z k r = σ k r) (h2 : ∀ k, 105 ≤ k ∧ k ≤ 109 → y k r = τ k r) : RuR z y r := by
  unfold RuR
  rw [h1 19 (by decide), h1 20 (by decide), h1 21 (by decide), h1 22 (by decide), h1 54 (by decide), h2 105 (by decide), h2 106 (by decide), h2 107 (by decide), h2 108 (by decide), h2 109 (by decide)]
  exact h
/-- the rows told so far, side by side -/
def RR (σ τ : Sg) : Prop := NmR σ τ 10 89 (τ 84 10) 16 ∧ NmR σ τ 12 93 (τ 84 15) 16 ∧ NmR σ τ 14 100 (τ 84 23) 4 ∧ TgR σ τ ∧ (σ 18 4 = τ 84 30 ∧ σ 9 16 = τ 84 25) ∧
  (∀ j : Nat, (j : Int) < τ 84 10 → FdR σ τ j) ∧ (∀ j : Nat, (j : Int) < τ 84 15 → DsR σ τ j) ∧ (∀ c : Nat, (c : Int) < τ 84 25 → ChR σ τ c) ∧ (∀ r : Nat, (r : Int) < τ 84 30 → RuR σ τ r) ∧ (∀ j f : Nat, (j : Int) < τ 84 15 → f < 16 → τ 84 10 ≤ f → τ 99 (16 * j + f) = 0)
/-- the class's cells as they were but for numbers under way; the reference's but for places of its own -/
theorem RR.fr {z y : Sg} (h : RR σ τ) (h1 : ∀ k, 9 ≤ k ∧ k ≤ 54 ∧ k ≠ 51 → z k = σ k) (h2 : ∀ j, j ≠ 4 ∧ j ≠ 8 → y 84 j = τ 84 j) (h3 : ∀ k, 84 < k → y k = τ k) : RR z y := by
  obtain ⟨a1, a2, a3, a4, a5, a6, a7, a8, a9, a10⟩ := h
  unfold RR TgR
  rw [h2 10 (by decide), h2 15 (by decide), h2 23 (by decide), h2 36 (by decide), h2 30 (by decide), h2 25 (by decide), h1 18 (by decide), h1 9 (by decide)]
  have nf : ∀ {k ka : Nat} {n m : Int}, (9 ≤ k ∧ k < 40) → 84 < ka → NmR σ τ k ka n m → NmR z y k ka n m := fun {k ka n m} hk hka g => g.fr (by rw [h1 k (by omega)]) (by rw [h1 k (by omega)]) (fun j _ => by rw [h1 (k + 1) (by omega)]) (fun j _ => by rw [h3 ka hka])
  refine ⟨nf (by decide) (by decide) a1, nf (by decide) (by decide) a2, nf (by decide) (by decide) a3, nf (by decide) (by decide) a4, a5, fun j hj => ?_, fun j hj => ?_, fun c hc => ?_, fun r hr => ?_, fun j f hj hf hg => ?_⟩
  · exact (a6 j hj).fr (fun k hk => by rw [h1 k (by omega)]) (fun k hk => by rw [h3 k (by omega)])
  · have hb := a2.2.1
    exact (a7 j hj).fr (fun k hk => by rw [h1 k (by omega)]) (h1 _ (by omega)) (fun k hk => by rw [h3 k (by omega)]) (fun f _ => by rw [h3 99 (by decide)])
  · exact (a8 c hc).fr (fun k hk => by rw [h1 k (by omega)]) (fun k hk => by rw [h3 k (by omega)]) (by rw [h2 15 (by decide)]; exact Int.le_refl _)
  · exact (a9 r hr).fr (fun k hk => by rw [h1 k (by omega)]) (fun k hk => by rw [h3 k (by omega)])
  · rw [h3 99 (by decide)]; exact a10 j f hj hf hg
/-- how an item ends: b its semicolon -/
def OU (e : Int) (S : Int → Int) (b : Int) (σ τ : Sg) (x : Bool × Sg) (y : Int × Sg) : Prop :=
  FrM σ x.2 ∧ ((x.1 = true ∧ y.1 = 0 ∧ x.2 51 6 = b + 1 ∧ x.2 51 7 = σ 51 7 ∧ x.2 51 8 = σ 51 8 ∧ y.2 84 4 = τ 84 4 ∧ RR x.2 y.2) ∨ (x.1 = false ∧ (1 ≤ y.1 ∧ y.1 ≤ 6) ∧ x.2 51 7 = y.1 ∧ (0 ≤ x.2 51 8 ∧ x.2 51 8 ≤ e) ∧ y.2 84 4 = S (x.2 51 8)))
theorem OU.no {b : Int} {x : Bool × Sg} {y : Int × Sg} {z : Sg} {c t : Int} (hz : FrM σ z) (hx : x = (false, flM z c t)) (hc : 1 ≤ c ∧ c ≤ 6) (ht : 0 ≤ t ∧ t ≤ e) (h1 : y.1 = c) (h4 : y.2 84 4 = S t) : OU e S b σ τ x y := by
  subst hx
  refine ⟨hz.fl, Or.inr ⟨rfl, by omega, ?_, ?_, ?_⟩⟩
  · dsimp only; rw [(flM_7 _ _ _).1, h1]
  · dsimp only; rw [(flM_7 _ _ _).2]; exact ht
  · dsimp only; rw [(flM_7 _ _ _).2, h4]
theorem OU.tr {b : Int} {x : Bool × Sg} {y : Int × Sg} {z w : Sg} (h : OU e S b z w x y) (hz : FrM σ z) (h7 : z 51 7 = σ 51 7) (h8 : z 51 8 = σ 51 8) (h4 : w 84 4 = τ 84 4) : OU e S b σ τ x y := by
  obtain ⟨a1, a2⟩ := h
  refine ⟨hz.tr a1, ?_⟩
  rcases a2 with ⟨b1, b2, b3, b4, b5, b6, b7⟩ | q
  · exact Or.inl ⟨b1, b2, b3, b4.trans h7, b5.trans h8, b6.trans h4, b7⟩
  · exact Or.inr q
theorem nn_e {a : Int} (h : TC σ e K V N S) (h1 : NmR σ τ 10 89 (τ 84 10) 16) (h2 : NmR σ τ 12 93 (τ 84 15) 16) (h3 : NmR σ τ 14 100 (τ 84 23) 4) (ha : 0 ≤ a ∧ a ≤ e) (hK : K a = 22) (h6 : σ 51 6 = a) : nnM σ = if tknR τ (V a) = true then (false, flM σ 3 a) else (true, nxM σ) := by
  have hv := (h.2 a ha.1 ha.2).2.1 hK
  have e1 : namedC σ (V a) = tknR τ (V a) := by
    unfold namedC tknR
    rw [h1.idx, h2.idx, h3.idx]
  unfold nnM
  rw [h6, hv, e1]
theorem tkn_no {v : Int} (h : ¬ tknR τ v = true) : fnC τ 89 (τ 84 10) v = -1 ∧ fnC τ 93 (τ 84 15) v = -1 ∧ fnC τ 100 (τ 84 23) v = -1 := by
  unfold tknR at h
  have h := fun z => h (decide_eq_true z)
  refine ⟨?_, ?_, ?_⟩
  · exact Classical.byContradiction fun z => h (Or.inl z)
  · exact Classical.byContradiction fun z => h (Or.inr (Or.inl z))
  · exact Classical.byContradiction fun z => h (Or.inr (Or.inr z))
/-- a food behind its numbers -/
theorem fd_tl {p Y : Sg} {n : Nat} {v en pr c b : Int} (hI : IV e K V N S Y) (hn : (n : Int) = Y 84 10) (hlt : n < 16) (hT : TC p e K V N S) (hR : RR p Y) (h23 : p 23 n = en) (h24 : p 24 n = pr) (hv : fnC Y 89 (Y 84 10) v = -1) (h6 : p 51 6 = c) (h8 : Y 84 8 = c) (h0 : 0 ≤ c) (hg : TgO K c b) (hb : K b = 17) :
    OU e S b p Y (rfEM n v (rf6M p)) (fdT K V S n v en pr Y) := by
  have hbi := hI.1.in hb (by decide)
  have he := hI.1.e
  obtain ⟨a1, a2, a3, a4, a5, a6, a7, a8, a9, a10⟩ := id hR
  have hT0 : TC (up p 51 10 0) e K V N S := (FrM.rf.u (by decide)).tc hT
  have hR0 : TgR (up p 51 10 0) Y := a4.fr (up_k _ _ (by decide)) (up_k _ _ (by decide)) (fun j _ => up_k _ _ (by decide)) (fun _ _ => rfl)
  have hu := tg_ok (base := 0) (n := 1500) (by omega) hI.1 hT0 hR0 hb hg ((up_j _ _ (by decide)).trans h6) h8 h0 ((up_s _ _ _ _).trans (ior_0 0 inr_0).symm)
  have e6 : rf6M p = tgL 1500 (up p 51 10 0) := rfl
  rw [e6]
  generalize tgL 1500 (up p 51 10 0) = q at hu ⊢
  obtain ⟨u1, u2, u3⟩ := hu
  have qk : ∀ k, k ≠ 16 ∧ k ≠ 17 ∧ k ≠ 51 → q.2 k = p k := fun k hk => by rw [u1 k hk, up_r _ _ _ hk.2.2]
  have qf : FrM p q.2 := fun k hk => qk k (by omega)
  have yk : ∀ k j, k ≠ 110 ∧ (k ≠ 84 ∨ (j ≠ 8 ∧ j ≠ 36)) → (thC K V Y).2 k j = Y k j := fun k j h => thC_keep h Y
  unfold fdT rfEM
  rcases u3 with ⟨b1, b2, b3, b4, b5, b6, b7⟩ | ⟨b1, b2, b3, b4, b5, b6⟩
  · rw [if_pos b1, if_neg (by omega)]
    generalize hY : (thC K V Y).2 = Z at b7 yk ⊢
    generalize (thC K V Y).1 = set at b2 b4 ⊢
    rw [ior_0 _ b2.2] at b4
    have w10 : up q.2 25 n (q.2 51 10) 10 2 = n := by rw [up_k _ _ (by decide), qk 10 (by decide), a1.1, hn]
    rw [addC_e w10 ⟨by omega, by omega⟩]
    have z10 : Z 84 10 = n := by rw [yk 84 10 (by decide), hn]
    have z15 : Z 84 15 = Y 84 15 := yk 84 15 (by decide)
    have z23 : Z 84 23 = Y 84 23 := yk 84 23 (by decide)
    have z25 : Z 84 25 = Y 84 25 := yk 84 25 (by decide)
    have z30 : Z 84 30 = Y 84 30 := yk 84 30 (by decide)
    have z4 : Z 84 4 = Y 84 4 := yk 84 4 (by decide)
    generalize hX : nxM (up (up (up q.2 25 n (q.2 51 10)) 11 ((n : Int)).toNat v) 10 2 ((n : Int) + 1)) = X
    generalize hW : incS 10 (up (up (up (up Z 89 n v) 90 n en) 91 n pr) 92 n set) = W
    have Xk : ∀ k, k ≠ 10 ∧ k ≠ 11 ∧ k ≠ 16 ∧ k ≠ 17 ∧ k ≠ 25 ∧ k ≠ 51 → X k = p k := fun k hk => by
      rw [← hX, nxM_r _ hk.2.2.2.2.2, up_r _ _ _ hk.1, up_r _ _ _ hk.2.1, up_r _ _ _ hk.2.2.2.2.1, qk k ⟨hk.2.2.1, hk.2.2.2.1, hk.2.2.2.2.2⟩]
    have Xt : ∀ k, k = 16 ∨ k = 17 → X k = q.2 k := fun k hk => by rw [← hX, nxM_r _ (by omega), up_r _ _ _ (by omega), up_r _ _ _ (by omega), up_r _ _ _ (by omega)]
    have X51 : ∀ j, j ≠ 6 → X 51 j = q.2 51 j := fun j hj => by rw [← hX, nxM_j _ (Or.inr hj), up_k _ _ (by decide), up_k _ _ (by decide), up_k _ _ (by decide)]
    have X516 : X 51 6 = b + 1 := by rw [← hX, nxM_6, up_k _ _ (by decide), up_k _ _ (by decide), up_k _ _ (by decide), b3]
    have X102 : X 10 2 = (n : Int) + 1 := by rw [← hX, nxM_j _ (Or.inl (by decide)), up_s]
    have X101 : X 10 1 = p 10 1 := by rw [← hX, nxM_j _ (Or.inl (by decide)), up_j _ _ (by decide), up_k _ _ (by decide), up_k _ _ (by decide), qk 10 (by decide)]
    have X11 : ∀ j : Nat, X 11 j = if j = n then v else p 11 j := fun j => by
      rw [← hX, nxM_j _ (Or.inl (by decide)), up_k _ _ (by decide), up_at, up_k _ _ (by decide), qk 11 (by decide)]
      by_cases c : j = n
      · rw [if_pos (by omega), if_pos c]
      · rw [if_neg (by omega), if_neg c]
    have X25 : ∀ j : Nat, X 25 j = if j = n then set else p 25 j := fun j => by
      rw [← hX, nxM_j _ (Or.inl (by decide)), up_k _ _ (by decide), up_k _ _ (by decide), up_at, qk 25 (by decide), b4]
    have Wk : ∀ k j, k ≠ 84 ∧ k ≠ 89 ∧ k ≠ 90 ∧ k ≠ 91 ∧ k ≠ 92 → W k j = Z k j := fun k j hk => by rw [← hW, incS_k _ hk.1, up_k _ _ hk.2.2.2.2, up_k _ _ hk.2.2.2.1, up_k _ _ hk.2.2.1, up_k _ _ hk.2.1]
    have W84 : ∀ j, j ≠ 10 → W 84 j = Z 84 j := fun j hj => by rw [← hW, incS_j _ hj, up_k _ _ (by decide), up_k _ _ (by decide), up_k _ _ (by decide), up_k _ _ (by decide)]
    have W10 : W 84 10 = (n : Int) + 1 := by rw [← hW, incS_s, up_k _ _ (by decide), up_k _ _ (by decide), up_k _ _ (by decide), up_k _ _ (by decide), z10]
    have W89 : ∀ j : Nat, W 89 j = if j = n then v else Y 89 j := fun j => by
      rw [← hW, incS_k _ (by decide), up_k _ _ (by decide), up_k _ _ (by decide), up_k _ _ (by decide), up_at, yk 89 j (by omega)]
    have W90 : ∀ j : Nat, W 90 j = if j = n then en else Y 90 j := fun j => by
      rw [← hW, incS_k _ (by decide), up_k _ _ (by decide), up_k _ _ (by decide), up_at, up_k _ _ (by decide), yk 90 j (by omega)]
    have W91 : ∀ j : Nat, W 91 j = if j = n then pr else Y 91 j := fun j => by
      rw [← hW, incS_k _ (by decide), up_k _ _ (by decide), up_at, up_k _ _ (by decide), up_k _ _ (by decide), yk 91 j (by omega)]
    have W92 : ∀ j : Nat, W 92 j = if j = n then set else Y 92 j := fun j => by
      rw [← hW, incS_k _ (by decide), up_at, up_k _ _ (by decide), up_k _ _ (by decide), up_k _ _ (by decide), yk 92 j (by omega)]
    have Wr : ∀ k j, 92 < k ∧ k ≠ 110 → W k j = Y k j := fun k j hk => by rw [Wk k j (by omega), yk k j (by omega)]
    have XF : FrM p X := fun k hk => Xk k (by omega)
    refine ⟨XF, Or.inl ⟨rfl, rfl, X516, ?_, ?_, ?_, ?_⟩⟩
    · dsimp only; rw [X51 7 (by decide), b5]; exact up_j _ _ (by decide)
    · dsimp only; rw [X51 8 (by decide), b6]; exact up_j _ _ (by decide)
    · dsimp only; rw [W84 4 (by decide), z4]
    · dsimp only
      unfold RR TgR
      rw [W10, W84 15 (by decide), W84 23 (by decide), W84 36 (by decide), W84 30 (by decide), W84 25 (by decide), z15, z23, z30, z25]
      rw [← hn] at a1 a6 hv
      refine ⟨a1.add (by omega) hv X101 X102 (fun j hj => ?_) (fun j hj => ?_) ?_ ?_, a2.fr ?_ ?_ (fun j _ => ?_) (fun j _ => Wr 93 j (by decide)), a3.fr ?_ ?_ (fun j _ => ?_) (fun j _ => Wr 100 j (by decide)), b7.fr ?_ ?_ (fun j _ => ?_) (fun j _ => Wk 110 j (by decide)), ⟨?_, ?_⟩, fun j hj => ?_, fun j hj => ?_, fun j hj => ?_, fun j hj => ?_, fun j f hj hf hg2 => ?_⟩
      · rw [X11, if_neg (by omega)]
      · rw [W89, if_neg (by omega)]
      · rw [X11, if_pos (by omega)]
      · rw [W89, if_pos (by omega)]
      · rw [Xk 12 (by decide)]
      · rw [Xk 12 (by decide)]
      · rw [Xk 13 (by decide)]
      · rw [Xk 14 (by decide)]
      · rw [Xk 14 (by decide)]
      · rw [Xk 15 (by decide)]
      · rw [Xt 16 (by decide)]
      · rw [Xt 16 (by decide)]
      · rw [Xt 17 (by decide)]
      · rw [Xk 18 (by decide)]; exact a5.1
      · rw [Xk 9 (by decide)]; exact a5.2
      · by_cases c : j = n
        · unfold FdR
          rw [Xk 23 (by decide), Xk 24 (by decide), X25, W90, W91, W92, if_pos c, if_pos c, if_pos c, if_pos c, c, h23, h24]
          exact ⟨rfl, rfl, rfl, b2⟩
        · refine (a6 j (by omega)).fr (fun k hk => ?_) (fun k hk => ?_)
          · rcases hk with rfl | rfl | rfl
            · rw [Xk 23 (by decide)]
            · rw [Xk 24 (by decide)]
            · rw [X25, if_neg c]
          · rcases hk with rfl | rfl | rfl
            · rw [W90, if_neg c]
            · rw [W91, if_neg c]
            · rw [W92, if_neg c]
      · have hb := a2.2.1
        exact (a7 j hj).fr (fun k hk => by rw [Xk k (by omega)]) (Xk _ (by omega)) (fun k hk => Wr k j (by omega)) (fun f _ => Wr 99 _ (by decide))
      · exact (a8 j hj).fr (fun k hk => by rw [Xk k (by omega)]) (fun k hk => Wr k j (by omega)) (by rw [W84 15 (by decide), z15]; exact Int.le_refl _)
      · exact (a9 j hj).fr (fun k hk => by rw [Xk k (by omega)]) (fun k hk => Wr k j (by omega))
      · rw [Wr 99 _ (by decide)]; exact a10 j f hj hf (by omega)
  · rw [if_neg (by rw [b1]; decide), if_pos b2]
    refine ⟨qf, Or.inr ⟨rfl, by dsimp only; omega, b3, by dsimp only; rw [b4]; exact ⟨b5, b6⟩, ?_⟩⟩
    dsimp only
    rw [up_s, b4]
theorem fo_ok {a b : Int} (hI : IV e K V N S τ) (hT : TC σ e K V N S) (hR : RR σ τ) (h0 : 0 ≤ a) (hg : FdO K (a + 1) b) (h6 : σ 51 6 = a) (h8 : τ 84 8 = a + 1) : OU e S b σ τ (rfM σ) (foM K V N S a τ) := by
  obtain ⟨g1, g2, g3, g4⟩ := hg
  have hbi := hI.1.in g4 (by decide)
  have i1 := hI.1.in g1 (by decide)
  have i2 := hI.1.in g2 (by decide)
  have hTk := hI.1
  obtain ⟨a1, a2, a3, a4, a5, a6, a7, a8, a9, a10⟩ := id hR
  have hn := a1.2.1
  have e10 : i32 (σ 10 2) = τ 84 10 := by rw [a1.1]; exact i32_n _ (by omega)
  unfold rfM foM
  rw [e10, a1.full, h8, h6]
  by_cases c1 : τ 84 10 = 16
  · rw [if_pos (Or.inl (decide_eq_true (by omega))), if_pos c1]
    exact OU.no FrM.rf rfl (by decide) ⟨h0, by omega⟩ rfl (by dsimp only; rw [up_s])
  · rw [if_neg (fun z => by
      rcases z with z | z | z
      · have := of_decide_eq_true z; omega
      · omega
      · omega), if_neg c1]
    have e1 : rf1M σ = if tknR τ (V (a + 1)) = true then (false, flM (nxM σ) 3 (a + 1)) else (true, nxM (nxM σ)) := by
      unfold rf1M
      exact nn_e hT.nx (a1.fr (nxM_j σ (Or.inl (by decide))) (nxM_j σ (Or.inl (by decide))) (fun j _ => nxM_j σ (Or.inl (by decide))) (fun _ _ => rfl)) (a2.fr (nxM_j σ (Or.inl (by decide))) (nxM_j σ (Or.inl (by decide))) (fun j _ => nxM_j σ (Or.inl (by decide))) (fun _ _ => rfl)) (a3.fr (nxM_j σ (Or.inl (by decide))) (nxM_j σ (Or.inl (by decide))) (fun j _ => nxM_j σ (Or.inl (by decide))) (fun _ _ => rfl)) ⟨by omega, by omega⟩ g1 (by rw [nxM_6, h6])
    by_cases c2 : tknR τ (V (a + 1)) = true
    · rw [if_pos c2] at e1
      rw [if_pos c2, e1, if_neg (by first | exact fun z => ff z | decide)]
      exact OU.no FrM.rf.nx rfl (by decide) ⟨by omega, by omega⟩ rfl (by dsimp only; rw [up_s])
    · rw [if_neg c2] at e1
      have hv := (tkn_no c2).1
      have e2 : rf2M σ = if 0 ≤ N (a + 1 + 1) ∧ N (a + 1 + 1) ≤ 900 then (true, nxM (up (nxM (nxM σ)) 51 9 (N (a + 1 + 1)))) else (false, flM (nxM (nxM σ)) 5 (a + 1 + 1)) := by
        unfold rf2M
        rw [e1]
        exact tn_e hT.nx.nx ⟨by omega, by omega⟩ g2 (by rw [nxM_6, nxM_6, h6]) (by decide) (by decide)
      have hN1 := hTk.2.2.2.1 _ g2
      rw [if_neg c2, e1, if_pos rfl]
      by_cases c3 : 900 < N (a + 1 + 1)
      · rw [if_neg (by omega)] at e2
        rw [if_pos c3, e2, if_neg (by first | exact fun z => ff z | decide)]
        exact OU.no FrM.rf.nx.nx rfl (by decide) ⟨by omega, by omega⟩ rfl (by dsimp only; rw [up_s])
      · rw [if_pos ⟨hN1.1, by omega⟩] at e2
        rw [if_neg c3, e2, if_pos rfl]
        have en : (((τ 84 10).toNat : Nat) : Int) = τ 84 10 := by omega
        -- the state behind the energy
        generalize hp3 : rf3M σ = p3
        have p3e : p3 = up (up (nxM (up (nxM (nxM σ)) 51 9 (N (a + 1 + 1)))) 23 (τ 84 10).toNat (N (a + 1 + 1))) 24 (τ 84 10).toNat 0 := by
          rw [← hp3]; unfold rf3M
          rw [e2, e10]
          dsimp only
          rw [nxM_j _ (Or.inr (by decide)), up_s]
        have p3F : FrM σ p3 := by rw [p3e]; exact (((FrM.rf.nx.nx.u (by decide)).nx).u (by decide)).u (by decide)
        have p3T := p3F.tc hT
        have p36 : p3 51 6 = a + 3 := by rw [p3e, up_k _ _ (by decide), up_k _ _ (by decide), nxM_6, up_j _ _ (by decide), nxM_6, nxM_6, h6]; omega
        have p3k : ∀ k, k ≠ 23 ∧ k ≠ 24 ∧ k ≠ 51 → p3 k = σ k := fun k hk => by rw [p3e, up_r _ _ _ hk.2.1, up_r _ _ _ hk.1, nxM_r _ hk.2.2, up_r _ _ _ hk.2.2, nxM_r _ hk.2.2, nxM_r _ hk.2.2]
        have p323 : ∀ j, p3 23 j = if j = (τ 84 10).toNat then N (a + 1 + 1) else σ 23 j := fun j => by rw [p3e, up_k _ _ (by decide), up_at, nxM_j _ (Or.inl (by decide)), up_k _ _ (by decide), nxM_j _ (Or.inl (by decide)), nxM_j _ (Or.inl (by decide))]
        have p324 : ∀ j, p3 24 j = if j = (τ 84 10).toNat then 0 else σ 24 j := fun j => by rw [p3e, up_at, up_k _ _ (by decide), nxM_j _ (Or.inl (by decide)), up_k _ _ (by decide), nxM_j _ (Or.inl (by decide)), nxM_j _ (Or.inl (by decide))]
        have p351 : ∀ j, j ≠ 6 ∧ j ≠ 9 → p3 51 j = σ 51 j := fun j hj => by rw [p3e, up_k _ _ (by decide), up_k _ _ (by decide), nxM_j _ (Or.inr hj.1), up_j _ _ hj.2, nxM_j _ (Or.inr hj.1), nxM_j _ (Or.inr hj.1)]
        have hk16 : KC p3 (p3 51 6) = K (a + 1 + 2) := by
          rw [p36, (p3T.2 (a + 3) (by omega) (by
            rcases g3 with ⟨z, _⟩ | ⟨_, z⟩
            · have := hTk.in z (by decide); omega
            · have := TgO_le hTk z; omega)).1, show a + 1 + 2 = a + 3 from by omega]
        -- the rows are as they were
        have rows : ∀ (p Y : Sg), (∀ k, k ≠ 23 ∧ k ≠ 24 ∧ k ≠ 51 → p k = σ k) → (∀ j : Nat, (j : Int) < τ 84 10 → p 23 j = σ 23 j ∧ p 24 j = σ 24 j) → (∀ j, j ≠ 8 → Y 84 j = τ 84 j) → (∀ k, k ≠ 84 → Y k = τ k) → RR p Y := by
          intro p Y hp hq hY hZ
          unfold RR TgR
          rw [hY 10 (by decide), hY 15 (by decide), hY 23 (by decide), hY 36 (by decide), hY 30 (by decide), hY 25 (by decide), hp 18 (by decide), hp 9 (by decide)]
          have nf : ∀ {k ka : Nat} {n m : Int}, (9 ≤ k ∧ k < 22) → 84 < ka → NmR σ τ k ka n m → NmR p Y k ka n m := fun {k ka n m} hk hka g => g.fr (by rw [hp k (by omega)]) (by rw [hp k (by omega)]) (fun j _ => by rw [hp (k + 1) (by omega)]) (fun j _ => by rw [hZ ka (by omega)])
          refine ⟨nf (by decide) (by decide) a1, nf (by decide) (by decide) a2, nf (by decide) (by decide) a3, nf (by decide) (by decide) a4, a5, fun j hj => ?_, fun j hj => ?_, fun c hc => ?_, fun r hr => ?_, fun j f hj hf hg => ?_⟩
          · refine (a6 j hj).fr (fun k hk => ?_) (fun k hk => by rw [hZ k (by omega)])
            rcases hk with rfl | rfl | rfl
            · exact (hq j hj).1
            · exact (hq j hj).2
            · rw [hp 25 (by decide)]
          · have hb15 := a2.2.1
            exact (a7 j hj).fr (fun k hk => by rw [hp k (by omega)]) (hp _ (by omega)) (fun k hk => by rw [hZ k (by omega)]) (fun f _ => by rw [hZ 99 (by decide)])
          · exact (a8 c hc).fr (fun k hk => by rw [hp k (by omega)]) (fun k hk => by rw [hZ k (by omega)]) (by rw [hY 15 (by decide)]; exact Int.le_refl _)
          · exact (a9 r hr).fr (fun k hk => by rw [hp k (by omega)]) (fun k hk => by rw [hZ k (by omega)])
          · rw [hZ 99 (by decide)]; exact a10 j f hj hf hg
        unfold rf5M
        rw [hp3, hk16]
        have hvn : VC σ (a + 1) = V (a + 1) := (hT.2 (a + 1) (by omega) (by omega)).2.1 g1
        rw [hvn]
        by_cases c4 : K (a + 1 + 2) = 16
        · rw [if_pos c4, if_pos c4]
          obtain ⟨g5, g6⟩ : K (a + 1 + 3) = 23 ∧ TgO K (a + 1 + 4) b := by
            rcases g3 with z | z
            · exact z.2
            · exact absurd c4 z.1
          have i5 := hTk.in g5 (by decide)
          have hN3 := hTk.2.2.2.1 _ g5
          have e4 : rf4M σ = if 0 ≤ N (a + 1 + 3) ∧ N (a + 1 + 3) ≤ 999 then (true, nxM (up (nxM p3) 51 9 (N (a + 1 + 3)))) else (false, flM (nxM p3) 5 (a + 1 + 3)) := by
            unfold rf4M
            rw [hp3]
            exact tn_e p3T.nx ⟨by omega, by omega⟩ g5 (by rw [nxM_6, p36]; omega) (by decide) (by decide)
          by_cases c5 : 999 < N (a + 1 + 3)
          · rw [if_neg (by omega)] at e4
            rw [if_pos c5, e4, if_neg (by first | exact fun z => ff z | decide), if_neg (by first | exact fun z => ff z | decide)]
            exact OU.no p3F.nx rfl (by decide) ⟨by omega, by omega⟩ rfl (by dsimp only; rw [up_s])
          · rw [if_pos ⟨hN3.1, by omega⟩] at e4
            rw [if_neg c5, e4, if_pos rfl, if_pos rfl, e10]
            dsimp only
            generalize hp4 : up (nxM (up (nxM p3) 51 9 (N (a + 1 + 3)))) 24 (τ 84 10).toNat (nxM (up (nxM p3) 51 9 (N (a + 1 + 3))) 51 9) = p4
            have p4k : ∀ k, k ≠ 24 ∧ k ≠ 51 → p4 k = p3 k := fun k hk => by rw [← hp4, up_r _ _ _ hk.1, nxM_r _ hk.2, up_r _ _ _ hk.2, nxM_r _ hk.2]
            have p424 : ∀ j, p4 24 j = if j = (τ 84 10).toNat then N (a + 1 + 3) else p3 24 j := fun j => by rw [← hp4, up_at, nxM_j _ (Or.inr (by decide)), up_s, nxM_j _ (Or.inl (by decide)), up_k _ _ (by decide), nxM_j _ (Or.inl (by decide))]
            have p451 : ∀ j, j ≠ 6 ∧ j ≠ 9 → p4 51 j = p3 51 j := fun j hj => by rw [← hp4, up_k _ _ (by decide), nxM_j _ (Or.inr hj.1), up_j _ _ hj.2, nxM_j _ (Or.inr hj.1)]
            have p46 : p4 51 6 = a + 5 := by rw [← hp4, up_k _ _ (by decide), nxM_6, up_j _ _ (by decide), nxM_6, p36]; omega
            have p4F : FrM σ p4 := fun k hk => by rw [p4k k (by omega)]; exact p3F k hk
            have hRR := rows p4 (incS 8 (incS 8 (incS 8 (incS 8 τ)))) (fun k hk => by rw [p4k k hk.2, p3k k hk]) (fun j hj => ⟨by rw [p4k 23 (by decide), p323, if_neg (by omega)], by rw [p424, if_neg (by omega), p324, if_neg (by omega)]⟩) (fun j hj => by rw [incS_j _ hj, incS_j _ hj, incS_j _ hj, incS_j _ hj]) (fun k hk => by rw [incS_r _ hk, incS_r _ hk, incS_r _ hk, incS_r _ hk])
            refine OU.tr (fd_tl (p := p4) (Y := incS 8 (incS 8 (incS 8 (incS 8 τ)))) (n := (τ 84 10).toNat) (c := a + 5) hI.i8.i8.i8.i8 (by show _ = τ 84 10; omega) (by omega) (p4F.tc hT) hRR (by rw [p4k 23 (by decide), p323, if_pos rfl]) (by rw [p424, if_pos rfl]) hv p46 (by simp only [incS_s, h8]; omega) (by omega) (by rw [show a + 1 + 4 = a + 5 from by omega] at g6; exact g6) g4) p4F (by rw [p451 7 (by decide), p351 7 (by decide)]) (by rw [p451 8 (by decide), p351 8 (by decide)]) rfl
        · rw [if_neg c4, if_neg c4, if_pos rfl]
          have g6 : TgO K (a + 1 + 2) b := by
            rcases g3 with z | z
            · exact absurd z.1 c4
            · exact z.2
          dsimp only
          have hRR := rows p3 (incS 8 (incS 8 τ)) p3k (fun j hj => ⟨by rw [p323, if_neg (by omega)], by rw [p324, if_neg (by omega)]⟩) (fun j hj => by rw [incS_j _ hj, incS_j _ hj]) (fun k hk => by rw [incS_r _ hk, incS_r _ hk])
          refine OU.tr (fd_tl (p := p3) (Y := incS 8 (incS 8 τ)) (n := (τ 84 10).toNat) (c := a + 3) hI.i8.i8 (by show _ = τ 84 10; omega) (by omega) p3T hRR (by rw [p323, if_pos rfl]) (by rw [p324, if_pos rfl]) hv p36 (by simp only [incS_s, h8]; omega) (by omega) (by rw [show a + 1 + 2 = a + 3 from by omega] at g6; exact g6) g4) p3F (p351 7 (by decide)) (p351 8 (by decide)) rfl
end S64
