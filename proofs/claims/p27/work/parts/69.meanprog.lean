/-! the meaning, side by side: programs, and what is meant -/
section S69
variable {σ τ p Y : Sg} {e : Int} {K V N S : Int → Int}
theorem it_ok {a b : Int} (hI : IV e K V N S τ) (hT : TC σ e K V N S) (hR : RR σ τ) (h0 : 0 ≤ a ∧ a ≤ e) (hg : ItO K a b) (h6 : σ 51 6 = a) (h8 : τ 84 8 = a) : OU e S b σ (incS 8 τ) (rpI σ) (mnI K V N S a (incS 8 τ)) := by
  have hR8 : RR σ (incS 8 τ) := hR.fr (fun _ _ => rfl) (fun j hj => incS_j _ hj.2) (fun k hk => incS_r _ (by omega))
  have e8 : incS 8 τ 84 8 = a + 1 := by rw [incS_s, h8]
  have hk : KC σ (σ 51 6) = K a := by rw [h6]; exact (hT.2 a h0.1 h0.2).1
  unfold rpI mnI
  rw [hk]
  rcases hg with ⟨g1, g2⟩ | ⟨g1, g2⟩ | ⟨g1, g2⟩ | ⟨g1, g2⟩
  · rw [if_pos g1, if_pos g1]
    exact fo_ok hI.i8 hT hR8 h0.1 g2 h6 e8
  · rw [if_neg (by rw [g1]; decide), if_pos g1, if_neg (by rw [g1]; decide), if_pos g1]
    exact ds_ok hI.i8 hT hR8 h0.1 g2 h6 e8
  · rw [if_neg (by rw [g1]; decide), if_neg (by rw [g1]; decide), if_pos g1, if_neg (by rw [g1]; decide), if_neg (by rw [g1]; decide), if_pos g1]
    exact me_ok hI.i8 hT hR8 h0.1 g2 h6 e8
  · rw [if_neg (by rw [g1]; decide), if_neg (by rw [g1]; decide), if_neg (by rw [g1]; decide), if_neg (by rw [g1]; decide), if_neg (by rw [g1]; decide), if_neg (by rw [g1]; decide)]
    exact ru_ok hI.i8 hT hR8 h0.1 g2 h6 e8
theorem rpL_false (n : Nat) (z : Sg) : rpL n false z = (false, z) := by
  cases n with
  | zero => rfl
  | succ n => exact if_neg (fun w => ff w.1)
/-- how a program ends -/
def PgU (e : Int) (S : Int → Int) (σ τ x : Sg) (y : Int × Sg) : Prop :=
  FrM σ x ∧ ((y.1 = 0 ∧ x 51 7 = σ 51 7 ∧ x 51 8 = σ 51 8 ∧ y.2 84 4 = τ 84 4 ∧ RR x y.2 ∧ (1 ≤ y.2 84 15 ∧ 1 ≤ y.2 84 23)) ∨ ((1 ≤ y.1 ∧ y.1 ≤ 6) ∧ x 51 7 = y.1 ∧ (0 ≤ x 51 8 ∧ x 51 8 ≤ e) ∧ y.2 84 4 = S (x 51 8)))
theorem PgU.tr {x z w : Sg} {y : Int × Sg} (h : PgU e S z w x y) (hz : FrM σ z) (h7 : z 51 7 = σ 51 7) (h8 : z 51 8 = σ 51 8) (h4 : w 84 4 = τ 84 4) : PgU e S σ τ x y := by
  obtain ⟨a1, a2⟩ := h
  refine ⟨hz.tr a1, ?_⟩
  rcases a2 with ⟨b1, b2, b3, b4, b5⟩ | q
  · exact Or.inl ⟨b1, b2.trans h7, b3.trans h8, b4.trans h4, b5⟩
  · exact Or.inr q
theorem pg_ok : ∀ (m n n2 : Nat) (σ τ : Sg) (a : Int), m ≤ n → m < n2 → IV e K V N S τ → TC σ e K V N S → RR σ τ → (0 ≤ a ∧ a ≤ e) → σ 51 6 = a → τ 84 8 = a → PgE K m a → PgU e S σ τ (rpE (rpL n true σ)) (mnL K V N S n2 τ) := by
  intro m
  induction m with
  | zero =>
    intro n n2 σ τ a hn hn2 hI hT hR h0 h6 h8 hg
    obtain ⟨n2, rfl⟩ : ∃ q, n2 = q + 1 := ⟨n2 - 1, by omega⟩
    have hg : K a = 25 := hg
    have hk : KC σ (σ 51 6) = 25 := by rw [h6, (hT.2 a h0.1 h0.2).1]; exact hg
    have ex : rpL n true σ = (true, σ) := by
      cases n with
      | zero => rfl
      | succ n => exact if_neg (fun w => w.2 hk)
    obtain ⟨a1, a2, a3, a4, a5, a6, a7, a8, a9, a10⟩ := id hR
    have ey : mnL K V N S (n2 + 1) τ = if τ 84 15 = 0 ∨ τ 84 23 = 0 then (6, up τ 84 4 (S a)) else (0, τ) := by
      show (if K (τ 84 8) = 25 then _ else _) = _
      rw [h8, if_pos hg]
    have b2 := a2.2.1
    have b3 := a3.2.1
    rw [ex, ey]
    unfold rpE
    dsimp only
    have e12 : i32 (σ 12 2) = τ 84 15 := by rw [a2.1]; exact i32_n _ (by omega)
    have e14 : i32 (σ 14 2) = τ 84 23 := by rw [a3.1]; exact i32_n _ (by omega)
    by_cases c : τ 84 15 = 0 ∨ τ 84 23 = 0
    · rw [if_pos ⟨rfl, by rw [e12, e14]; exact c⟩, if_pos c, h6]
      refine ⟨FrM.rf.fl, Or.inr ⟨⟨by dsimp only; omega, by dsimp only; omega⟩, by dsimp only; rw [(flM_7 _ _ _).1], by rw [(flM_7 _ _ _).2]; exact h0, ?_⟩⟩
      rw [(flM_7 _ _ _).2]; dsimp only; rw [up_s]
    · rw [if_neg (fun w => c (by have := w.2; rw [e12, e14] at this; exact this)), if_neg c]
      exact ⟨FrM.rf, Or.inl ⟨rfl, rfl, rfl, rfl, hR, by dsimp only; omega, by dsimp only; omega⟩⟩
  | succ m ih =>
    intro n n2 σ τ a hn hn2 hI hT hR h0 h6 h8 hg
    obtain ⟨n, rfl⟩ : ∃ q, n = q + 1 := ⟨n - 1, by omega⟩
    obtain ⟨n2, rfl⟩ : ∃ q, n2 = q + 1 := ⟨n2 - 1, by omega⟩
    obtain ⟨b, g1, g2⟩ := hg
    have hk : ¬ KC σ (σ 51 6) = 25 := by rw [h6, (hT.2 a h0.1 h0.2).1]; exact It_ne g1
    have ex : rpL (n + 1) true σ = rpL n (rpI σ).1 (rpI σ).2 := if_pos ⟨rfl, hk⟩
    have ey : mnL K V N S (n2 + 1) τ = if (mnI K V N S a (incS 8 τ)).1 = 0 then mnL K V N S n2 (incS 8 (mnI K V N S a (incS 8 τ)).2) else mnI K V N S a (incS 8 τ) := by
      show (if K (τ 84 8) = 25 then _ else if (mnI K V N S (τ 84 8) (incS 8 τ)).1 = 0 then _ else _) = _
      rw [h8, if_neg (It_ne g1)]
    have hu := it_ok hI hT hR h0 g1 h6 h8
    rw [ex, ey]
    obtain ⟨q1, q2⟩ := It_b hI.1 g1
    have q3 := hI.1.in q2 (by decide)
    obtain ⟨u1, u2⟩ := hu
    rcases u2 with ⟨b1, b2, b3, b4, b5, b6, b7⟩ | ⟨b1, b2, b3, b4, b5⟩
    · rw [if_pos b2, b1]
      obtain ⟨i1, i2, -⟩ := mnI_inv hI (b := b) (by rw [h8]; exact g1) (by rw [h8]; exact b2)
      rw [h8] at i1 i2
      refine PgU.tr (ih n n2 (rpI σ).2 (incS 8 (mnI K V N S a (incS 8 τ)).2) (b + 1) (by omega) (by omega) i1.i8 (u1.tc hT) (b7.fr (fun _ _ => rfl) (fun j hj => incS_j _ hj.2) (fun k hk => incS_r _ (by omega))) ⟨by omega, by omega⟩ b3 (by rw [incS_s, i2]) g2) u1 b4 b5 ?_
      rw [incS_j _ (by decide), b6, incS_j _ (by decide)]
    · rw [if_neg (by omega), b1, rpL_false]
      exact ⟨u1, Or.inr ⟨b2, b3, b4, b5⟩⟩
/-! what is meant -/
theorem nmE_fn {y : Sg} (h1 : y 84 15 = τ 84 15) (h2 : y 97 = τ 97) (h3 : y 93 = τ 93) (h4 : y 110 = τ 110) (h5 : y 84 36 = τ 84 36) (ah : Int) : nmE y ah = nmE τ ah := funext fun v => nmE_cg h1 h2 h3 h4 h5 ah v
theorem RR.rn (h : RR σ τ) : RN σ τ := by
  obtain ⟨a1, a2, a3, a4, a5, a6, a7, a8, a9, a10⟩ := h
  refine ⟨a2.2.1, a4.2.1, a2.1, a4.1, fun j hj => ⟨a2.2.2.2.2.1 j hj, (a7 j hj).1.2.2.2.1, (a7 j hj).1.2.2.2.2.2.2, (a7 j hj).1.2.2.2.2.2.1⟩, a4.2.2.2.2.1, a2.2.2.2.2.2, a4.2.2.2.2.2⟩
theorem RN.fr {z y : Sg} (h : RN σ τ) (h1 : ∀ k, k = 12 ∨ k = 13 ∨ k = 16 ∨ k = 17 ∨ k = 29 → z k = σ k) (h2 : ∀ k, k = 93 ∨ k = 97 ∨ k = 110 → y k = τ k) (h3 : y 84 15 = τ 84 15) (h4 : y 84 36 = τ 84 36) : RN z y := by
  unfold RN
  rw [h1 12 (by decide), h1 13 (by decide), h1 16 (by decide), h1 17 (by decide), h1 29 (by decide), h2 93 (by decide), h2 97 (by decide), h2 110 (by decide), h3, h4]
  exact h
theorem fd1_ok (hI : IV e K V N S τ) (hT : TC σ e K V N S) (hR : RR σ τ) : ∀ (n : Nat) (i : Int) (z y : Sg), 0 ≤ i → i ≤ τ 84 25 → τ 84 25 ≤ i + n → i + n ≤ 8 → (∀ k, k ≠ 33 ∧ k ≠ 50 → z k = σ k) → (∀ k, k ≠ 84 ∧ k ≠ 102 → y k = τ k) → (∀ j, j ≠ 8 → y 84 j = τ 84 j) → (∀ c : Nat, (c : Int) < i → z 33 c = y 102 c) →
    (∀ k, k ≠ 33 ∧ k ≠ 50 → fG (fun i (a : Sg) => decide (i < i32 (a 9 16) ∧ i < 8)) fd1 n i z k = σ k) ∧ (∀ k, k ≠ 84 ∧ k ≠ 102 → fW (τ 84 25) (szG K V) n i y k = τ k) ∧ (∀ j, j ≠ 8 → fW (τ 84 25) (szG K V) n i y 84 j = τ 84 j) ∧ (∀ c : Nat, (c : Int) < τ 84 25 → fG (fun i (a : Sg) => decide (i < i32 (a 9 16) ∧ i < 8)) fd1 n i z 33 c = fW (τ 84 25) (szG K V) n i y 102 c) := by
  intro n
  induction n with
  | zero =>
    intro i z y i0 i1 i2 i8 hz hy hj h33
    have : i = τ 84 25 := by omega
    exact ⟨hz, hy, hj, fun c hc => h33 c (by omega)⟩
  | succ n ih =>
    intro i z y i0 i1 i2 i8 hz hy hj h33
    obtain ⟨a1, a2, a3, a4, a5, a6, a7, a8, a9, a10⟩ := id hR
    obtain ⟨hTk, hC, hD, hCI⟩ := id hI
    have hC4 := hC.2.2.2.1
    have z916 : z 9 16 = τ 84 25 := by rw [hz 9 (by decide)]; exact a5.2
    rw [fG_s, fW_s, z916, i32_n (τ 84 25) (by omega)]
    by_cases c : i < τ 84 25
    · rw [if_pos (decide_eq_true ⟨c, by omega⟩), if_pos c]
      obtain ⟨q, rfl⟩ : ∃ q : Nat, i = q := ⟨i.toNat, by omega⟩
      have eqn : ((q : Int)).toNat = q := by omega
      obtain ⟨s1, s2, s3, s4, s5⟩ := a8 q c
      obtain ⟨⟨b, hch⟩, -⟩ := hCI q c
      have hK : HK (KC z) K e := by
        refine ⟨hTk.e, ?_, fun t t0 t1 => ?_⟩
        · have ht := (hT.fr (hz 3 (by decide)) (hz 5 (by decide)) (hz 6 (by decide)) (hz 7 (by decide))).2 e hTk.e.1 (Int.le_refl _)
          rw [ht.1]; exact hTk.E
        · exact ((hT.fr (hz 3 (by decide)) (hz 5 (by decide)) (hz 6 (by decide)) (hz 7 (by decide))).2 t t0 t1).1.symm
      have hV : ∀ t, 0 ≤ t → t < e → KC z t = 22 → VC z t = V t := fun t t0 t1 hk => by
        have ht := (hT.fr (hz 3 (by decide)) (hz 5 (by decide)) (hz 6 (by decide)) (hz 7 (by decide))).2 t t0 (by omega)
        exact ht.2.1 (ht.1.symm.trans hk)
      have hRN : RN z y := hR.rn.fr (fun k hk => hz k (by omega)) (fun k hk => hy k (by omega)) (hj 15 (by decide)) (hj 36 (by decide))
      have hce : τ 103 q ≤ e := by
        have hl := ChO_lt hch
        by_cases w : τ 103 q ≤ e
        · exact w
        · have := (ChO_seg hch).2 (τ 103 q) (Int.le_refl _) hl
          rcases this with w2 | w2 | w2 | w2 | w2 | w2 <;> (have := hTk.in w2 (by decide); omega)
      have hs := su_e (σ := z) (τ := y) (J := K) (V := V) (e := e) (ah := τ 104 q) (a := τ 103 q) hK hRN hV (by rw [hj 15 (by decide)]; exact s4) ⟨s5, hce⟩ hch.1
      have ez : fd1 q z = up (suS z (z 52 q) (z 53 q)) 33 q (suV z (z 52 q) (z 53 q)) := by unfold fd1; rw [eqn]
      have z52 : z 52 q = τ 103 q := by rw [hz 52 (by decide)]; exact s2
      have z53 : z 53 q = τ 104 q := by rw [hz 53 (by decide)]; exact s3
      have ey : szG K V q y = up (up y 84 8 (chE K V y (τ 104 q) (τ 103 q))) 102 q (chV K V y (τ 104 q) (τ 103 q)) := by
        unfold szG; rw [eqn, hy 104 (by decide), hy 103 (by decide)]
      rw [ez, ey, z52, z53, hs.1]
      have sk : ∀ k, k ≠ 50 → suS z (τ 103 q) (τ 104 q) k = z k := fun k hk => by unfold suS stE; rw [up_r _ _ _ hk, up_r _ _ _ hk]
      refine ih (q + 1) _ _ (by omega) (by omega) (by omega) (by omega) (fun k hk => ?_) (fun k hk => ?_) (fun j hj2 => ?_) (fun c2 hc2 => ?_)
      · rw [up_r _ _ _ hk.1, sk k hk.2]; exact hz k hk
      · rw [up_r _ _ _ hk.2, up_r _ _ _ hk.1]; exact hy k hk
      · rw [up_k _ _ (by decide), up_j _ _ hj2]; exact hj j hj2
      · rw [up_at, up_at]
        by_cases cq : c2 = q
        · rw [if_pos cq, if_pos cq]
        · rw [if_neg cq, if_neg cq, sk 33 (by decide), up_k _ _ (by decide)]
          exact h33 c2 (by omega)
    · rw [if_neg (fun w => c (of_decide_eq_true w).1), if_neg c]
      have : i = τ 84 25 := by omega
      exact ⟨hz, hy, hj, fun c hc => h33 c (by omega)⟩
theorem fd2_ok (hR : RR σ τ) (z0 : Sg) (h0 : ∀ k, k ≠ 33 ∧ k ≠ 50 → z0 k = σ k) : ∀ (n : Nat) (i : Int) (z : Sg), 0 ≤ i → i ≤ τ 84 30 → τ 84 30 ≤ i + n → i + n ≤ 8 → (∀ k, k ≠ 22 → z k = z0 k) → (∀ r : Nat, i ≤ r → z 22 r = z0 22 r) → (∀ r : Nat, (r : Int) < i → z 22 r = mtV τ r) →
    (∀ k, k ≠ 22 → fG (fun i (a : Sg) => decide (i < i32 (a 18 4) ∧ i < 8)) fd2 n i z k = z0 k) ∧ (∀ r : Nat, (r : Int) < τ 84 30 → fG (fun i (a : Sg) => decide (i < i32 (a 18 4) ∧ i < 8)) fd2 n i z 22 r = mtV τ r) := by
  intro n
  induction n with
  | zero =>
    intro i z i0 i1 i2 i8 hz hr hm
    have : i = τ 84 30 := by omega
    exact ⟨hz, fun r hr2 => hm r (by omega)⟩
  | succ n ih =>
    intro i z i0 i1 i2 i8 hz hr hm
    obtain ⟨a1, a2, a3, a4, a5, a6, a7, a8, a9, a10⟩ := id hR
    have z18 : z 18 4 = τ 84 30 := by rw [hz 18 (by decide), h0 18 (by decide)]; exact a5.1
    rw [fG_s, z18, i32_n (τ 84 30) (by omega)]
    by_cases c : i < τ 84 30
    · rw [if_pos (decide_eq_true ⟨c, by omega⟩)]
      obtain ⟨q, rfl⟩ : ∃ q : Nat, i = q := ⟨i.toNat, by omega⟩
      have eqn : ((q : Int)).toNat = q := by omega
      obtain ⟨⟨s1, s2, s3⟩, ⟨t1, t2, t3, t4, t5⟩, -, s6⟩ := a9 q c
      have z54 : z 54 q = σ 54 q := by rw [hz 54 (by decide), h0 54 (by decide)]
      have z22 : z 22 q = σ 22 q := by rw [hr q (Int.le_refl _), h0 22 (by decide)]
      have emt : mtV τ (q : Int) = if τ 105 q = 3 then 0 else if τ 108 q = -1 then tgV τ (τ 109 q) else ishl 1 (τ 108 q) := rfl
      have hdw : ∀ t : Int, -1 ≤ t ∧ t < 16 → dwtC z t = tgV τ t := fun t ht => dwt_e (N := τ 84 15) a2.2.1 (by rw [hz 12 (by decide), h0 12 (by decide)]; exact a2.1) rfl (fun j hj => by
        obtain ⟨u1, u2⟩ := a7 j hj
        rw [hz 29 (by decide), h0 29 (by decide)]
        exact ⟨u1.2.2.2.1, u1.2.2.2.2.2.2, u1.2.2.2.2.2.1⟩) ht
      have st : (∀ k, k ≠ 22 → fd2 q z k = z k) ∧ (∀ r : Nat, r ≠ q → fd2 q z 22 r = z 22 r) ∧ fd2 q z 22 q = mtV τ q := by
        unfold fd2
        rw [eqn, z54]
        rcases s6 with ⟨c3, c22, c54⟩ | ⟨c3, c8, c22, c54⟩ | ⟨c3, c8, c54, c9⟩
        · rw [c54, em1, if_pos rfl]
          exact ⟨fun _ _ => rfl, fun _ _ => rfl, by rw [z22, emt, if_pos c3]; exact c22⟩
        · rw [c54, em1, if_pos rfl]
          exact ⟨fun _ _ => rfl, fun _ _ => rfl, by rw [z22, emt, if_neg c3, if_neg c8]; exact c22⟩
        · rw [c54, i32_n (τ 109 q) (by omega), if_neg (by omega), hdw _ t5]
          exact ⟨fun k hk => up_r _ _ _ hk, fun r hr2 => up_j _ _ hr2, by rw [up_s, emt, if_neg c3, if_pos c8]⟩
      obtain ⟨v1, v2, v3⟩ := st
      refine ih (q + 1) _ (by omega) (by omega) (by omega) (by omega) (fun k hk => (v1 k hk).trans (hz k hk)) (fun r hr2 => (v2 r (by omega)).trans (hr r (by omega))) (fun r hr2 => ?_)
      by_cases cq : r = q
      · rw [cq]; exact v3
      · rw [v2 r cq]; exact hm r (by omega)
    · rw [if_neg (fun w => c (of_decide_eq_true w).1)]
      have : i = τ 84 30 := by omega
      exact ⟨hz, fun r hr2 => hm r (by omega)⟩
/-- the program behind a compile without error -/
theorem mean_ok (hI : IV e K V N S τ) (hT : TC σ e K V N S) (hR : RR σ τ) : RP (fdM σ) (fW (τ 84 25) (szG K V) 8 0 τ) ∧ RI (fW (τ 84 25) (szG K V) 8 0 τ) ∧ RuG (fW (τ 84 25) (szG K V) 8 0 τ) ∧ RN (fdM σ) (fW (τ 84 25) (szG K V) 8 0 τ) ∧
    (∀ k, k ≠ 22 ∧ k ≠ 33 ∧ k ≠ 50 → fdM σ k = σ k) ∧ (∀ k, k ≠ 84 ∧ k ≠ 102 → fW (τ 84 25) (szG K V) 8 0 τ k = τ k) ∧ (∀ j, j ≠ 8 → fW (τ 84 25) (szG K V) 8 0 τ 84 j = τ 84 j) := by
  obtain ⟨a1, a2, a3, a4, a5, a6, a7, a8, a9, a10⟩ := id hR
  have hC := hI.2.1
  obtain ⟨q1, q2, q3, q4⟩ := fd1_ok hI hT hR 8 0 σ τ (Int.le_refl _) hC.2.2.2.1.1 (by have := hC.2.2.2.1; omega) (by omega) (fun _ _ => rfl) (fun _ _ => rfl) (fun _ _ => rfl) (fun c hc => by omega)
  unfold fdM
  generalize fG (fun i (a : Sg) => decide (i < i32 (a 9 16) ∧ i < 8)) fd1 8 0 σ = z0 at q1 q4 ⊢
  generalize fW (τ 84 25) (szG K V) 8 0 τ = y at q2 q3 q4 ⊢
  obtain ⟨r1, r2⟩ := fd2_ok hR z0 q1 8 0 z0 (Int.le_refl _) hC.2.2.2.2.1.1 (by have := hC.2.2.2.2.1; omega) (by omega) (fun _ _ => rfl) (fun _ _ => rfl) (fun r hr => by omega)
  generalize fG (fun i (a : Sg) => decide (i < i32 (a 18 4) ∧ i < 8)) fd2 8 0 z0 = x at r1 r2 ⊢
  have xk : ∀ k, k ≠ 22 ∧ k ≠ 33 ∧ k ≠ 50 → x k = σ k := fun k hk => by rw [r1 k hk.1]; exact q1 k hk.2
  have emt : ∀ r : Int, mtV y r = mtV τ r := fun r => by
    unfold mtV
    rw [q2 105 (by decide), q2 108 (by decide), q2 109 (by decide), tgV_cg (q3 15 (by decide)) (q2 97 (by decide))]
  refine ⟨⟨⟨?_, ?_, ?_, ?_, ?_, ?_⟩, fun j hj => ?_, fun j hj => ?_, fun j hj => ?_, fun c hc => ?_, fun r hr => ?_⟩, fun r hr => ?_, fun r hr => ?_, hR.rn.fr (fun k hk => xk k (by omega)) (fun k hk => q2 k (by omega)) (q3 15 (by decide)) (q3 36 (by decide)), xk, q2, q3⟩
  · rw [xk 10 (by decide), q3 10 (by decide)]; exact a1.1
  · rw [xk 12 (by decide), q3 15 (by decide)]; exact a2.1
  · rw [xk 14 (by decide), q3 23 (by decide)]; exact a3.1
  · rw [xk 16 (by decide), q3 36 (by decide)]; exact a4.1
  · rw [xk 18 (by decide), q3 30 (by decide)]; exact a5.1
  · rw [xk 9 (by decide), q3 25 (by decide)]; exact a5.2
  · rw [q3 10 (by decide)] at hj
    obtain ⟨f1, f2, f3, -⟩ := a6 j hj
    rw [xk 23 (by decide), xk 24 (by decide), xk 25 (by decide), q2 90 (by decide), q2 91 (by decide), q2 92 (by decide)]
    exact ⟨f1, f2, f3⟩
  · rw [q3 15 (by decide)] at hj
    obtain ⟨⟨d1, d2, d3, d4, d5, d6, d7⟩, d8⟩ := a7 j hj
    have hb := a2.2.1
    rw [xk 13 (by decide), xk 26 (by decide), xk 27 (by decide), xk 28 (by decide), xk 29 (by decide), xk 30 (by decide), xk (34 + j) (by omega), q2 93 (by decide), q2 94 (by decide), q2 97 (by decide), q2 98 (by decide), q2 99 (by decide), enR_at (congrFun (q2 95 (by decide)) j) (congrFun (q2 94 (by decide)) j), pcR_at (congrFun (q2 96 (by decide)) j) (congrFun (q2 94 (by decide)) j)]
    exact ⟨a2.2.2.2.2.1 j hj, d1, d2, d3, d4, d5, d8⟩
  · rw [q3 36 (by decide)] at hj
    rw [xk 17 (by decide), q2 110 (by decide)]
    exact a4.2.2.2.2.1 j hj
  · rw [q3 25 (by decide)] at hc
    rw [xk 32 (by decide), q2 101 (by decide), r1 33 (by decide)]
    exact ⟨(a8 c hc).1, q4 c hc⟩
  · rw [q3 30 (by decide)] at hr
    obtain ⟨⟨s1, s2, s3⟩, -⟩ := a9 r hr
    rw [xk 19 (by decide), xk 20 (by decide), xk 21 (by decide), q2 105 (by decide), q2 106 (by decide), q2 107 (by decide), emt]
    exact ⟨s1, s2, s3, r2 r hr⟩
  · rw [q3 30 (by decide)] at hr
    rw [q2 105 (by decide), q2 106 (by decide), q2 107 (by decide), q2 108 (by decide), q2 109 (by decide)]
    exact (a9 r hr).2.1
  · rw [q3 30 (by decide)] at hr
    rw [q2 105 (by decide), q2 106 (by decide), q2 107 (by decide)]
    exact (a9 r hr).2.2.1
end S69
