/-! the meaning, side by side: rules -/
section S68
variable {σ τ p Y : Sg} {e : Int} {K V N S : Int → Int}
/-- a rule under way: all but its own place -/
def RlB (σ z : Sg) (r : Nat) : Prop := (∀ k, k ≠ 51 ∧ ¬ (19 ≤ k ∧ k ≤ 22) ∧ k ≠ 54 → z k = σ k) ∧ (∀ k, (19 ≤ k ∧ k ≤ 22) ∨ k = 54 → ∀ j, j ≠ r → z k j = σ k j) ∧ z 51 7 = σ 51 7 ∧ z 51 8 = σ 51 8
theorem RlB.F {z : Sg} {r : Nat} (h : RlB σ z r) : FrM σ z := fun k hk => h.1 k (by omega)
theorem RlB.rf {r : Nat} : RlB σ σ r := ⟨fun _ _ => rfl, fun _ _ _ _ => rfl, rfl, rfl⟩
theorem RlB.nx {z : Sg} {r : Nat} (h : RlB σ z r) : RlB σ (nxM z) r := ⟨fun k hk => (nxM_r _ hk.1).trans (h.1 k hk), fun k hk j hj => (nxM_j _ (Or.inl (by omega))).trans (h.2.1 k hk j hj), (nxM_j _ (Or.inr (by decide))).trans h.2.2.1, (nxM_j _ (Or.inr (by decide))).trans h.2.2.2⟩
theorem RlB.u9 {z : Sg} {r : Nat} {v : Int} (h : RlB σ z r) : RlB σ (up z 51 9 v) r := ⟨fun k hk => (up_r _ _ _ hk.1).trans (h.1 k hk), fun k hk j hj => (up_k _ _ (by omega)).trans (h.2.1 k hk j hj), (up_j _ _ (by decide)).trans h.2.2.1, (up_j _ _ (by decide)).trans h.2.2.2⟩
theorem RlB.ur {z : Sg} {r k : Nat} {v : Int} (h : RlB σ z r) (hk : (19 ≤ k ∧ k ≤ 22) ∨ k = 54) : RlB σ (up z k r v) r := ⟨fun q hq => (up_r _ _ _ (by omega)).trans (h.1 q hq), fun q hq j hj => by
  by_cases c : q = k
  · subst c; exact (up_j _ _ hj).trans (h.2.1 q hq j hj)
  · exact (up_k _ _ c).trans (h.2.1 q hq j hj), (up_k _ _ (by omega)).trans h.2.2.1, (up_k _ _ (by omega)).trans h.2.2.2⟩
/-- the reference's side -/
def RlY (τ Y : Sg) (r : Nat) : Prop := (∀ k, 84 < k ∧ (k < 105 ∨ 109 < k) → Y k = τ k) ∧ (∀ k, 105 ≤ k ∧ k ≤ 109 → ∀ j, j ≠ r → Y k j = τ k j) ∧ (∀ j, j ≠ 8 ∧ j ≠ 30 → Y 84 j = τ 84 j)
/-- a rule that is right: both sides go on -/
theorem rl_end {z W : Sg} {r : Nat} {b : Int} (hR : RR σ τ) (hr : (r : Int) = τ 84 30) (h1 : RlB σ z r) (h2 : RlY τ W r) (hW : W 84 30 = (r : Int) + 1) (h6 : z 51 6 = b) (hru : RuR z W r) : OU e S b σ τ (true, nxM (up z 18 4 (z 18 4 + 1))) (0, W) := by
  obtain ⟨a1, a2, a3, a4, a5, a6, a7, a8, a9, a10⟩ := id hR
  have hz18 : z 18 4 = r := by rw [h1.1 18 (by decide), a5.1, hr]
  rw [hz18]
  generalize hX : nxM (up z 18 4 ((r : Int) + 1)) = X
  have Xk : ∀ k, k ≠ 18 ∧ k ≠ 51 → X k = z k := fun k hk => by rw [← hX, nxM_r _ hk.2, up_r _ _ _ hk.1]
  have Xs : ∀ k, k ≠ 18 ∧ k ≠ 51 ∧ ¬ (19 ≤ k ∧ k ≤ 22) ∧ k ≠ 54 → X k = σ k := fun k hk => by rw [Xk k ⟨hk.1, hk.2.1⟩]; exact h1.1 k ⟨hk.2.1, hk.2.2⟩
  have X51 : ∀ j, j ≠ 6 → X 51 j = z 51 j := fun j hj => by rw [← hX, nxM_j _ (Or.inr hj), up_k _ _ (by decide)]
  refine ⟨fun k hk => Xs k (by omega), Or.inl ⟨rfl, rfl, ?_, ?_, ?_, ?_, ?_⟩⟩
  · dsimp only; rw [← hX, nxM_6, up_k _ _ (by decide), h6]
  · dsimp only; rw [X51 7 (by decide)]; exact h1.2.2.1
  · dsimp only; rw [X51 8 (by decide)]; exact h1.2.2.2
  · exact h2.2.2 4 (by decide)
  · dsimp only
    unfold RR TgR
    rw [h2.2.2 10 (by decide), h2.2.2 15 (by decide), h2.2.2 23 (by decide), h2.2.2 36 (by decide), h2.2.2 25 (by decide), hW]
    have nf : ∀ {k ka : Nat} {n m2 : Int}, (9 ≤ k ∧ k < 17) → (84 < ka ∧ (ka < 105 ∨ 109 < ka)) → NmR σ τ k ka n m2 → NmR X W k ka n m2 := fun {k ka n m2} hk hka g => g.fr (by rw [Xs k (by omega)]) (by rw [Xs k (by omega)]) (fun j _ => by rw [Xs (k + 1) (by omega)]) (fun j _ => by rw [h2.1 ka hka])
    refine ⟨nf (by decide) (by decide) a1, nf (by decide) (by decide) a2, nf (by decide) (by decide) a3, nf (by decide) (by decide) a4, ⟨by rw [← hX, nxM_j _ (Or.inl (by decide)), up_s], by rw [Xs 9 (by decide)]; exact a5.2⟩, fun j hj => ?_, fun j hj => ?_, fun j hj => ?_, fun j hj => ?_, fun j f hj hf hg => ?_⟩
    · exact (a6 j hj).fr (fun k hk => by rw [Xs k (by omega)]) (fun k hk => by rw [h2.1 k (by omega)])
    · have hb := a2.2.1
      exact (a7 j hj).fr (fun k hk => by rw [Xs k (by omega)]) (Xs _ (by omega)) (fun k hk => by rw [h2.1 k (by omega)]) (fun f _ => by rw [h2.1 99 (by decide)])
    · exact (a8 j hj).fr (fun k hk => by rw [Xs k (by omega)]) (fun k hk => by rw [h2.1 k (by omega)]) (by rw [h2.2.2 15 (by decide)]; exact Int.le_refl _)
    · by_cases c : j = r
      · rw [c]
        exact hru.fr (fun k hk => by rw [Xk k (by omega)]) (fun _ _ => rfl)
      · exact (a9 j (by omega)).fr (fun k hk => by rw [Xk k (by omega)]; exact h1.2.1 k hk j c) (fun k hk => h2.2.1 k hk j c)
    · rw [h2.1 99 (by decide)]; exact a10 j f hj hf hg
/-- the name of a rule -/
theorem tm_e {z : Sg} {r : Nat} {a : Int} (hT : TC z e K V N S) (n12 : NmR z τ 12 93 (τ 84 15) 16) (n16 : TgR z τ) (h6 : z 51 6 = a) (ha : 0 ≤ a ∧ a ≤ e) (hK : K a = 22) :
    tmM z r = if knR τ (V a) = true then (true, nxM (if fnC τ 93 (τ 84 15) (V a) = -1 then up z 54 r (fnC τ 110 (τ 84 36) (V a)) else up z 22 r (ishl 1 (fnC τ 93 (τ 84 15) (V a))))) else (false, flM z 2 a) := by
  have hv : VC z a = V a := (hT.2 a ha.1 ha.2).2.1 hK
  unfold tmM knR
  rw [h6, hv, n12.idx, NmR.idx n16, show ((r : Int)).toNat = r from by omega]
  by_cases c1 : fnC τ 93 (τ 84 15) (V a) = -1
  · by_cases c2 : fnC τ 110 (τ 84 36) (V a) = -1
    · rw [if_neg (fun w => w c1), if_neg (fun w => w c2), if_neg (fun w => (of_decide_eq_true w).elim (fun q => q c1) (fun q => q c2))]
    · rw [if_neg (fun w => w c1), if_pos c2, if_pos (decide_eq_true (Or.inr c2)), if_pos c1]
  · rw [if_pos c1, if_pos (decide_eq_true (Or.inl c1)), if_neg c1]
theorem RlY.u {r k : Nat} {v : Int} (h : RlY τ Y r) (hk : 105 ≤ k ∧ k ≤ 109) : RlY τ (up Y k r v) r := ⟨fun q hq => (up_r _ _ _ (by omega)).trans (h.1 q hq), fun q hq j hj => by
  by_cases c : q = k
  · subst c; exact (up_j _ _ hj).trans (h.2.1 q hq j hj)
  · exact (up_k _ _ c).trans (h.2.1 q hq j hj), fun j hj => (up_k _ _ (by omega)).trans (h.2.2 j hj)⟩
theorem RlY.i {r k : Nat} (h : RlY τ Y r) (hk : k = 8 ∨ k = 30) : RlY τ (incS k Y) r := ⟨fun q hq => (incS_r _ (by omega)).trans (h.1 q hq), fun q hq j hj => (incS_k _ (by omega) _).trans (h.2.1 q hq j hj), fun j hj => (incS_j _ (by omega)).trans (h.2.2 j hj)⟩
theorem RlY.rf {r : Nat} : RlY τ τ r := ⟨fun _ _ => rfl, fun _ _ _ _ => rfl, fun _ _ => rfl⟩
theorem ru_fin {z W : Sg} {r : Nat} {so n s2 f g : Int} (h1 : z 19 r = so ∧ z 20 r = n ∧ z 21 r = s2) (h2 : W 105 r = so ∧ W 106 r = n ∧ W 107 r = s2 ∧ W 108 r = f ∧ W 109 r = g) (hso : 0 ≤ so ∧ so < 3) (hn : 0 ≤ n ∧ n ≤ 9) (hs2 : 0 ≤ s2 ∧ s2 ≤ 14) (hf : -1 ≤ f ∧ f < 16) (hg : -1 ≤ g ∧ g < 16) (k0 : so = 0 → 1 ≤ n) (k1 : so = 1 ∨ so = 2 → 1 ≤ s2) (hk : ¬ (f = -1 ∧ g = -1)) (hx : if f = -1 then z 22 r = 0 ∧ z 54 r = g else z 22 r = ishl 1 f ∧ z 54 r = -1) : RuR z W r := by
  obtain ⟨x1, x2, x3⟩ := h1
  obtain ⟨w1, w2, w3, w4, w5⟩ := h2
  unfold RuR
  rw [x1, x2, x3, w1, w2, w3, w4, w5]
  refine ⟨⟨rfl, rfl, rfl⟩, ⟨by omega, by omega, by omega, hf, hg⟩, ⟨k0, k1⟩, ?_⟩
  by_cases c : f = -1
  · rw [if_pos c] at hx
    exact Or.inr (Or.inr ⟨by omega, c, hx.2, by omega⟩)
  · rw [if_neg c] at hx
    exact Or.inr (Or.inl ⟨by omega, c, hx.1, hx.2⟩)
theorem ru_ok {a b : Int} (hI : IV e K V N S τ) (hT : TC σ e K V N S) (hR : RR σ τ) (h0 : 0 ≤ a) (hg : RlO K (a + 1) b) (h6 : σ 51 6 = a) (h8 : τ 84 8 = a + 1) : OU e S b σ τ (rlM σ) (ruM K V N S a τ) := by
  obtain ⟨g1, gb⟩ := hg
  obtain ⟨hTk, hC, hD, hCI⟩ := id hI
  obtain ⟨hC1, hC2, hC3, hC4, hC5, hC6⟩ := id hC
  have hbi := hTk.in gb (by decide)
  obtain ⟨a1, a2, a3, a4, a5, a6, a7, a8, a9, a10⟩ := id hR
  have e18 : i32 (σ 18 4) = τ 84 30 := by rw [a5.1]; exact i32_n _ (by omega)
  unfold rlM ruM
  rw [e18, h6, h8]
  by_cases c1 : τ 84 30 = 8
  · rw [if_pos (Or.inr (by omega)), if_pos c1]
    exact OU.no FrM.rf rfl (by decide) ⟨h0, by omega⟩ rfl (by dsimp only; rw [up_s])
  · rw [if_neg (by omega), if_neg c1]
    obtain ⟨r, hr⟩ : ∃ r : Nat, (r : Int) = τ 84 30 := ⟨(τ 84 30).toNat, by omega⟩
    have hrn : (τ 84 30).toNat = r := by omega
    have ern : ((r : Int)).toNat = r := by omega
    have hr8 : r < 8 := by omega
    have i1 : a + 1 ≤ e := by omega
    have i2 : K (a + 1 + 1) = 23 := by rcases g1 with z | z | z <;> exact z.2.1
    have hN2 := hTk.2.2.2.1 _ i2
    have e0 : rl0M σ = up (up (up σ 21 r 0) 22 r 0) 54 r (-1) := by unfold rl0M; rw [e18, hrn]
    generalize hz : rl1M σ = z
    have ez : z = nxM (nxM (up (up (up σ 21 r 0) 22 r 0) 54 r (-1))) := by rw [← hz]; unfold rl1M; rw [e0]
    have zB : RlB σ z r := by rw [ez]; exact (((RlB.rf.ur (by decide)).ur (by decide)).ur (by decide)).nx.nx
    have z6 : z 51 6 = a + 2 := by rw [ez, nxM_6, nxM_6, up_k _ _ (by decide), up_k _ _ (by decide), up_k _ _ (by decide), h6]; omega
    have z21 : z 21 r = 0 ∧ z 22 r = 0 ∧ z 54 r = -1 := by
      rw [ez]
      refine ⟨?_, ?_, ?_⟩
      · rw [nxM_j _ (Or.inl (by decide)), nxM_j _ (Or.inl (by decide)), up_k _ _ (by decide), up_k _ _ (by decide), up_s]
      · rw [nxM_j _ (Or.inl (by decide)), nxM_j _ (Or.inl (by decide)), up_k _ _ (by decide), up_s]
      · rw [nxM_j _ (Or.inl (by decide)), nxM_j _ (Or.inl (by decide)), up_s]
    have hk1 : KC σ (a + 1) = K (a + 1) := (hT.2 (a + 1) (by omega) i1).1
    have a22 : a + 1 + 1 = a + 2 := by omega
    have a23 : a + 1 + 2 = a + 3 := by omega
    have a24 : a + 1 + 3 = a + 4 := by omega
    have a25 : a + 1 + 4 = a + 5 := by omega
    rw [a22] at i2 hN2
    -- a number on the class's side
    have tn : ∀ (w : Sg) (t lo hi : Int), RlB σ w r → w 51 6 = t → 0 ≤ t ∧ t ≤ e → K t = 23 → (-1000000 ≤ lo ∧ lo ≤ 1000000) → (-1000000 ≤ hi ∧ hi ≤ 1000000) → tnM w lo hi = if lo ≤ N t ∧ N t ≤ hi then (true, nxM (up w 51 9 (N t))) else (false, flM w 5 t) := fun w t lo hi hw w6 ht kt h1 h2 => tn_e (hw.F.tc hT) ht kt w6 h1 h2
    have fr12 : ∀ w : Sg, RlB σ w r → NmR w τ 12 93 (τ 84 15) 16 ∧ TgR w τ := fun w hw => ⟨a2.fr (by rw [hw.1 12 (by decide)]) (by rw [hw.1 12 (by decide)]) (fun j _ => by rw [hw.1 13 (by decide)]) (fun _ _ => rfl), a4.fr (by rw [hw.1 16 (by decide)]) (by rw [hw.1 16 (by decide)]) (fun j _ => by rw [hw.1 17 (by decide)]) (fun _ _ => rfl)⟩
    -- the reference's states
    have y1Y : ∀ so, RlY τ (ru1 τ so) r := fun so => by unfold ru1; rw [hrn]; exact (RlY.rf.u (by decide)).i (by decide)
    have y2Y : ∀ so, RlY τ (ru2 N τ so) r := fun so => by unfold ru2; rw [hrn]; exact (((((y1Y so).u (by decide)).u (by decide)).u (by decide)).u (by decide)).i (by decide)
    have y3Y : ∀ so, RlY τ (ru3 V N τ so) r := fun so => by unfold ru3; rw [hrn]; exact (((y2Y so).u (by decide)).u (by decide)).i (by decide)
    have y2v : ∀ so, ru2 N τ so 105 r = so ∧ ru2 N τ so 106 r = N (a + 2) ∧ ru2 N τ so 107 r = 0 ∧ ru2 N τ so 108 r = -1 ∧ ru2 N τ so 109 r = -1 := fun so => by
      unfold ru2 ru1
      rw [hrn, h8, a22]
      simp (disch := omega) only [incS_k, up_k, up_s]
      exact ⟨trivial, trivial, trivial, trivial, trivial⟩
    have y3v : ∀ so, ru3 V N τ so 105 r = so ∧ ru3 V N τ so 106 r = N (a + 2) ∧ ru3 V N τ so 107 r = 0 ∧ ru3 V N τ so 108 r = fnC τ 93 (τ 84 15) (V (a + 3)) ∧ ru3 V N τ so 109 r = fnC τ 110 (τ 84 36) (V (a + 3)) := fun so => by
      obtain ⟨q1, q2, q3, q4, q5⟩ := y2v so
      unfold ru3
      rw [hrn, h8, a23]
      simp (disch := omega) only [incS_k, up_k, up_s]
      exact ⟨q1, q2, q3, trivial, trivial⟩
    have hf93 := fnC_in (σ := τ) (ka := 93) (many := τ 84 15) (v := V (a + 3)) hC2
    have hf110 := fnC_in (σ := τ) (ka := 110) (many := τ 84 36) (v := V (a + 3)) hC6
    -- a name on the class's side, behind the rule's first number
    have named : ∀ (so lo : Int) (w : Sg), (0 ≤ so ∧ so < 3) → RlB σ w r → w 51 6 = a + 3 → K (a + 3) = 22 → w 19 r = so → w 20 r = N (a + 2) → w 21 r = 0 → w 22 r = 0 → w 54 r = -1 → (0 ≤ N (a + 2) ∧ N (a + 2) ≤ 9) →
        (knR τ (V (a + 3)) = false ∧ tmM w r = (false, flM w 2 (a + 3))) ∨ (knR τ (V (a + 3)) = true ∧ ∃ u, tmM w r = (true, u) ∧ RlB σ u r ∧ u 51 6 = a + 4 ∧ u 19 r = so ∧ u 20 r = N (a + 2) ∧ u 21 r = 0 ∧ (if fnC τ 93 (τ 84 15) (V (a + 3)) = -1 then u 22 r = 0 ∧ u 54 r = fnC τ 110 (τ 84 36) (V (a + 3)) else u 22 r = ishl 1 (fnC τ 93 (τ 84 15) (V (a + 3))) ∧ u 54 r = -1)) := by
      intro so lo w hso hw w6 k22 w19 w20 w21 w22 w54 hn
      have i3 := hTk.in k22 (by decide)
      have et := tm_e (z := w) (r := r) (hw.F.tc hT) (fr12 w hw).1 (fr12 w hw).2 w6 ⟨i3.1, by omega⟩ k22
      cases hk : knR τ (V (a + 3)) with
      | false =>
        left
        rw [et, hk, if_neg (by first | exact fun z => ff z | decide)]
        exact ⟨rfl, rfl⟩
      | true =>
        right
        rw [et, hk, if_pos rfl]
        refine ⟨rfl, _, rfl, ?_, ?_, ?_, ?_, ?_, ?_⟩
        · split
          · exact (hw.ur (by decide)).nx
          · exact (hw.ur (by decide)).nx
        · rw [nxM_6]
          split
          · rw [up_k _ _ (by decide), w6]; omega
          · rw [up_k _ _ (by decide), w6]; omega
        · rw [nxM_j _ (Or.inl (by decide))]
          split
          · rw [up_k _ _ (by decide), w19]
          · rw [up_k _ _ (by decide), w19]
        · rw [nxM_j _ (Or.inl (by decide))]
          split
          · rw [up_k _ _ (by decide), w20]
          · rw [up_k _ _ (by decide), w20]
        · rw [nxM_j _ (Or.inl (by decide))]
          split
          · rw [up_k _ _ (by decide), w21]
          · rw [up_k _ _ (by decide), w21]
        · by_cases cf : fnC τ 93 (τ 84 15) (V (a + 3)) = -1
          · rw [if_pos cf, if_pos cf]
            exact ⟨by rw [nxM_j _ (Or.inl (by decide)), up_k _ _ (by decide), w22], by rw [nxM_j _ (Or.inl (by decide)), up_s]⟩
          · rw [if_neg cf, if_neg cf]
            exact ⟨by rw [nxM_j _ (Or.inl (by decide)), up_s], by rw [nxM_j _ (Or.inl (by decide)), up_k _ _ (by decide), w54]⟩
    have hkn : knR τ (V (a + 3)) = true → ¬ (fnC τ 93 (τ 84 15) (V (a + 3)) = -1 ∧ fnC τ 110 (τ 84 36) (V (a + 3)) = -1) := fun h w => by
      unfold knR at h
      exact (of_decide_eq_true h).elim (fun q => q w.1) (fun q => q w.2)
    -- the rule's first number
    have first : ∀ lo hi : Int, (-1000000 ≤ lo ∧ lo ≤ 1000000) → (-1000000 ≤ hi ∧ hi ≤ 1000000) → tnM z lo hi = if lo ≤ N (a + 2) ∧ N (a + 2) ≤ hi then (true, nxM (up z 51 9 (N (a + 2)))) else (false, flM z 5 (a + 2)) := fun lo hi h1 h2 => by
      have i2' := hTk.in i2 (by decide)
      exact tn z (a + 2) lo hi zB z6 ⟨i2'.1, by omega⟩ i2 h1 h2
    have i2' := hTk.in i2 (by decide)
    generalize hw0 : nxM (up z 51 9 (N (a + 2))) = w0 at first
    have w0B : RlB σ w0 r := by rw [← hw0]; exact zB.u9.nx
    have w06 : w0 51 6 = a + 3 := by rw [← hw0, nxM_6, up_j _ _ (by decide), z6]; omega
    have w09 : w0 51 9 = N (a + 2) := by rw [← hw0, nxM_j _ (Or.inr (by decide)), up_s]
    have w0v : w0 21 r = 0 ∧ w0 22 r = 0 ∧ w0 54 r = -1 := by
      rw [← hw0, nxM_j _ (Or.inl (by decide)), nxM_j _ (Or.inl (by decide)), nxM_j _ (Or.inl (by decide)), up_k _ _ (by decide), up_k _ _ (by decide), up_k _ _ (by decide)]
      exact z21
    have bad1 : ∀ (so lo hi : Int), ¬ (lo ≤ N (a + 2) ∧ N (a + 2) ≤ hi) → ruB V N S τ so lo hi = (5, up (ru1 τ so) 84 4 (S (a + 2))) := fun so lo hi h => by
      unfold ruB
      rw [h8, a22, if_neg h]
    -- span rules
    have span : ∀ so lo : Int, (so = 1 ∧ lo = 0) ∨ (so = 2 ∧ lo = 1) → K (a + 3) = 22 → K (a + 5) = 23 → b = a + 6 → OU e S b σ τ (if (spM z r so lo).1 = true then (true, nxM (up (spM z r so lo).2 18 4 ((spM z r so lo).2 18 4 + 1))) else (false, (spM z r so lo).2)) (ruB V N S τ so lo 9) := by
      intro so lo hso k3 k5 hb
      have i5 := hTk.in k5 (by decide)
      have e1 := first lo 9 (by omega) (by decide)
      by_cases cn : lo ≤ N (a + 2) ∧ N (a + 2) ≤ 9
      · rw [if_pos cn] at e1
        have ew : sp1M z r so lo = up (up w0 19 r so) 20 r (N (a + 2)) := by
          unfold sp1M; rw [e1]; dsimp only; rw [w09, ern]
        generalize hw1 : sp1M z r so lo = w1 at ew
        have w1B : RlB σ w1 r := by rw [ew]; exact (w0B.ur (by decide)).ur (by decide)
        have nm := named so lo w1 (by omega) w1B (by rw [ew, up_k _ _ (by decide), up_k _ _ (by decide), w06]) k3 (by rw [ew, up_k _ _ (by decide), up_s]) (by rw [ew, up_s]) (by rw [ew, up_k _ _ (by decide), up_k _ _ (by decide)]; exact w0v.1) (by rw [ew, up_k _ _ (by decide), up_k _ _ (by decide)]; exact w0v.2.1) (by rw [ew, up_k _ _ (by decide), up_k _ _ (by decide)]; exact w0v.2.2) ⟨hN2.1, cn.2⟩
        rcases nm with ⟨kf, nm⟩ | ⟨kt, u, nm, uB, u6, u19, u20, u21, ux⟩
        · have e2 : sp2M z r so lo = (false, flM w1 2 (a + 3)) := by unfold sp2M; rw [hw1]; exact nm
          have es : spM z r so lo = (false, flM w1 2 (a + 3)) := by
            unfold spM; rw [e1, if_pos rfl, e2, if_neg (by first | exact fun z => ff z | decide)]
          have er : ruB V N S τ so lo 9 = (2, up (ru2 N τ so) 84 4 (S (a + 3))) := by
            unfold ruB
            rw [h8, a22, if_pos cn, if_neg (show ¬ so = 3 by omega), a23, kf, if_neg (by first | exact fun z => ff z | decide)]
          rw [es, er, if_neg (by first | exact fun z => ff z | decide)]
          exact OU.no w1B.F rfl (by decide) ⟨by omega, by omega⟩ rfl (by dsimp only; rw [up_s])
        · have e2 : sp2M z r so lo = (true, u) := by unfold sp2M; rw [hw1]; exact nm
          have e3 : sp3M z r so lo = if 1 ≤ N (a + 5) ∧ N (a + 5) ≤ 14 then (true, nxM (up (nxM u) 51 9 (N (a + 5)))) else (false, flM (nxM u) 5 (a + 5)) := by
            unfold sp3M; rw [e2]
            exact tn (nxM u) (a + 5) 1 14 uB.nx (by rw [nxM_6, u6]; omega) ⟨i5.1, by omega⟩ k5 (by decide) (by decide)
          have er : ruB V N S τ so lo 9 = ruE N S r (ru3 V N τ so) (a + 5) 1 14 := by
            unfold ruB
            rw [h8, a22, if_pos cn, if_neg (show ¬ so = 3 by omega), a23, kt, if_pos rfl, if_neg (show ¬ so = 0 by omega), hrn, a25]
          rw [er]
          unfold ruE
          by_cases c5 : 1 ≤ N (a + 5) ∧ N (a + 5) ≤ 14
          · rw [if_pos c5] at e3 ⊢
            have es : spM z r so lo = (true, up (nxM (up (nxM u) 51 9 (N (a + 5)))) 21 r (N (a + 5))) := by
              unfold spM; rw [e1, if_pos rfl, e2, if_pos rfl, e3, if_pos rfl]
              dsimp only
              rw [ern, nxM_j _ (Or.inr (by decide)), up_s]
            rw [es, if_pos rfl]
            dsimp only
            refine rl_end hR hr ((uB.nx.u9.nx).ur (by decide)) ((((y3Y so).i (by decide)).u (by decide)).i (by decide) |>.i (by decide)) ?_ ?_ ?_
            · rw [incS_s, incS_j _ (by decide), up_k _ _ (by decide), incS_j _ (by decide), ru3_j (by decide), hr]
            · rw [up_k _ _ (by decide), nxM_6, up_j _ _ (by decide), nxM_6, u6, hb]; omega
            · obtain ⟨q1, q2, q3, q4, q5⟩ := y3v so
              have U : ∀ k, k ≠ 51 → k ≠ 21 → up (nxM (up (nxM u) 51 9 (N (a + 5)))) 21 r (N (a + 5)) k r = u k r := fun k k1 k2 => by rw [up_k _ _ k2, nxM_j _ (Or.inl k1), up_k _ _ k1, nxM_j _ (Or.inl k1)]
              refine ru_fin (so := so) (n := N (a + 2)) (s2 := N (a + 5)) (f := fnC τ 93 (τ 84 15) (V (a + 3))) (g := fnC τ 110 (τ 84 36) (V (a + 3))) ⟨by rw [U 19 (by decide) (by decide)]; exact u19, by rw [U 20 (by decide) (by decide)]; exact u20, up_s _ _ _ _⟩ ⟨?_, ?_, ?_, ?_, ?_⟩ (by omega) ⟨hN2.1, cn.2⟩ ⟨by omega, c5.2⟩ (by omega) (by omega) (by omega) (by omega) (hkn kt) (by rw [U 22 (by decide) (by decide), U 54 (by decide) (by decide)]; exact ux)
              · simp (disch := omega) only [incS_k, up_k]; exact q1
              · simp (disch := omega) only [incS_k, up_k]; exact q2
              · simp (disch := omega) only [incS_k, up_s]
              · simp (disch := omega) only [incS_k, up_k]; exact q4
              · simp (disch := omega) only [incS_k, up_k]; exact q5
          · rw [if_neg c5] at e3 ⊢
            have es : spM z r so lo = (false, flM (nxM u) 5 (a + 5)) := by
              unfold spM; rw [e1, if_pos rfl, e2, if_pos rfl, e3, if_neg (by first | exact fun z => ff z | decide)]
            rw [es, if_neg (by first | exact fun z => ff z | decide)]
            exact OU.no uB.nx.F rfl (by decide) ⟨by omega, by omega⟩ rfl (by dsimp only; rw [up_s])
      · rw [if_neg cn] at e1
        have es : spM z r so lo = (false, flM z 5 (a + 2)) := by
          unfold spM; rw [e1, if_neg (by first | exact fun z => ff z | decide)]
        rw [es, bad1 so lo 9 cn, if_neg (by first | exact fun z => ff z | decide)]
        exact OU.no zB.F rfl (by decide) ⟨by omega, by omega⟩ rfl (by dsimp only; rw [up_s])
    unfold rl2M
    rw [h6, hk1, e18, hz, ← hr]
    rw [a22] at g1
    rw [a23, a24, a25] at g1
    by_cases c7 : K (a + 1) = 7
    · rw [if_pos c7, if_pos c7]
      obtain ⟨k3, hb⟩ : K (a + 3) = 22 ∧ b = a + 4 := by
        rcases g1 with w | w | w
        · exact ⟨w.2.2.1, by omega⟩
        · omega
        · omega
      have i3 := hTk.in k3 (by decide)
      have e1 := first 1 9 (by decide) (by decide)
      by_cases cn : 1 ≤ N (a + 2) ∧ N (a + 2) ≤ 9
      · rw [if_pos cn] at e1
        have ea : apM z r = tmM (up (up w0 19 r 0) 20 r (N (a + 2))) r := by
          unfold apM; rw [e1, if_pos rfl]; dsimp only; rw [w09, ern]
        generalize hw1 : up (up w0 19 r 0) 20 r (N (a + 2)) = w1 at ea
        have w1B : RlB σ w1 r := by rw [← hw1]; exact (w0B.ur (by decide)).ur (by decide)
        have nm := named 0 1 w1 (by decide) w1B (by rw [← hw1, up_k _ _ (by decide), up_k _ _ (by decide), w06]) k3 (by rw [← hw1, up_k _ _ (by decide), up_s]) (by rw [← hw1, up_s]) (by rw [← hw1, up_k _ _ (by decide), up_k _ _ (by decide)]; exact w0v.1) (by rw [← hw1, up_k _ _ (by decide), up_k _ _ (by decide)]; exact w0v.2.1) (by rw [← hw1, up_k _ _ (by decide), up_k _ _ (by decide)]; exact w0v.2.2) ⟨hN2.1, cn.2⟩
        rcases nm with ⟨kf, nm⟩ | ⟨kt, u, nm, uB, u6, u19, u20, u21, ux⟩
        · have er : ruB V N S τ 0 1 9 = (2, up (ru2 N τ 0) 84 4 (S (a + 3))) := by
            unfold ruB
            rw [h8, a22, if_pos cn, if_neg (by first | exact fun z => ff z | decide), a23, kf, if_neg (by first | exact fun z => ff z | decide)]
          rw [ea, nm, er, if_neg (by first | exact fun z => ff z | decide)]
          exact OU.no w1B.F rfl (by decide) ⟨by omega, by omega⟩ rfl (by dsimp only; rw [up_s])
        · have er : ruB V N S τ 0 1 9 = (0, incS 30 (ru3 V N τ 0)) := by
            unfold ruB
            rw [h8, a22, if_pos cn, if_neg (by first | exact fun z => ff z | decide), a23, kt, if_pos rfl, if_pos rfl]
          rw [ea, nm, er, if_pos rfl]
          dsimp only
          refine rl_end hR hr uB ((y3Y 0).i (by decide)) ?_ (by rw [u6, hb]) ?_
          · rw [incS_s, ru3_j (by decide), hr]
          · obtain ⟨q1, q2, q3, q4, q5⟩ := y3v 0
            refine ru_fin (so := 0) (n := N (a + 2)) (s2 := 0) (f := fnC τ 93 (τ 84 15) (V (a + 3))) (g := fnC τ 110 (τ 84 36) (V (a + 3))) ⟨u19, u20, u21⟩ ⟨?_, ?_, ?_, ?_, ?_⟩ (by decide) ⟨hN2.1, cn.2⟩ (by decide) (by omega) (by omega) (by omega) (by omega) (hkn kt) ux
            · rw [incS_k _ (by decide)]; exact q1
            · rw [incS_k _ (by decide)]; exact q2
            · rw [incS_k _ (by decide)]; exact q3
            · rw [incS_k _ (by decide)]; exact q4
            · rw [incS_k _ (by decide)]; exact q5
      · rw [if_neg cn] at e1
        have ea : apM z r = (false, flM z 5 (a + 2)) := by
          unfold apM; rw [e1, if_neg (by first | exact fun z => ff z | decide)]
        rw [ea, bad1 0 1 9 cn, if_neg (by first | exact fun z => ff z | decide)]
        exact OU.no zB.F rfl (by decide) ⟨by omega, by omega⟩ rfl (by dsimp only; rw [up_s])
    · rw [if_neg c7, if_neg c7]
      by_cases c8 : K (a + 1) = 8
      · rw [if_pos c8, if_pos c8]
        obtain ⟨k3, k5, hb⟩ : K (a + 3) = 22 ∧ K (a + 5) = 23 ∧ b = a + 6 := by
          rcases g1 with w | w | w
          · omega
          · omega
          · exact ⟨w.2.2.1, w.2.2.2.2.1, by omega⟩
        exact span 1 0 (Or.inl ⟨rfl, rfl⟩) k3 k5 hb
      · rw [if_neg c8, if_neg c8]
        by_cases c9 : K (a + 1) = 9
        · rw [if_pos c9, if_pos c9]
          obtain ⟨k3, k5, hb⟩ : K (a + 3) = 22 ∧ K (a + 5) = 23 ∧ b = a + 6 := by
            rcases g1 with w | w | w
            · omega
            · omega
            · exact ⟨w.2.2.1, w.2.2.2.2.1, by omega⟩
          exact span 2 1 (Or.inr ⟨rfl, rfl⟩) k3 k5 hb
        · rw [if_neg c9, if_neg c9]
          obtain ⟨k4, hb⟩ : K (a + 4) = 23 ∧ b = a + 5 := by
            rcases g1 with w | w | w
            · omega
            · exact ⟨w.2.2.2.1, by omega⟩
            · omega
          have i4 := hTk.in k4 (by decide)
          have hN4 := hTk.2.2.2.1 _ k4
          have e1 := first 0 9999 (by decide) (by decide)
          rw [if_pos ⟨hN2.1, hN2.2⟩] at e1
          have e2 : en2M z = if N (a + 2) ≤ N (a + 4) ∧ N (a + 4) ≤ 9999 then (true, nxM (up (nxM w0) 51 9 (N (a + 4)))) else (false, flM (nxM w0) 5 (a + 4)) := by
            unfold en2M; rw [e1]
            dsimp only
            rw [w09]
            exact tn (nxM w0) (a + 4) (N (a + 2)) 9999 w0B.nx (by rw [nxM_6, w06]; omega) ⟨i4.1, by omega⟩ k4 (by omega) (by decide)
          have er : ruB V N S τ 3 0 9999 = ruE N S r (ru2 N τ 3) (a + 4) (N (a + 2)) 9999 := by
            unfold ruB
            rw [h8, a22, if_pos ⟨hN2.1, hN2.2⟩, if_pos rfl, hrn, a24]
          rw [er]
          unfold ruE
          by_cases c5 : N (a + 2) ≤ N (a + 4) ∧ N (a + 4) ≤ 9999
          · rw [if_pos c5] at e2 ⊢
            have es : enM z r = (true, up (up (up (nxM (up (nxM w0) 51 9 (N (a + 4)))) 19 r 3) 20 r (N (a + 2))) 21 r (N (a + 4))) := by
              unfold enM; rw [e1, if_pos rfl, e2, if_pos rfl]
              dsimp only
              rw [ern, w09, nxM_j _ (Or.inr (by decide)), up_s]
            rw [es, if_pos rfl]
            dsimp only
            refine rl_end hR hr (((w0B.nx.u9.nx.ur (by decide)).ur (by decide)).ur (by decide)) ((((y2Y 3).i (by decide)).u (by decide)).i (by decide) |>.i (by decide)) ?_ ?_ ?_
            · rw [incS_s, incS_j _ (by decide), up_k _ _ (by decide), incS_j _ (by decide), ru2_j (by decide), hr]
            · rw [up_k _ _ (by decide), up_k _ _ (by decide), up_k _ _ (by decide), nxM_6, up_j _ _ (by decide), nxM_6, w06, hb]; omega
            · obtain ⟨q1, q2, q3, q4, q5⟩ := y2v 3
              have U : ∀ k, k ≠ 51 → k ≠ 19 → k ≠ 20 → k ≠ 21 → up (up (up (nxM (up (nxM w0) 51 9 (N (a + 4)))) 19 r 3) 20 r (N (a + 2))) 21 r (N (a + 4)) k r = w0 k r := fun k k1 k2 k3 k4 => by rw [up_k _ _ k4, up_k _ _ k3, up_k _ _ k2, nxM_j _ (Or.inl k1), up_k _ _ k1, nxM_j _ (Or.inl k1)]
              have W1 : ∀ k, k ≠ 84 → k ≠ 107 → incS 30 (incS 8 (up (incS 8 (ru2 N τ 3)) 107 r (N (a + 4)))) k r = ru2 N τ 3 k r := fun k k1 k2 => by rw [incS_k _ k1, incS_k _ k1, up_k _ _ k2, incS_k _ k1]
              unfold RuR
              rw [W1 105 (by decide) (by decide), W1 106 (by decide) (by decide), W1 108 (by decide) (by decide), W1 109 (by decide) (by decide), q1, q2, q4, q5, incS_k _ (by decide), incS_k _ (by decide), up_s, up_s, U 22 (by decide) (by decide) (by decide) (by decide), U 54 (by decide) (by decide) (by decide) (by decide), w0v.2.1, w0v.2.2]
              refine ⟨⟨by rw [up_k _ _ (by decide), up_k _ _ (by decide), up_s], by rw [up_k _ _ (by decide), up_s], rfl⟩, ⟨by decide, hN2, hN4, by decide, by decide⟩, ⟨by omega, by omega⟩, Or.inl ⟨rfl, rfl, rfl⟩⟩
          · rw [if_neg c5] at e2 ⊢
            have es : enM z r = (false, flM (nxM w0) 5 (a + 4)) := by
              unfold enM; rw [e1, if_pos rfl, e2, if_neg (by first | exact fun z => ff z | decide)]
            rw [es, if_neg (by first | exact fun z => ff z | decide)]
            exact OU.no w0B.nx.F rfl (by decide) ⟨by omega, by omega⟩ rfl (by dsimp only; rw [up_s])
end S68
