/-! the law's meal and its rules -/
section S96b
variable {σ : Sg}
theorem insC_fr {z : Sg} (h3 : z 3 = σ 3) (h5 : z 5 = σ 5) (h7 : z 7 = σ 7) (h12 : z 12 = σ 12) (h13 : z 13 = σ 13) (h16 : z 16 = σ 16) (h17 : z 17 = σ 17) (t : Int) : insC z t = insC σ t := by
  unfold insC
  rw [KC_fr h3 h5, VC_fr h3 h7, idxC_fr h12 h13, idxC_fr h16 h17]
theorem in_k {t : Int} (h : KC σ t = 14 ∨ KC σ t = 15) : insC σ t = true := by
  unfold insC
  refine decide_eq_true (Or.inr ?_)
  rcases h with h | h
  · exact Or.inr (Or.inl h)
  · exact Or.inr (Or.inr (Or.inl h))
theorem in_n {t v : Int} (h : KC σ t = 22) (hv : VC σ t = v) (hi : ¬ idxC σ 12 v = -1 ∨ ¬ idxC σ 16 v = -1) : insC σ t = true := by
  unfold insC
  rw [hv]
  exact decide_eq_true (Or.inl ⟨h, hi⟩)
theorem in_no {t : Int} (h : KC σ t = 19 ∨ KC σ t = 17) : insC σ t = false := by
  unfold insC
  refine decide_eq_false ?_
  rintro (⟨z, -⟩ | z | z | z | z | z) <;> (rcases h with h | h <;> (rw [h] at z; exact absurd z (by decide)))
theorem tc_y {p : Sg} {s t : Int} {c : Nat} (h6 : p 51 6 = s) (h9 : p 9 16 = c) (hc : c < 8) (hst : s ≤ t ∧ t - s ≤ 30) (hin : ∀ u, s ≤ u → u < t → insC p u = true) (hk : KC p t = 19 ∨ KC p t = 17) :
    ∃ z, tcM p = (true, z) ∧ (∀ q, q ≠ 51 ∧ q ≠ 52 ∧ q ≠ 53 ∧ q ≠ 32 ∧ q ≠ 9 → z q = p q) ∧ z 51 6 = t ∧ (∀ j, j ≠ 6 → z 51 j = p 51 j) ∧ z 9 16 = (c : Int) + 1 := by
  have e9 : i32 (p 9 16) = c := by rw [h9]; exact i32_n _ (by omega)
  have e0 : tc0M p = up (up (up p 52 c s) 53 c (p 12 2)) 32 c (p 14 2) := by
    unfold tc0M
    rw [e9, h6, show ((c : Int)).toNat = c from by omega]
  generalize hX : tc0M p = X at e0
  have fr : ∀ q, q ≠ 52 ∧ q ≠ 53 ∧ q ≠ 32 → X q = p q := fun q hq => by rw [e0, up_r _ _ _ hq.2.2, up_r _ _ _ hq.2.1, up_r _ _ _ hq.1]
  have iX : ∀ u, insC X u = insC p u := insC_fr (fr 3 (by decide)) (fr 5 (by decide)) (fr 7 (by decide)) (fr 12 (by decide)) (fr 13 (by decide)) (fr 16 (by decide)) (fr 17 (by decide))
  have ee : eouC X s = t := eou_st 30 s t hst.1 hst.2 (fun u u0 u1 => by rw [iX]; exact hin u u0 u1) (by rw [iX]; exact in_no hk)
  have e1 : tc1M p = up X 51 6 t := by
    unfold tc1M
    rw [hX, h6, ee]
  have kk : KC (up X 51 6 t) t = KC p t := KC_fr ((up_r _ _ _ (by decide)).trans (fr 3 (by decide))) ((up_r _ _ _ (by decide)).trans (fr 5 (by decide))) t
  refine ⟨up (up X 51 6 t) 9 16 ((c : Int) + 1), ?_, fun q hq => ?_, ?_, fun j hj => ?_, ?_⟩
  · unfold tcM
    rw [e9, if_neg (by omega), e1, up_s, kk, if_neg (by rcases hk with h | h <;> (rw [h]; decide))]
    rw [up_k (j := 6) _ _ (by decide), fr 9 (by decide), h9]
  · rw [up_r _ _ _ hq.2.2.2.2, up_r _ _ _ hq.1, fr q ⟨hq.2.1, hq.2.2.1, hq.2.2.2.1⟩]
  · rw [up_k _ _ (by decide), up_s]
  · rw [up_k _ _ (by decide), up_j _ _ hj, fr 51 (by decide)]
  · exact up_s _ _ _ _
theorem mlL_s (n : Nat) (S : Sg) : mlL (n + 1) S = (if ¬ KC S (S 51 6) = 17 then (if (tcM (nxM S)).1 = true then mlL n (tcM (nxM S)).2 else (false, (tcM (nxM S)).2)) else (true, S)) := rfl
theorem ml_ok {a nf nd : Int} (hB : MB σ a nf nd 0 1 0 0) (hN : MN σ nf nd 0 1) (hnf : 0 ≤ nf ∧ nf ≤ 6) (hnd : 1 ≤ nd ∧ nd ≤ 6) (v1 : VC σ (a + 1) = 13) (k2 : KC σ (a + 2) = 18) (k3 : KC σ (a + 3) = 22) (v3 : VC σ (a + 3) = 20) (k4 : KC σ (a + 4) = 14) (k5 : KC σ (a + 5) = 15) (k6 : KC σ (a + 6) = 22) (v6 : VC σ (a + 6) = 20) (k7 : KC σ (a + 7) = 19) (k8 : KC σ (a + 8) = 15) (k9 : KC σ (a + 9) = 22) (v9 : VC σ (a + 9) = 109) (k10 : KC σ (a + 10) = 17) :
    ∃ z, mlM σ = (true, z) ∧ MB z (a + 11) nf nd 1 1 2 0 ∧ MN z nf nd 1 1 ∧ Fq σ z := by
  obtain ⟨⟨b1, b2, b3⟩, ⟨c1, c2, c3, c4⟩, d1, d2, d3, d4, d5, d6⟩ := hB
  have fr : ∀ q, q ≠ 51 → nxM σ q = σ q := fun q hq => nxM_r _ hq
  have r1 : nnM (nxM σ) = (true, nxM (nxM σ)) := by
    refine nn_y (v := 13) (by rw [nxM_6, b1, VCn]; exact v1) ?_ ?_ ?_
    · rw [idxC_fr (fr 10 (by decide)) (fr 11 (by decide)), nm_f d1 hN hnf (by decide), if_neg (by omega)]
    · rw [idxC_fr (fr 12 (by decide)) (fr 13 (by decide)), nm_d d2 hN ⟨by omega, hnd.2⟩ (by decide), if_neg (by omega)]
    · rw [idxC_fr (fr 14 (by decide)) (fr 15 (by decide))]; exact nm_m0 d3 (by decide)
  generalize hS : nxM (nxM σ) = S at r1
  have S6 : S 51 6 = a + 2 := by rw [← hS, nxM_6, nxM_6, b1]; omega
  have Sr : ∀ q, q ≠ 51 → S q = σ q := fun q hq => by rw [← hS, nxM_r _ hq, nxM_r _ hq]
  have S51 : ∀ j, j ≠ 6 → S 51 j = σ 51 j := fun j hj => by rw [← hS, nxM_j _ (Or.inr hj), nxM_j _ (Or.inr hj)]
  have kS : ∀ t, KC S t = KC σ t := KC_fr (Sr 3 (by decide)) (Sr 5 (by decide))
  have i20 : idxC σ 16 20 = 0 := by rw [nm_t d4 hN (by decide), if_pos rfl]
  have i109 : idxC σ 12 109 = 0 := by rw [nm_d d2 hN ⟨by omega, hnd.2⟩ (by decide), if_pos (by omega)]; rfl
  have ins1 : ∀ u, a + 3 ≤ u → u < a + 7 → insC σ u = true := fun u u0 u1 => by
    have : u = a + 3 ∨ u = a + 4 ∨ u = a + 5 ∨ u = a + 6 := by omega
    rcases this with rfl | rfl | rfl | rfl
    · exact in_n k3 v3 (Or.inr (by rw [i20]; decide))
    · exact in_k (Or.inl k4)
    · exact in_k (Or.inr k5)
    · exact in_n k6 v6 (Or.inr (by rw [i20]; decide))
  have ins2 : ∀ u, a + 8 ≤ u → u < a + 10 → insC σ u = true := fun u u0 u1 => by
    have : u = a + 8 ∨ u = a + 9 := by omega
    rcases this with rfl | rfl
    · exact in_k (Or.inr k8)
    · exact in_n k9 v9 (Or.inl (by rw [i109]; decide))
  have nS : ∀ q, q ≠ 51 → nxM S q = σ q := fun q hq => (nxM_r _ hq).trans (Sr q hq)
  have iS : ∀ u, insC (nxM S) u = insC σ u := insC_fr (nS 3 (by decide)) (nS 5 (by decide)) (nS 7 (by decide)) (nS 12 (by decide)) (nS 13 (by decide)) (nS 16 (by decide)) (nS 17 (by decide))
  obtain ⟨p, p0, p1, p2, p3, p4⟩ := tc_y (p := nxM S) (s := a + 3) (t := a + 7) (c := 0) (by rw [nxM_6, S6]; omega) (by rw [nS 9 (by decide)]; exact d5) (by decide) ⟨by omega, by omega⟩ (fun u u0 u1 => by rw [iS]; exact ins1 u u0 u1) (Or.inl (by rw [KCn, kS]; exact k7))
  have pr : ∀ q, q ≠ 51 ∧ q ≠ 52 ∧ q ≠ 53 ∧ q ≠ 32 ∧ q ≠ 9 → p q = σ q := fun q hq => (p1 q hq).trans (nS q hq.1)
  have kp : ∀ t, KC p t = KC σ t := KC_fr (pr 3 (by decide)) (pr 5 (by decide))
  have np : ∀ q, q ≠ 51 → nxM p q = p q := fun q hq => nxM_r _ hq
  have iP : ∀ u, insC (nxM p) u = insC σ u := insC_fr ((np 3 (by decide)).trans (pr 3 (by decide))) ((np 5 (by decide)).trans (pr 5 (by decide))) ((np 7 (by decide)).trans (pr 7 (by decide))) ((np 12 (by decide)).trans (pr 12 (by decide))) ((np 13 (by decide)).trans (pr 13 (by decide))) ((np 16 (by decide)).trans (pr 16 (by decide))) ((np 17 (by decide)).trans (pr 17 (by decide)))
  obtain ⟨w, w0, w1, w2, w3, w4⟩ := tc_y (p := nxM p) (s := a + 8) (t := a + 10) (c := 1) (by rw [nxM_6, p2]; omega) (by rw [np 9 (by decide), p4]; rfl) (by decide) ⟨by omega, by omega⟩ (fun u u0 u1 => by rw [iP]; exact ins2 u u0 u1) (Or.inr (by rw [KCn, kp]; exact k10))
  have wr : ∀ q, q ≠ 51 ∧ q ≠ 52 ∧ q ≠ 53 ∧ q ≠ 32 ∧ q ≠ 9 → w q = σ q := fun q hq => (w1 q hq).trans ((np q hq.1).trans (pr q hq))
  have kw : ∀ t, KC w t = KC σ t := KC_fr (wr 3 (by decide)) (wr 5 (by decide))
  have w51 : ∀ j, j ≠ 6 → w 51 j = σ 51 j := fun j hj => by rw [w3 j hj, nxM_j _ (Or.inr hj), p3 j hj, nxM_j _ (Or.inr hj), S51 j hj]
  have eL : mlL 1500 S = (true, w) := by
    rw [show (1500 : Nat) = 1499 + 1 from rfl, mlL_s]
    rw [S6, kS, k2, if_pos (by decide), p0, if_pos rfl]
    show mlL 1499 p = _
    rw [show (1499 : Nat) = 1498 + 1 from rfl, mlL_s]
    rw [p2, kp, k7, if_pos (by decide), w0, if_pos rfl]
    show mlL 1498 w = _
    rw [show (1498 : Nat) = 1497 + 1 from rfl, mlL_s]
    rw [w2, kw, k10, if_neg (by decide)]
  have hfull : fullC σ 14 = false := fl_n d3 (by decide) c3 (by decide) (by decide)
  have ea : addC w 14 13 = up (up w 15 0 13) 14 2 1 := ad_y (σ := w) (k := 14) (n := 0) (by rw [wr 14 (by decide)]; exact d3) (by decide)
  have e0 : mlM σ = (true, nxM (up (up w 15 0 13) 14 2 1)) := by
    unfold mlM
    rw [hfull, if_neg (by decide), r1, if_pos rfl]
    dsimp only
    rw [eL]
    unfold mlE
    rw [if_pos rfl]
    dsimp only
    rw [b1, v1, ea]
  have X : ∀ q, q ≠ 51 ∧ q ≠ 14 ∧ q ≠ 15 → nxM (up (up w 15 0 13) 14 2 1) q = w q := fun q hq => by rw [nxM_r _ hq.1, up_r _ _ _ hq.2.1, up_r _ _ _ hq.2.2]
  refine ⟨_, e0, ⟨⟨?_, ?_, ?_⟩, ⟨?_, ?_, ?_, ?_⟩, ?_, ?_, ?_, ?_, ?_, ?_⟩, ⟨fun j hj => ?_, fun j hj => ?_, fun j hj => ?_, fun j hj => ?_⟩, fun q hq => ?_⟩
  · rw [nxM_6, up_k _ _ (by decide), up_k _ _ (by decide), w2]; omega
  · rw [nxM_j _ (Or.inr (by decide)), up_k _ _ (by decide), up_k _ _ (by decide), w51 7 (by decide)]; exact b2
  · rw [nxM_j _ (Or.inr (by decide)), up_k _ _ (by decide), up_k _ _ (by decide), w51 8 (by decide)]; exact b3
  · rw [X 10 (by decide), wr 10 (by decide)]; exact c1
  · rw [X 12 (by decide), wr 12 (by decide)]; exact c2
  · rw [nxM_r _ (by decide), up_j _ _ (by decide), up_k _ _ (by decide), wr 14 (by decide)]; exact c3
  · rw [X 16 (by decide), wr 16 (by decide)]; exact c4
  · rw [X 10 (by decide), wr 10 (by decide)]; exact d1
  · rw [X 12 (by decide), wr 12 (by decide)]; exact d2
  · rw [nxM_r _ (by decide), up_s]
  · rw [X 16 (by decide), wr 16 (by decide)]; exact d4
  · rw [X 9 (by decide), w4]; rfl
  · rw [X 18 (by decide), wr 18 (by decide)]; exact d6
  · rw [X 11 (by decide), X 23 (by decide), X 24 (by decide), wr 11 (by decide), wr 23 (by decide), wr 24 (by decide)]; exact hN.1 j hj
  · rw [X 13 (by decide), wr 13 (by decide)]; exact hN.2.1 j hj
  · obtain rfl : j = 0 := by omega
    rw [nxM_r _ (by decide), up_k _ _ (by decide), up_s]
  · rw [X 17 (by decide), wr 17 (by decide)]; exact hN.2.2.2 j hj
  · rw [X q ⟨by omega, by omega, by omega⟩, wr q ⟨by omega, by omega, by omega, by omega, by omega⟩]
/-! rules -/
def Rq (σ z : Sg) (r : Nat) (b so : Int) : Prop := (∀ q, q ≠ 51 ∧ ¬ (19 ≤ q ∧ q ≤ 22) ∧ q ≠ 54 → z q = σ q) ∧ (∀ j, j ≠ r → z 19 j = σ 19 j) ∧ z 19 r = so ∧ z 51 6 = b ∧ z 51 7 = σ 51 7 ∧ z 51 8 = σ 51 8
/-- a state on the way: the sort not yet, or as told -/
def Rw (σ z : Sg) (r : Nat) (b : Int) : Prop := (∀ q, q ≠ 51 ∧ ¬ (19 ≤ q ∧ q ≤ 22) ∧ q ≠ 54 → z q = σ q) ∧ (∀ j, j ≠ r → z 19 j = σ 19 j) ∧ z 51 6 = b ∧ z 51 7 = σ 51 7 ∧ z 51 8 = σ 51 8
theorem Rw.K {z : Sg} {r : Nat} {b : Int} (h : Rw σ z r b) (t : Int) : KC z t = KC σ t := KC_fr (h.1 3 (by decide)) (h.1 5 (by decide)) t
theorem Rw.V {z : Sg} {r : Nat} {b : Int} (h : Rw σ z r b) (t : Int) : VC z t = VC σ t := VC_fr (h.1 3 (by decide)) (h.1 7 (by decide)) t
theorem Rw.nx {z : Sg} {r : Nat} {b : Int} (h : Rw σ z r b) : Rw σ (nxM z) r (b + 1) := ⟨fun q hq => (nxM_r _ hq.1).trans (h.1 q hq), fun j hj => by rw [nxM_r _ (by decide)]; exact h.2.1 j hj, by rw [nxM_6, h.2.2.1], by rw [nxM_j _ (Or.inr (by decide))]; exact h.2.2.2.1, by rw [nxM_j _ (Or.inr (by decide))]; exact h.2.2.2.2⟩
theorem Rw.u9 {z : Sg} {r : Nat} {b v : Int} (h : Rw σ z r b) : Rw σ (up z 51 9 v) r b := ⟨fun q hq => (up_r _ _ _ hq.1).trans (h.1 q hq), fun j hj => by rw [up_k _ _ (by decide)]; exact h.2.1 j hj, by rw [up_j _ _ (by decide)]; exact h.2.2.1, by rw [up_j _ _ (by decide)]; exact h.2.2.2.1, by rw [up_j _ _ (by decide)]; exact h.2.2.2.2⟩
theorem Rw.ur {z : Sg} {r k : Nat} {b v : Int} (h : Rw σ z r b) (hk : (19 ≤ k ∧ k ≤ 22) ∨ k = 54) : Rw σ (up z k r v) r b := ⟨fun q hq => (up_r _ _ _ (by omega)).trans (h.1 q hq), fun j hj => by
  by_cases c : k = 19
  · subst c; rw [up_j _ _ hj]; exact h.2.1 j hj
  · rw [up_k _ _ (Ne.symm c)]; exact h.2.1 j hj, by rw [up_k _ _ (by omega)]; exact h.2.2.1, by rw [up_k _ _ (by omega)]; exact h.2.2.2.1, by rw [up_k _ _ (by omega)]; exact h.2.2.2.2⟩
theorem Rw.tn {z : Sg} {r : Nat} {b v lo hi : Int} (h : Rw σ z r b) (hv : VC σ b = v) (hlo : -1000000 ≤ lo ∧ lo ≤ 1000000) (hhi : -1000000 ≤ hi ∧ hi ≤ 1000000) (hb : lo ≤ v ∧ v ≤ hi) : tnM z lo hi = (true, nxM (up z 51 9 v)) ∧ Rw σ (nxM (up z 51 9 v)) r (b + 1) ∧ nxM (up z 51 9 v) 51 9 = v :=
  ⟨tn_y (by rw [h.2.2.1, h.V]; exact hv) hlo hhi hb, h.u9.nx, by rw [nxM_j _ (Or.inr (by decide)), up_s]⟩
theorem Rw.tm {z : Sg} {r : Nat} {b v : Int} (h : Rw σ z r b) (hv : VC σ b = v) (hi : ¬ idxC σ 12 v = -1 ∨ ¬ idxC σ 16 v = -1) : ∃ w, tmM z r = (true, w) ∧ Rw σ w r (b + 1) ∧ w 19 r = z 19 r := by
  have en : ((r : Int)).toNat = r := by omega
  unfold tmM
  rw [h.2.2.1, h.V, hv, en, idxC_fr (h.1 12 (by decide)) (h.1 13 (by decide)), idxC_fr (h.1 16 (by decide)) (h.1 17 (by decide))]
  by_cases c : ¬ idxC σ 12 v = -1
  · rw [if_pos c]
    exact ⟨_, rfl, (h.ur (Or.inl (by decide))).nx, by rw [nxM_r _ (by decide), up_k _ _ (by decide)]⟩
  · rw [if_neg c, if_pos (hi.resolve_left c)]
    exact ⟨_, rfl, (h.ur (Or.inr rfl)).nx, by rw [nxM_r _ (by decide), up_k _ _ (by decide)]⟩
theorem Rw.q {z : Sg} {r : Nat} {b so : Int} (h : Rw σ z r b) (h19 : z 19 r = so) : Rq σ z r b so := ⟨h.1, h.2.1, h19, h.2.2⟩
theorem rl_0 {a : Int} {r : Nat} (h6 : σ 51 6 = a) (h18 : σ 18 4 = r) (hr : r < 8) : Rw σ (rl1M σ) r (a + 2) := by
  have e : i32 (σ 18 4) = r := by rw [h18]; exact i32_n _ (by omega)
  have h0 : Rw σ σ r a := ⟨fun _ _ => rfl, fun _ _ => rfl, h6, rfl, rfl⟩
  have e0 : rl0M σ = up (up (up σ 21 r 0) 22 r 0) 54 r (-1) := by
    unfold rl0M
    rw [e, show ((r : Int)).toNat = r from by omega]
  unfold rl1M
  rw [e0, show a + 2 = a + 1 + 1 from by omega]
  exact (((h0.ur (Or.inl (by decide))).ur (Or.inl (by decide))).ur (Or.inr rfl)).nx.nx
/-- one rule: its sort so, its numbers, its name -/
theorem rl2_ok {a v1 v2 v3 : Int} {r : Nat} {so b : Int} (h6 : σ 51 6 = a) (h18 : σ 18 4 = r) (hr : r < 8) (w1 : VC σ (a + 2) = v1)
    (hc : (so = 0 ∧ KC σ (a + 1) = 7 ∧ (1 ≤ v1 ∧ v1 ≤ 9) ∧ VC σ (a + 3) = v2 ∧ (¬ idxC σ 12 v2 = -1 ∨ ¬ idxC σ 16 v2 = -1) ∧ b = a + 4) ∨
      (so = 1 ∧ KC σ (a + 1) = 8 ∧ (0 ≤ v1 ∧ v1 ≤ 9) ∧ VC σ (a + 3) = v2 ∧ (¬ idxC σ 12 v2 = -1 ∨ ¬ idxC σ 16 v2 = -1) ∧ VC σ (a + 5) = v3 ∧ (1 ≤ v3 ∧ v3 ≤ 14) ∧ b = a + 6) ∨
      (so = 2 ∧ KC σ (a + 1) = 9 ∧ (1 ≤ v1 ∧ v1 ≤ 9) ∧ VC σ (a + 3) = v2 ∧ (¬ idxC σ 12 v2 = -1 ∨ ¬ idxC σ 16 v2 = -1) ∧ VC σ (a + 5) = v3 ∧ (1 ≤ v3 ∧ v3 ≤ 14) ∧ b = a + 6) ∨
      (so = 3 ∧ KC σ (a + 1) = 11 ∧ (0 ≤ v1 ∧ v1 ≤ 9999) ∧ VC σ (a + 4) = v3 ∧ (v1 ≤ v3 ∧ v3 ≤ 9999) ∧ b = a + 5)) :
    ∃ z, rl2M σ = (true, z) ∧ Rq σ z r b so := by
  have e : i32 (σ 18 4) = r := by rw [h18]; exact i32_n _ (by omega)
  have en : ((r : Int)).toNat = r := by omega
  have X := rl_0 h6 h18 hr
  have spn : ∀ (s lo : Int), 0 ≤ lo → lo ≤ 1 → (lo ≤ v1 ∧ v1 ≤ 9) → VC σ (a + 3) = v2 → (¬ idxC σ 12 v2 = -1 ∨ ¬ idxC σ 16 v2 = -1) → VC σ (a + 5) = v3 → (1 ≤ v3 ∧ v3 ≤ 14) → ∃ z, spM (rl1M σ) r s lo = (true, z) ∧ Rq σ z r (a + 6) s := by
    intro s lo l0 l1 hv h3 hi h5 hw
    obtain ⟨g1, g2, g3⟩ := X.tn (lo := lo) (hi := 9) w1 (by omega) (by decide) hv
    have s1 : sp1M (rl1M σ) r s lo = up (up (nxM (up (rl1M σ) 51 9 v1)) 19 r s) 20 r v1 := by unfold sp1M; rw [g1, en]; dsimp only; rw [g3]
    obtain ⟨w, q1, q2, q3⟩ := ((g2.ur (k := 19) (v := s) (Or.inl (by decide))).ur (k := 20) (v := v1) (Or.inl (by decide))).tm (v := v2) (by rw [show a + 2 + 1 = a + 3 from by omega]; exact h3) hi
    have s2 : sp2M (rl1M σ) r s lo = (true, w) := by unfold sp2M; rw [s1]; exact q1
    obtain ⟨t1, t2, t3⟩ := q2.nx.tn (lo := 1) (hi := 14) (v := v3) (by rw [show a + 2 + 1 + 1 + 1 = a + 5 from by omega]; exact h5) (by decide) (by decide) hw
    have s3 : sp3M (rl1M σ) r s lo = (true, nxM (up (nxM w) 51 9 v3)) := by unfold sp3M; rw [s2]; exact t1
    refine ⟨up (nxM (up (nxM w) 51 9 v3)) 21 r v3, ?_, ?_⟩
    · unfold spM
      rw [g1, if_pos rfl, s2, if_pos rfl, s3, if_pos rfl]
      dsimp only
      rw [t3, en]
    · have := (t2.ur (k := 21) (v := v3) (Or.inl (by decide)))
      rw [show a + 2 + 1 + 1 + 1 + 1 = a + 6 from by omega] at this
      refine this.q ?_
      rw [up_k _ _ (by decide), nxM_r _ (by decide), up_k _ _ (by decide), nxM_r _ (by decide), q3, up_k _ _ (by decide), up_s]
  unfold rl2M
  rw [h6, e]
  rcases hc with ⟨rfl, k1, hv, h3, hi, rfl⟩ | ⟨rfl, k1, hv, h3, hi, h5, hw, rfl⟩ | ⟨rfl, k1, hv, h3, hi, h5, hw, rfl⟩ | ⟨rfl, k1, hv, h5, hw, rfl⟩
  · rw [k1, if_pos rfl]
    obtain ⟨g1, g2, g3⟩ := X.tn (lo := 1) (hi := 9) w1 (by decide) (by decide) hv
    obtain ⟨w, q1, q2, q3⟩ := ((g2.ur (k := 19) (v := 0) (Or.inl (by decide))).ur (k := 20) (v := v1) (Or.inl (by decide))).tm (v := v2) (by rw [show a + 2 + 1 = a + 3 from by omega]; exact h3) hi
    refine ⟨w, ?_, ?_⟩
    · unfold apM
      rw [g1, if_pos rfl]
      dsimp only
      rw [g3, en]; exact q1
    · rw [show a + 4 = a + 2 + 1 + 1 from by omega]
      exact q2.q (by rw [q3, up_k _ _ (by decide), up_s])
  · rw [k1, if_neg (by decide), if_pos rfl]
    exact spn 1 0 (by decide) (by decide) hv h3 hi h5 hw
  · rw [k1, if_neg (by decide), if_neg (by decide), if_pos rfl]
    exact spn 2 1 (by decide) (by decide) hv h3 hi h5 hw
  · rw [k1, if_neg (by decide), if_neg (by decide), if_neg (by decide)]
    obtain ⟨g1, g2, g3⟩ := X.tn (lo := 0) (hi := 9999) w1 (by decide) (by decide) hv
    obtain ⟨t1, t2, t3⟩ := g2.nx.tn (lo := v1) (hi := 9999) (v := v3) (by rw [show a + 2 + 1 + 1 = a + 4 from by omega]; exact h5) (by omega) (by decide) hw
    have s2 : en2M (rl1M σ) = (true, nxM (up (nxM (nxM (up (rl1M σ) 51 9 v1))) 51 9 v3)) := by unfold en2M; rw [g1]; dsimp only; rw [g3]; exact t1
    refine ⟨up (up (up (nxM (up (nxM (nxM (up (rl1M σ) 51 9 v1))) 51 9 v3)) 19 r 3) 20 r v1) 21 r v3, ?_, ?_⟩
    · unfold enM
      rw [g1, if_pos rfl, s2, if_pos rfl]
      dsimp only
      rw [g3, t3, en]
    · have := (((t2.ur (k := 19) (v := 3) (Or.inl (by decide))).ur (k := 20) (v := v1) (Or.inl (by decide))).ur (k := 21) (v := v3) (Or.inl (by decide)))
      rw [show a + 2 + 1 + 1 + 1 = a + 5 from by omega] at this
      exact this.q (by rw [up_k _ _ (by decide), up_k _ _ (by decide), up_s])
theorem rl_ok {a b so nf nd nm nt nc : Int} {r : Nat} (hB : MB σ a nf nd nm nt nc r) (hN : MN σ nf nd nm nt) (hr : r < 8) (h : ∃ z, rl2M σ = (true, z) ∧ Rq σ z r b so) :
    ∃ z, rlM σ = (true, z) ∧ MB z (b + 1) nf nd nm nt nc ((r : Int) + 1) ∧ MN z nf nd nm nt ∧ (∀ j, j ≠ r → z 19 j = σ 19 j) ∧ z 19 r = so ∧ Fq σ z := by
  obtain ⟨⟨b1, b2, b3⟩, ⟨c1, c2, c3, c4⟩, d1, d2, d3, d4, d5, d6⟩ := hB
  obtain ⟨z, e2, q1, q2, q3, q4, q5, q6⟩ := h
  have e : i32 (σ 18 4) = r := by rw [d6]; exact i32_n _ (by omega)
  have z18 : z 18 4 = r := by rw [q1 18 (by decide)]; exact d6
  have e0 : rlM σ = (true, nxM (up z 18 4 ((r : Int) + 1))) := by
    unfold rlM
    rw [e, if_neg (by omega), e2, if_pos rfl]
    dsimp only
    rw [z18]
  have X : ∀ q, q ≠ 51 ∧ q ≠ 18 → nxM (up z 18 4 ((r : Int) + 1)) q = z q := fun q hq => by rw [nxM_r _ hq.1, up_r _ _ _ hq.2]
  have Y : ∀ q, q ≠ 51 ∧ q ≠ 18 ∧ ¬ (19 ≤ q ∧ q ≤ 22) ∧ q ≠ 54 → nxM (up z 18 4 ((r : Int) + 1)) q = σ q := fun q hq => by rw [X q ⟨hq.1, hq.2.1⟩, q1 q ⟨hq.1, hq.2.2⟩]
  refine ⟨_, e0, ⟨⟨?_, ?_, ?_⟩, ⟨?_, ?_, ?_, ?_⟩, ?_, ?_, ?_, ?_, ?_, ?_⟩, ⟨fun j hj => ?_, fun j hj => ?_, fun j hj => ?_, fun j hj => ?_⟩, fun j hj => ?_, ?_, fun q hq => ?_⟩
  · rw [nxM_6, up_k _ _ (by decide), q4]
  · rw [nxM_j _ (Or.inr (by decide)), up_k _ _ (by decide), q5]; exact b2
  · rw [nxM_j _ (Or.inr (by decide)), up_k _ _ (by decide), q6]; exact b3
  · rw [Y 10 (by decide)]; exact c1
  · rw [Y 12 (by decide)]; exact c2
  · rw [Y 14 (by decide)]; exact c3
  · rw [Y 16 (by decide)]; exact c4
  · rw [Y 10 (by decide)]; exact d1
  · rw [Y 12 (by decide)]; exact d2
  · rw [Y 14 (by decide)]; exact d3
  · rw [Y 16 (by decide)]; exact d4
  · rw [Y 9 (by decide)]; exact d5
  · rw [nxM_r _ (by decide), up_s]
  · rw [Y 11 (by decide), Y 23 (by decide), Y 24 (by decide)]; exact hN.1 j hj
  · rw [Y 13 (by decide)]; exact hN.2.1 j hj
  · rw [Y 15 (by decide)]; exact hN.2.2.1 j hj
  · rw [Y 17 (by decide)]; exact hN.2.2.2 j hj
  · rw [X 19 (by decide)]; exact q2 j hj
  · rw [X 19 (by decide)]; exact q3
  · rw [Y q ⟨by omega, by omega, by omega, by omega⟩]
end S96b
