/-! the put -/
section S55
variable {σ τ : Sg}
/-- the cells that a put may change -/
def mnK (k : Nat) : Prop := k = 55 ∨ k = 58 ∨ k = 59 ∨ k = 60 ∨ (61 ≤ k ∧ k < 83)
theorem ptG_k {d x b r : Int} {a : Sg} {k : Nat} (hr : 0 ≤ r ∧ r < 8) (h : k ≠ 60 ∧ k ≠ 75 + r.toNat) : ptG d x b r a k = a k := by
  have e : ptA d x b r a k = a k := up_r _ _ _ h.2
  unfold ptG
  split
  · unfold rcC
    split
    · rw [up_r _ _ _ h.1]; exact e
    · exact e
  · exact e
/-- one rule, looked at again -/
theorem ptG_ok {a : Sg} {N R d x b r : Int} (h12 : a 12 2 = N) (hN : 0 ≤ N ∧ N ≤ 16) (hx : -1 ≤ x ∧ x < N) (hb : -1 ≤ b ∧ b < N) (hd : 0 ≤ d ∧ d < 14) (h18 : a 18 4 = R) (hR : 0 ≤ R ∧ R ≤ 8) (hr : 0 ≤ r ∧ r < R) (h19 : inr (a 19 r.toNat)) :
    (∀ j : Nat, ptG d x b r a (75 + r.toNat) j = a (75 + r.toNat) j + (if (j : Int) = d then bt (a 22 r.toNat) x - bt (a 22 r.toNat) b else 0)) ∧
    (∀ j : Nat, j ≠ r.toNat → ptG d x b r a 60 j = a 60 j) ∧
    ptG d x b r a 60 r.toNat = (if ¬ bt (a 22 r.toNat) x - bt (a 22 r.toNat) b = 0 ∨ a 19 r.toNat = 3 then rcV (ptA d x b r a) r else a 60 r.toNat) := by
  have e1 := mnC_bt (a := a) (r := r) h12 hN hx
  have e2 := mnC_bt (a := a) (r := r) h12 hN hb
  have b1 := bt_bd (a 22 r.toNat) x
  have b2 := bt_bd (a 22 r.toNat) b
  have hA : ∀ j : Nat, ptA d x b r a (75 + r.toNat) j = a (75 + r.toNat) j + (if (j : Int) = d then bt (a 22 r.toNat) x - bt (a 22 r.toNat) b else 0) := by
    intro j
    unfold ptA
    rw [i32_n d (by omega), up_at, e1, e2]
    by_cases z : (j : Int) = d
    · rw [if_pos (by omega), if_pos z, show d.toNat = j from by omega]
    · rw [if_neg (by omega), if_neg z]; omega
  have hA60 : ptA d x b r a 60 = a 60 := up_r _ _ _ (by omega)
  have hRH : rHas (ptA d x b r a) r = true := by
    unfold rHas
    rw [show ptA d x b r a 18 4 = R from by unfold ptA; rw [up_k _ _ (by omega)]; exact h18, i32_n r (by omega), i32_n R (by omega)]
    exact decide_eq_true ⟨hr.1, hr.2, by omega⟩
  unfold ptG
  rw [e1, e2, i32_n _ (by omega), i32_eq h19]
  by_cases c : ¬ bt (a 22 r.toNat) x - bt (a 22 r.toNat) b = 0 ∨ a 19 r.toNat = 3
  · rw [if_pos c, if_pos c]
    unfold rcC
    rw [if_pos hRH]
    refine ⟨fun j => ?_, fun j hj => ?_, up_s _ _ _ _⟩
    · rw [up_k _ _ (by omega)]; exact hA j
    · rw [up_j _ _ hj, hA60]
  · rw [if_neg c, if_neg c]
    exact ⟨hA, fun j _ => by rw [hA60], by rw [hA60]⟩
/-- what holds after the rules ahead of i -/
def PtJ (τ τ2 s1 : Sg) (d x b i : Int) (a : Sg) : Prop :=
  (∀ k, k ≠ 60 → ¬ (75 ≤ k ∧ k < 83) → a k = s1 k) ∧ (∀ r j : Nat, (r : Int) < i → (j : Int) < τ 84 39 → a (75 + r) j = cnt τ2 (mtV τ r) j) ∧
  (∀ r : Nat, i ≤ r → (r : Int) < 8 → a (75 + r) = s1 (75 + r)) ∧ (∀ r : Nat, (r : Int) < i → a 60 r = ruV τ2 r) ∧ (∀ r : Nat, i ≤ r → a 60 r = s1 60 r)
theorem PtJ.off {τ τ2 s1 : Sg} {d x b i : Int} {a : Sg} (J : PtJ τ τ2 s1 d x b i a) : ∀ k, k ≠ 60 → ¬ (75 ≤ k ∧ k < 83) → a k = s1 k := J.1
theorem PtJ.row {τ τ2 s1 : Sg} {d x b i : Int} {a : Sg} (J : PtJ τ τ2 s1 d x b i a) : ∀ r j : Nat, (r : Int) < i → (j : Int) < τ 84 39 → a (75 + r) j = cnt τ2 (mtV τ r) j := J.2.1
theorem PtJ.rest {τ τ2 s1 : Sg} {d x b i : Int} {a : Sg} (J : PtJ τ τ2 s1 d x b i a) : ∀ r : Nat, i ≤ r → (r : Int) < 8 → a (75 + r) = s1 (75 + r) := J.2.2.1
theorem PtJ.fs {τ τ2 s1 : Sg} {d x b i : Int} {a : Sg} (J : PtJ τ τ2 s1 d x b i a) : ∀ r : Nat, (r : Int) < i → a 60 r = ruV τ2 r := J.2.2.2.1
theorem PtJ.fr {τ τ2 s1 : Sg} {d x b i : Int} {a : Sg} (J : PtJ τ τ2 s1 d x b i a) : ∀ r : Nat, i ≤ r → a 60 r = s1 60 r := J.2.2.2.2
theorem mtV_mp (d c x r : Int) : mtV (mp τ d c x) r = mtV τ r := rfl
theorem PtJ_step {τ s1 : Sg} {d c x i : Int} (hP : PI τ) (hG : RuG τ) (hd : 0 ≤ d ∧ d < τ 84 39) (hc : 0 ≤ c ∧ c < τ 84 25) (hx : -1 ≤ x ∧ x < τ 84 15) (h1 : RP s1 τ)
    (h55 : s1 55 6 = τ 84 39) (hrow : ∀ r j : Nat, (r : Int) < τ 84 30 → (j : Int) < τ 84 39 → s1 (75 + r) j = cnt τ (mtV τ r) j) (h58 : ∀ j : Nat, (j : Int) < τ 84 39 → s1 58 j = suV2 (mp τ d c x) j false) (h60 : ∀ r : Nat, (r : Int) < τ 84 30 → s1 60 r = ruV τ r)
    {a : Sg} (hi : 0 ≤ i ∧ i < τ 84 30) (J : PtJ τ (mp τ d c x) s1 d x (dA τ d c) i a) : PtJ τ (mp τ d c x) s1 d x (dA τ d c) (i + 1) (ptG d x (dA τ d c) i a) := by
  have hP2 := PI_mp (d := d) (c := c) hP hx
  have hG2 := RuG_mp hG d c x
  have hN := hP.1.2.1
  have hR := hP.1.2.2.2.2.1
  have hD := hP.2.2.2.1
  have hb := hP.dA hd hc
  obtain ⟨⟨-, e12, -, -, e18, e9⟩, -, -, -, -, hru⟩ := h1
  obtain ⟨r, rfl⟩ : ∃ r : Nat, i = r := ⟨i.toNat, by omega⟩
  obtain ⟨q19, q20, q21, q22⟩ := hru r hi.2
  have hRI := hP.2.2.1 r hi.2
  have hGr := hG r hi.2
  have o := J.off
  have a19 : a 19 r = τ 105 r := by rw [o 19 (by decide) (by omega), q19]
  have a22 : a 22 r = mtV τ r := by rw [o 22 (by decide) (by omega), q22]
  have hrow2 : ∀ j : Nat, (j : Int) < τ 84 39 → a (75 + r) j = cnt τ (mtV τ r) j := fun j hj => by rw [J.rest r (Int.le_refl _) (by omega)]; exact hrow r j hi.2 hj
  obtain ⟨g1, g2, g3⟩ := ptG_ok (a := a) (N := τ 84 15) (R := τ 84 30) (d := d) (x := x) (b := dA τ d c) (r := r) (by rw [o 12 (by decide) (by omega), e12]) hN hx hb ⟨hd.1, by omega⟩ (by rw [o 18 (by decide) (by omega), e18]) hR hi (by show inr (a 19 r); rw [a19]; exact ⟨by omega, by omega⟩)
  have g1 : ∀ j : Nat, ptG d x (dA τ d c) r a (75 + r) j = a (75 + r) j + (if (j : Int) = d then bt (a 22 r) x - bt (a 22 r) (dA τ d c) else 0) := g1
  have g2 : ∀ j : Nat, j ≠ r → ptG d x (dA τ d c) r a 60 j = a 60 j := g2
  have g3 : ptG d x (dA τ d c) r a 60 r = (if ¬ bt (a 22 r) x - bt (a 22 r) (dA τ d c) = 0 ∨ a 19 r = 3 then rcV (ptA d x (dA τ d c) r a) r else a 60 r) := g3
  rw [a22] at g1 g3
  rw [a19] at g3
  have hnew : ∀ j : Nat, (j : Int) < τ 84 39 → ptG d x (dA τ d c) r a (75 + r) j = cnt (mp τ d c x) (mtV τ r) j := by
    intro j hj
    rw [g1, hrow2 j hj, cnt_mp hP hd hc hx _ (by omega)]
    by_cases z : (j : Int) = d
    · rw [if_pos z, if_pos z, z]; omega
    · rw [if_neg z, if_neg z]; omega
  have hruE := ruV_e hP (r := r) ⟨by omega, hi.2⟩ hGr.1 hGr.2
  have hruE2 := ruV_e hP2 (r := r) ⟨by omega, hi.2⟩ hGr.1 hGr.2
  have hruE2 : ruV (mp τ d c x) r = rcN (τ 105 r) (τ 106 r) (τ 107 r) (τ 84 39) (cnt (mp τ d c x) (mtV τ r)) (fun d1 => suV2 (mp τ d c x) d1 false) := hruE2
  have hruE : ruV τ r = rcN (τ 105 r) (τ 106 r) (τ 107 r) (τ 84 39) (cnt τ (mtV τ r)) (fun d1 => suV2 τ d1 false) := hruE
  have hA : ∀ k, k ≠ 75 + r → ptA d x (dA τ d c) r a k = a k := fun k hk => up_r _ _ _ hk
  have hnewA : ∀ j : Nat, (j : Int) < τ 84 39 → ptA d x (dA τ d c) r a (75 + r) j = cnt (mp τ d c x) (mtV τ r) j := by
    intro j hj
    have e1 := mnC_bt (a := a) (N := τ 84 15) (y := x) (r := r) (by rw [o 12 (by decide) (by omega), e12]) hN hx
    have e2 := mnC_bt (a := a) (N := τ 84 15) (y := dA τ d c) (r := r) (by rw [o 12 (by decide) (by omega), e12]) hN hb
    show up a (75 + r) (i32 d).toNat _ (75 + r) j = _
    rw [up_at, e1, e2, i32_n d (by omega), ← hnew j hj, g1]
    show (if j = d.toNat then a (75 + r) d.toNat + (bt (a 22 r) x - bt (a 22 r) (dA τ d c)) else a (75 + r) j) = _
    rw [a22]
    by_cases z : (j : Int) = d
    · rw [if_pos (by omega), if_pos z, show d.toNat = j from by omega]
    · rw [if_neg (by omega), if_neg z]; omega
  have a58 : ∀ j : Nat, (j : Int) < τ 84 39 → a 58 j = suV2 (mp τ d c x) j false := fun j hj => by rw [o 58 (by decide) (by omega)]; exact h58 j hj
  have hval : ptG d x (dA τ d c) r a 60 r = ruV (mp τ d c x) r := by
    rw [g3]
    by_cases z : ¬ bt (mtV τ r) x - bt (mtV τ r) (dA τ d c) = 0 ∨ τ 105 r = 3
    · rw [if_pos z]
      have q : ∀ k, k = 19 ∨ k = 20 ∨ k = 21 ∨ k = 55 ∨ k = 58 → ptA d x (dA τ d c) r a k = s1 k := fun k hk => by rw [hA k (by omega), o k (by omega) (by omega)]
      have hRc : RcH (ptA d x (dA τ d c) r a) r := by
        unfold RcH
        rw [q 19 (by decide), q 20 (by decide), q 21 (by decide), q 55 (by decide), q 58 (by decide), q19, q20, q21, h55]
        refine ⟨by omega, by omega, by omega, hD, hGr.1, hGr.2, fun j hj => ?_⟩
        rw [hnewA j hj, h58 j hj]
        have k1 := cnt_bd hP2 (mtV τ r) j
        have k2 := suV2_bd hP2 (d := j) false ⟨by omega, hj⟩
        exact ⟨k1, by omega, by omega⟩
      rw [rcV_e hRc, hruE2, q 19 (by decide), q 20 (by decide), q 21 (by decide), q 55 (by decide), q19, q20, q21, h55]
      refine rcN_ext hD.1 (by omega) (fun _ j j0 j1 => ?_) (fun _ j j0 j1 => ?_)
      · have := hnewA j.toNat (by omega)
        rw [show ((j.toNat : Nat) : Int) = j from by omega] at this
        exact this
      · have := a58 j.toNat (by omega)
        rw [show ((j.toNat : Nat) : Int) = j from by omega] at this
        show ptA d x (dA τ d c) r a 58 j.toNat = _
        rw [hA 58 (by omega)]
        exact this
    · rw [if_neg z, J.fr r (Int.le_refl _), h60 r hi.2, hruE, hruE2]
      refine rcN_ext hD.1 (by omega) (fun _ j j0 j1 => ?_) (fun e => absurd (Or.inr e) z)
      rw [cnt_mp hP hd hc hx _ j0]
      by_cases z2 : j = d
      · rw [if_pos z2, z2]; omega
      · rw [if_neg z2]
  have gk : ∀ k, k ≠ 60 → k ≠ 75 + r → ptG d x (dA τ d c) r a k = a k := fun k k1 k2 => ptG_k (r := r) ⟨by omega, by omega⟩ ⟨k1, k2⟩
  refine ⟨fun k k1 k2 => ?_, fun r2 j h2 hj => ?_, fun r2 h2 h3 => ?_, fun r2 h2 => ?_, fun r2 h2 => ?_⟩
  · rw [gk k k1 (by omega)]; exact o k k1 k2
  · by_cases z : r2 = r
    · rw [z]; exact hnew j hj
    · rw [gk _ (by omega) (by omega)]; exact J.row r2 j (by omega) hj
  · rw [gk _ (by omega) (by omega)]; exact J.rest r2 (by omega) h3
  · by_cases z : r2 = r
    · rw [z]; exact hval
    · rw [g2 r2 z]; exact J.fs r2 (by omega)
  · rw [g2 r2 (by omega)]; exact J.fr r2 (by omega)
theorem pt_loop {τ s1 : Sg} {d c x : Int} (hP : PI τ) (hG : RuG τ) (hd : 0 ≤ d ∧ d < τ 84 39) (hc : 0 ≤ c ∧ c < τ 84 25) (hx : -1 ≤ x ∧ x < τ 84 15) (h1 : RP s1 τ)
    (h55 : s1 55 6 = τ 84 39) (hrow : ∀ r j : Nat, (r : Int) < τ 84 30 → (j : Int) < τ 84 39 → s1 (75 + r) j = cnt τ (mtV τ r) j) (h58 : ∀ j : Nat, (j : Int) < τ 84 39 → s1 58 j = suV2 (mp τ d c x) j false) (h60 : ∀ r : Nat, (r : Int) < τ 84 30 → s1 60 r = ruV τ r) :
    ∀ (n : Nat) (i : Int) (a : Sg), 0 ≤ i → i ≤ τ 84 30 → τ 84 30 ≤ i + n → i + n ≤ 8 → PtJ τ (mp τ d c x) s1 d x (dA τ d c) i a → PtJ τ (mp τ d c x) s1 d x (dA τ d c) (τ 84 30) (fG (fun i a => decide (i < i32 (a 18 4) ∧ i < 8)) (ptG d x (dA τ d c)) n i a)
  | 0, i, a, h0, hi, hn, _, J => by
    have : i = τ 84 30 := by omega
    rw [← this]; exact J
  | n + 1, i, a, h0, hi, hn, h8, J => by
    have hR := hP.1.2.2.2.2.1
    have e18 : a 18 4 = τ 84 30 := by rw [J.off 18 (by decide) (by omega)]; exact h1.1.2.2.2.2.1
    rw [fG_s, e18, i32_n _ (by omega)]
    by_cases c2 : i < τ 84 30
    · rw [if_pos (decide_eq_true ⟨c2, by omega⟩)]
      exact pt_loop hP hG hd hc hx h1 h55 hrow h58 h60 n (i + 1) _ (by omega) (by omega) (by omega) (by omega) (PtJ_step hP hG hd hc hx h1 h55 hrow h58 h60 ⟨h0, c2⟩ J)
    · rw [if_neg (by simp only [decide_eq_true_eq]; omega)]
      have : i = τ 84 30 := by omega
      rw [← this]; exact J
theorem put_ok {d c x : Int} (hP : PI τ) (hG : RuG τ) (h1 : RP σ τ) (h2 : RM σ τ) (hd : 0 ≤ d ∧ d < τ 84 39) (hc : 0 ≤ c ∧ c < τ 84 25) (hx : -1 ≤ x ∧ x < τ 84 15) :
    RP (ptC σ d c x) (mp τ d c x) ∧ RM (ptC σ d c x) (mp τ d c x) ∧ ∀ k, ¬ mnK k → ptC σ d c x k = σ k := by
  have hP2 := PI_mp (d := d) (c := c) hP hx
  have hN := hP.1.2.1
  have hC := hP.1.2.2.2.1
  have hD := hP.2.2.2.1
  have hR := hP.1.2.2.2.2.1
  have hb := hP.dA hd hc
  obtain ⟨m1, m2, m3, m4, m5, m6, m7⟩ := id h2
  obtain ⟨⟨e10, e12, e14, e16, e18, e9⟩, hfo, hdi, hta, hch, hru⟩ := id h1
  have hpl : hasPl σ d c = true := hasPl_y m1 e9 hD hC hd hc
  have ed : (i32 d).toNat = d.toNat := by rw [i32_n d (by omega)]
  have ec : (i32 c).toNat = c.toNat := by rw [i32_n c (by omega)]
  have eb : σ (61 + d.toNat) c.toNat = dA τ d c := by
    rw [m2 d.toNat c.toNat (by omega) (by omega), show ((d.toNat : Nat) : Int) = d from by omega, show ((c.toNat : Nat) : Int) = c from by omega]
  unfold ptC
  rw [if_pos hpl]
  unfold pt1
  rw [ed, ec, eb]
  generalize hs0 : up σ (61 + d.toNat) c.toNat x = s0
  have s0k : ∀ k, k ≠ 61 + d.toNat → s0 k = σ k := fun k hk => by rw [← hs0]; exact up_r _ _ _ hk
  have t1k : ∀ k, k ≠ 55 ∧ k ≠ 58 ∧ k ≠ 59 → taC s0 d (dA τ d c) (-1) k = s0 k := fun k hk => taC_k hk
  have hd14 : 0 ≤ d ∧ d < 14 := ⟨hd.1, by omega⟩
  obtain ⟨u1, u2, u3, u4⟩ := taC_v (a := s0) (N := τ 84 15) (d := d) (y := dA τ d c) (m := -1) (by rw [s0k 12 (by omega)]; exact e12) hN hb hd14
  generalize hta0 : taC s0 d (dA τ d c) (-1) = s2 at *
  have s2k : ∀ k, k ≠ 55 ∧ k ≠ 58 ∧ k ≠ 59 → s2 k = s0 k := t1k
  obtain ⟨v1, v2, v3, v4⟩ := taC_v (a := s2) (N := τ 84 15) (d := d) (y := x) (m := 1) (by rw [s2k 12 (by decide), s0k 12 (by omega)]; exact e12) hN hx hd14
  have t2k : ∀ k, k ≠ 55 ∧ k ≠ 58 ∧ k ≠ 59 → taC s2 d x 1 k = s2 k := fun k hk => taC_k hk
  generalize htb0 : taC s2 d x 1 = s1 at *
  have s1k : ∀ k, ¬ mnK k → s1 k = σ k := fun k hk => by
    unfold mnK at hk
    rw [t2k k (by omega), s2k k (by omega), s0k k (by omega)]
  have hRPs1 : RP s1 τ := by
    have q : ∀ k, ¬ mnK k → s1 k = σ k := s1k
    unfold RP
    rw [q 10 (by unfold mnK; omega), q 12 (by unfold mnK; omega), q 14 (by unfold mnK; omega), q 16 (by unfold mnK; omega), q 18 (by unfold mnK; omega), q 9 (by unfold mnK; omega), q 23 (by unfold mnK; omega), q 24 (by unfold mnK; omega), q 25 (by unfold mnK; omega), q 13 (by unfold mnK; omega), q 26 (by unfold mnK; omega), q 27 (by unfold mnK; omega), q 28 (by unfold mnK; omega), q 29 (by unfold mnK; omega), q 30 (by unfold mnK; omega), q 17 (by unfold mnK; omega), q 32 (by unfold mnK; omega), q 33 (by unfold mnK; omega), q 19 (by unfold mnK; omega), q 20 (by unfold mnK; omega), q 21 (by unfold mnK; omega), q 22 (by unfold mnK; omega)]
    refine ⟨h1.1, hfo, fun j hj => ?_, hta, hch, hru⟩
    obtain ⟨z1, z2, z3, z4, z5, z6, z7⟩ := hdi j hj
    refine ⟨z1, z2, z3, z4, z5, z6, fun f hf => ?_⟩
    rw [q (34 + j) (by unfold mnK; omega)]; exact z7 f hf
  have w55 : s1 55 6 = τ 84 39 := by rw [v1, u1, s0k 55 (by omega)]; exact m1
  have w57 : s1 55 7 = gapV (mp τ d c x) := by
    rw [v2, u2, s0k 55 (by omega), m3, gapV_mp hP hd hc hx]
    (repeat' split) <;> omega
  have w59 : ∀ y : Nat, (y : Int) < τ 84 15 → s1 59 y = tiV (mp τ d c x) y := by
    intro y hy
    rw [v3, u3, s0k 59 (by omega), m6 y hy, tiV_mp hP hd hc hx]
    (repeat' split) <;> omega
  have w58 : ∀ j : Nat, (j : Int) < τ 84 39 → s1 58 j = suV2 (mp τ d c x) j false := by
    intro j hj
    rw [v4, u4, s0k 58 (by omega), m5 j hj, suV2_mp hP hd hc hx false (by omega), s2k 27 (by decide), s0k 27 (by omega)]
    by_cases z : (j : Int) = d
    · rw [if_pos z, if_pos z, if_pos z, z]
      have p1 : (if dA τ d c = -1 then 0 else -1 * σ 27 (dA τ d c).toNat) = - pe τ false (dA τ d c) := by
        unfold pe
        by_cases zb : dA τ d c = -1
        · rw [if_pos zb, if_pos zb]; rfl
        · rw [if_neg zb, if_neg zb, if_neg (by decide), (hdi (dA τ d c).toNat (by omega)).2.2.1, show (((dA τ d c).toNat : Nat) : Int) = dA τ d c from by omega]; omega
      have p2 : (if x = -1 then 0 else 1 * σ 27 x.toNat) = pe τ false x := by
        unfold pe
        by_cases zb : x = -1
        · rw [if_pos zb, if_pos zb]
        · rw [if_neg zb, if_neg zb, if_neg (by decide), (hdi x.toNat (by omega)).2.2.1, show ((x.toNat : Nat) : Int) = x from by omega]; omega
      rw [p1, p2]; omega
    · rw [if_neg z, if_neg z, if_neg z]; omega
  have w60 : s1 60 = σ 60 := by rw [t2k 60 (by decide), s2k 60 (by decide), s0k 60 (by omega)]
  have w75 : ∀ r : Nat, (r : Int) < 8 → s1 (75 + r) = σ (75 + r) := fun r hr => by rw [t2k _ (by omega), s2k _ (by omega), s0k _ (by omega)]
  have J0 : PtJ τ (mp τ d c x) s1 d x (dA τ d c) 0 s1 := ⟨fun _ _ _ => rfl, fun r j h => by omega, fun _ _ _ => rfl, fun r h => by omega, fun _ _ => rfl⟩
  have J := pt_loop hP hG hd hc hx hRPs1 w55 (fun r j hr hj => by rw [w75 r (by omega)]; exact m4 r j hr hj) w58 (fun r hr => by rw [w60]; exact m7 r hr) 8 0 s1 (Int.le_refl _) hR.1 (by omega) (by omega) J0
  generalize fG (fun i a => decide (i < i32 (a 18 4) ∧ i < 8)) (ptG d x (dA τ d c)) 8 0 s1 = z at J
  have zk : ∀ k, ¬ mnK k → z k = σ k := fun k hk => by
    have hk2 := hk
    unfold mnK at hk2
    rw [J.off k (by omega) (by omega)]; exact s1k k hk
  refine ⟨?_, ⟨?_, fun d2 c2 hd2 hc2 => ?_, ?_, fun r j hr hj => ?_, fun j hj => ?_, fun y hy => ?_, fun r hr => ?_⟩, zk⟩
  · have q := zk
    show RP z τ
    unfold RP
    rw [q 10 (by unfold mnK; omega), q 12 (by unfold mnK; omega), q 14 (by unfold mnK; omega), q 16 (by unfold mnK; omega), q 18 (by unfold mnK; omega), q 9 (by unfold mnK; omega), q 23 (by unfold mnK; omega), q 24 (by unfold mnK; omega), q 25 (by unfold mnK; omega), q 13 (by unfold mnK; omega), q 26 (by unfold mnK; omega), q 27 (by unfold mnK; omega), q 28 (by unfold mnK; omega), q 29 (by unfold mnK; omega), q 30 (by unfold mnK; omega), q 17 (by unfold mnK; omega), q 32 (by unfold mnK; omega), q 33 (by unfold mnK; omega), q 19 (by unfold mnK; omega), q 20 (by unfold mnK; omega), q 21 (by unfold mnK; omega), q 22 (by unfold mnK; omega)]
    refine ⟨h1.1, hfo, fun j hj => ?_, hta, hch, hru⟩
    obtain ⟨z1, z2, z3, z4, z5, z6, z7⟩ := hdi j hj
    refine ⟨z1, z2, z3, z4, z5, z6, fun f hf => ?_⟩
    rw [q (34 + j) (by unfold mnK; omega)]; exact z7 f hf
  · rw [J.off 55 (by decide) (by omega)]; exact w55
  · have hd2 : (d2 : Int) < τ 84 39 := hd2
    have hc2 : (c2 : Int) < τ 84 25 := hc2
    rw [J.off (61 + d2) (by omega) (by omega), t2k _ (by omega), s2k _ (by omega), dA_mp hd.1 ⟨hc.1, by omega⟩ (by omega) ⟨by omega, by omega⟩]
    by_cases e : (d2 : Int) = d
    · have e2 : 61 + d2 = 61 + d.toNat := by omega
      rw [e2, ← hs0, up_at]
      by_cases e3 : (c2 : Int) = c
      · rw [if_pos (by omega), if_pos ⟨e, e3⟩]
      · rw [if_neg (by omega), if_neg (fun q => e3 q.2), ← e2]; exact m2 d2 c2 hd2 hc2
    · rw [s0k _ (by omega), if_neg (fun q => e q.1)]; exact m2 d2 c2 hd2 hc2
  · rw [J.off 55 (by decide) (by omega)]; exact w57
  · exact J.row r j hr hj
  · rw [J.off 58 (by decide) (by omega)]; exact w58 j hj
  · rw [J.off 59 (by decide) (by omega)]; exact w59 y hy
  · exact J.fs r hr
end S55
