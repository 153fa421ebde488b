/-! planning, changing, exchanging: side by side -/
section S57
variable {σ τ : Sg}
theorem RP_fr {z : Sg} (hN : τ 84 15 ≤ 16) (h1 : RP σ τ) (q : ∀ k, ¬ mnK k → z k = σ k) : RP z τ := by
  obtain ⟨-, hfo, hdi, hta, hch, hru⟩ := id h1
  unfold RP
  rw [q 10 (by unfold mnK; omega), q 12 (by unfold mnK; omega), q 14 (by unfold mnK; omega), q 16 (by unfold mnK; omega), q 18 (by unfold mnK; omega), q 9 (by unfold mnK; omega), q 23 (by unfold mnK; omega), q 24 (by unfold mnK; omega), q 25 (by unfold mnK; omega), q 13 (by unfold mnK; omega), q 26 (by unfold mnK; omega), q 27 (by unfold mnK; omega), q 28 (by unfold mnK; omega), q 29 (by unfold mnK; omega), q 30 (by unfold mnK; omega), q 17 (by unfold mnK; omega), q 32 (by unfold mnK; omega), q 33 (by unfold mnK; omega), q 19 (by unfold mnK; omega), q 20 (by unfold mnK; omega), q 21 (by unfold mnK; omega), q 22 (by unfold mnK; omega)]
  refine ⟨h1.1, hfo, fun j hj => ?_, hta, hch, hru⟩
  obtain ⟨z1, z2, z3, z4, z5, z6, z7⟩ := hdi j hj
  refine ⟨z1, z2, z3, z4, z5, z6, fun f hf => ?_⟩
  rw [q (34 + j) (by unfold mnK; omega)]; exact z7 f hf
/-- class and reference agree on the rows and on the menu; off the menu the class is as s0 -/
def RX (s0 σ τ : Sg) : Prop := PI τ ∧ RuG τ ∧ RP σ τ ∧ RM σ τ ∧ ∀ k, ¬ mnK k → σ k = s0 k
theorem RX.put {s0 σ τ : Sg} (h : RX s0 σ τ) {d c x : Int} (hd : 0 ≤ d ∧ d < τ 84 39) (hc : 0 ≤ c ∧ c < τ 84 25) (hx : -1 ≤ x ∧ x < τ 84 15) : RX s0 (ptC σ d c x) (mp τ d c x) := by
  obtain ⟨hP, hG, h1, h2, h3⟩ := h
  obtain ⟨k1, k2, k3⟩ := put_ok hP hG h1 h2 hd hc hx
  exact ⟨PI_mp hP hx, RuG_mp hG d c x, k1, k2, fun k hk => (k3 k hk).trans (h3 k hk)⟩
theorem mp_mp (τ : Sg) (d c x y : Int) : mp (mp τ d c x) d c y = mp τ d c y := up_up τ 111 _ x y
theorem mp_self (τ : Sg) (d c : Int) : mp τ d c (dA τ d c) = τ := up_self τ 111 _
theorem ft_i32 {s0 : Sg} (h : RX s0 σ τ) : ftC σ = hfV τ ∧ i32 (ftC σ) = hfV τ := by
  have e := ft_e h.1 h.2.2.1 h.2.2.2.1
  exact ⟨e, by rw [e]; exact hfV_i32 τ⟩
theorem af_i32 {s0 : Sg} (h : RX s0 σ τ) : afC σ = afV τ ∧ i32 (afC σ) = afV τ := by
  have e := af_e h.1 h.2.2.1 h.2.2.2.1
  exact ⟨e, by rw [e]; exact afV_i32 τ⟩
theorem times_e {s0 : Sg} (h : RX s0 σ τ) {x : Int} (hx : 0 ≤ x ∧ x < τ 84 15) : i32 (σ 59 x.toNat) = tiV τ x := by
  rw [h.2.2.2.1.2.2.2.2.2.1 x.toNat (by omega), show ((x.toNat : Nat) : Int) = x from by omega]
  exact tiV_i32 x
theorem bf_ok {s0 : Sg} (h : RX s0 σ τ) {d c : Int} (hd : 0 ≤ d ∧ d < τ 84 39) (hc : 0 ≤ c ∧ c < τ 84 25) (hn : dA τ d c = -1) : (bfC σ d c).1 = pnV τ d c ∧ RX s0 (bfC σ d c).2 τ := by
  have hN := h.1.1.2.1
  have hw := ft_i32 h
  unfold bfC pnV
  have := sim_loop (N := τ 84 15) (c := fun i (q : Int × Sg) => decide (i < i32 (q.2 12 2) ∧ i < 16)) (g := bfG d c (ftC σ)) (h := pnG τ d c (hfV τ)) (fun i (a : Int × Sg) (b : Int) => a.1 = b ∧ RX s0 a.2 τ ∧ -1 ≤ b ∧ b < τ 84 15 ∧ b < i) (fun i a b i0 i1 hp => by
    obtain ⟨e1, hX, hb0, hb1, hb2⟩ := hp
    obtain ⟨a1, a2⟩ := a
    have e1 : a1 = b := e1
    have hX : RX s0 a2 τ := hX
    subst e1
    have hs := suit_e hX.1 hX.2.2.1 hc (x := i) ⟨i0, i1⟩
    have ht := times_e hX (x := i) ⟨i0, i1⟩
    unfold bfG pnG
    by_cases c1 : iand (ishr (τ 102 c.toNat) i) 1 = 0
    · rw [if_neg (by dsimp only; rw [hs, decide_eq_false (fun z => z c1)]; exact fun z => absurd z.1 (by decide)), if_pos c1]
      exact ⟨rfl, hX, hb0, hb1, by omega⟩
    · rw [if_neg c1]
      have hX1 := hX.put hd hc (x := i) ⟨by omega, i1⟩
      have hX2 := hX1.put (x := -1) hd hc ⟨by omega, by show (-1 : Int) < τ 84 15; omega⟩
      rw [mp_mp, show mp τ d c (-1) = τ from by rw [← hn]; exact mp_self τ d c] at hX2
      have hf := (ft_i32 hX1).2
      by_cases c2 : a1 = -1 ∨ tiV τ i < tiV τ a1
      · rw [if_pos (by
          dsimp only
          refine ⟨by rw [hs, decide_eq_true c1], ?_⟩
          rcases c2 with c2 | c2
          · exact Or.inl c2
          · by_cases z : a1 = -1
            · exact Or.inl z
            · right; rw [ht, times_e hX ⟨by omega, hb1⟩]; exact c2)]
        dsimp only
        rw [hf, hw.2]
        by_cases c3 : hfV (mp τ d c i) ≤ hfV τ
        · rw [if_pos c3, if_pos c3]
          have e : (if a1 = -1 then i else if tiV τ i < tiV τ a1 then i else a1) = i := by
            by_cases z : a1 = -1
            · rw [if_pos z]
            · rw [if_neg z, if_pos (by omega)]
          rw [e]
          exact ⟨rfl, hX2, by omega, i1, by omega⟩
        · rw [if_neg c3, if_neg c3]
          exact ⟨rfl, hX2, hb0, hb1, by omega⟩
      · rw [if_neg (by
          dsimp only
          intro z
          rcases z.2 with z | z
          · exact c2 (Or.inl z)
          · by_cases z2 : a1 = -1
            · exact c2 (Or.inl z2)
            · rw [ht, times_e hX ⟨by omega, hb1⟩] at z; exact c2 (Or.inr z))]
        have e : (if hfV (mp τ d c i) ≤ hfV τ then (if a1 = -1 then i else if tiV τ i < tiV τ a1 then i else a1) else a1) = a1 := by
          split
          · rw [if_neg (fun z => c2 (Or.inl z)), if_neg (fun z => c2 (Or.inr z))]
          · rfl
        rw [e]
        exact ⟨rfl, hX, hb0, hb1, by omega⟩)
    (fun i a b i0 hp => by
      rw [hp.2.1.2.2.1.1.2.1, i32_n _ (by omega)]
      by_cases z : i < τ 84 15
      · rw [decide_eq_true z]; exact decide_eq_true ⟨z, by omega⟩
      · rw [decide_eq_false z]; exact decide_eq_false (fun y => z y.1))
    16 16 0 (-1, σ) (-1) (Int.le_refl _) hN.1 (by omega) (by omega) ⟨rfl, h, by omega, by omega, by omega⟩
  exact ⟨this.1, this.2.1⟩
theorem BIG_le {N : Int} (h : N ≤ 1000) : N ≤ 0 + (BIG : Nat) := by have := BIG_0; omega
/-- the plan -/
theorem fl_ok {s0 a t : Sg} {D : Int} (hD : 1 ≤ D ∧ D ≤ 14) (h : RX s0 a t) (hJ : PJ (t 84 25) D 0 t) : RX s0 (fG (fun i (a : Sg) => decide (i < i32 (a 55 6))) flm2 BIG 0 a) (fW D (plH (t 84 25)) 14 0 t) := by
  have hC := h.1.1.2.2.2.1
  have step : ∀ (d c : Int) (x y : Sg), 0 ≤ d → d < D → 0 ≤ c → c < t 84 25 → RX s0 x y → PJ (t 84 25) D (8 * d + c) y → RX s0 (flm1 d c x) (plG d c y) := by
    intro d c x y d0 d1 c0 c1 hx hj
    have hd : 0 ≤ d ∧ d < y 84 39 := ⟨d0, by rw [hj.2.2.1]; exact d1⟩
    have hc : 0 ≤ c ∧ c < y 84 25 := ⟨c0, by rw [hj.2.1]; exact c1⟩
    have hn : dA y d c = -1 := by unfold dA; exact hj.2.2.2 _ (by omega) (by omega)
    have hb := bf_ok hx hd hc hn
    unfold flm1
    rw [hb.1]
    exact hb.2.put hd hc (pnV_bd hx.1 d c)
  have row : ∀ (d : Int) (x y : Sg), 0 ≤ d → d < D → RX s0 x y → PJ (t 84 25) D (8 * d) y → RX s0 (flm2 d x) (plH (t 84 25) d y) := by
    intro d x y d0 d1 hx hj
    unfold flm2 plH
    exact (sim_loop (N := t 84 25) (fun i a b => RX s0 a b ∧ PJ (t 84 25) D (8 * d + i) b) (fun i a b i0 i1 hp => ⟨step d i a b d0 d1 i0 i1 hp.1 hp.2, PJ_step hp.2 (by omega)⟩)
      (fun i a b i0 hp => by rw [hp.1.2.2.1.1.2.2.2.2.2, hp.2.2.1, i32_n _ (by omega)]) BIG 8 0 x y (Int.le_refl _) hC.1 (BIG_le (by omega)) (by omega) ⟨hx, hj.mono (by omega)⟩).1
  exact (sim_loop (N := D) (fun i a b => RX s0 a b ∧ PJ (t 84 25) D (8 * i) b) (fun i a b i0 i1 hp => ⟨row i a b i0 i1 hp.1 hp.2, PJ_row i0 hp.2⟩)
      (fun i a b i0 hp => by rw [hp.1.2.2.2.1.1, hp.2.2.2.1, i32_n _ (by omega)]) BIG 14 0 a t (Int.le_refl _) (by omega) (BIG_le (by omega)) (by omega) ⟨h, hJ⟩).1
theorem RP_no (h : RP σ τ) (n : Int) : RP σ (up τ 84 0 n) := h
theorem RM_no (h : RM σ τ) (n : Int) : RM σ (up τ 84 0 n) := h
theorem RX_no {s0 : Sg} (h : RX s0 σ τ) (n : Int) : RX s0 σ (up τ 84 0 n) := h
theorem plan_ok (hP : PI τ) (hG : RuG τ) (h1 : RP σ τ) {d : Int} (hd : 1 ≤ d ∧ d ≤ 14) : RX σ (flmC σ d) (plT τ d) := by
  have J0 := PJ_0 hP hd
  have e := fun k h => plF_r τ d (k := k) h
  have e84 : plF τ d 84 = up (up τ 84 0 0) 84 39 d 84 := e 84 (by decide)
  have hPF := J0.1
  have h1F : RP σ (plF τ d) := by
    unfold RP
    unfold enR pcR mtV tgV tgG
    rw [e84, e 90 (by decide), e 91 (by decide), e 92 (by decide), e 93 (by decide), e 94 (by decide), e 95 (by decide), e 96 (by decide), e 97 (by decide), e 98 (by decide), e 99 (by decide), e 110 (by decide), e 101 (by decide), e 102 (by decide), e 105 (by decide), e 106 (by decide), e 107 (by decide), e 108 (by decide), e 109 (by decide)]
    exact h1
  have hGF : RuG (plF τ d) := by
    unfold RuG
    rw [e84, e 105 (by decide), e 106 (by decide), e 107 (by decide)]
    exact hG
  have hb := bg_ok hPF hGF h1F (fun a b a0 a1 b0 b1 => by
    have hC := hPF.1.2.2.2.1
    have hD := hPF.2.2.2.1
    unfold dA; exact J0.2.2.2 _ (by omega) (by omega))
  rw [J0.2.2.1] at hb
  have := fl_ok (s0 := σ) (a := bgC σ d) (t := plF τ d) (D := d) hd ⟨hPF, hGF, hb.1, hb.2.1, hb.2.2⟩ (by rw [J0.2.1]; exact J0)
  rw [J0.2.1] at this
  exact this
end S57
