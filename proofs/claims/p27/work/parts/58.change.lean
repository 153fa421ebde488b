/-! the best change, the exchange, a dish set: side by side -/
section S58
variable {σ τ : Sg}
theorem IMQ_i {q : I3} (h : IMQ τ q) : i32 q.1 = q.1 := i32_n _ (by have := h.1; omega)
theorem bi_ok {s0 : Sg} (h : RX s0 σ τ) {d c : Int} {q : I3} (hq : IMQ τ q) (hd : 0 ≤ d ∧ d < τ 84 39) (hc : 0 ≤ c ∧ c < τ 84 25) :
    (biC σ d c q.1).1 = (imH τ d c q).1 ∧ (∃ y : Int, (-1 ≤ y ∧ y < τ 84 15) ∧ RX s0 (biC σ d c q.1).2.2 (mp τ d c y)) ∧
    (((biC σ d c q.1).2.1 = -1 ∧ imH τ d c q = q) ∨ ((0 ≤ (biC σ d c q.1).2.1 ∧ (biC σ d c q.1).2.1 < τ 84 15) ∧ imH τ d c q = (afV (mp τ d c (biC σ d c q.1).2.1), 8 * d + c, (biC σ d c q.1).2.1))) := by
  have hP := h.1
  have hN := hP.1.2.1
  have hb := hP.dA hd hc
  unfold biC imH
  have := sim_loop (N := τ 84 15) (c := fun i (q : Int × Int × Sg) => decide (i < i32 (q.2.2 12 2))) (g := biG d c) (h := imG τ d c) (fun i (a : Int × Int × Sg) (b : I3) => a.1 = b.1 ∧ IMQ τ b ∧ (∃ y : Int, (-1 ≤ y ∧ y < τ 84 15) ∧ RX s0 a.2.2 (mp τ d c y)) ∧ ((a.2.1 = -1 ∧ b = q) ∨ ((0 ≤ a.2.1 ∧ a.2.1 < τ 84 15) ∧ b = (afV (mp τ d c a.2.1), 8 * d + c, a.2.1)))) (fun i a b i0 i1 hp => by
    obtain ⟨e1, hI, ⟨y, hy, hX⟩, hor⟩ := hp
    obtain ⟨a1, a2, a3⟩ := a
    have e1 : a1 = b.1 := e1
    have hX : RX s0 a3 (mp τ d c y) := hX
    have hI2 := IMQ_G hP hd hc ⟨i0, i1⟩ hI
    have hs := suit_e hX.1 hX.2.2.1 (c := c) (x := i) hc ⟨i0, i1⟩
    have hs : suitC a3 c i = decide (¬ iand (ishr (τ 102 c.toNat) i) 1 = 0) := hs
    unfold biG
    by_cases c1 : iand (ishr (τ 102 c.toNat) i) 1 = 0
    · rw [imG_a c1] at hI2 ⊢
      rw [if_neg (by dsimp only; rw [hs, decide_eq_false (fun z => z c1)]; decide)]
      exact ⟨e1, hI, ⟨y, hy, hX⟩, hor⟩
    · rw [if_pos (by dsimp only; rw [hs, decide_eq_true c1])]
      have hX1 := hX.put (d := d) (c := c) (x := i) hd hc ⟨by omega, i1⟩
      rw [mp_mp] at hX1
      have hf := af_i32 hX1
      dsimp only
      obtain ⟨b1, b2, b3⟩ := b
      have e1 : a1 = b1 := e1
      subst e1
      have ei : i32 a1 = a1 := IMQ_i hI
      rw [hf.2, hf.1, ei]
      by_cases c2 : afV (mp τ d c i) < a1
      · rw [if_pos c2]
        rw [imG_b c1 c2] at hI2 ⊢
        exact ⟨rfl, hI2, ⟨i, ⟨by omega, i1⟩, hX1⟩, Or.inr ⟨⟨i0, i1⟩, rfl⟩⟩
      · rw [if_neg c2]
        rw [imG_c c1 (show a1 ≤ afV (up τ 111 (8 * d + c).toNat i) from Int.not_lt.mp c2)] at hI2 ⊢
        exact ⟨rfl, hI, ⟨i, ⟨by omega, i1⟩, hX1⟩, hor⟩)
    (fun i a b i0 hp => by
      obtain ⟨-, -, ⟨y, hy, hX⟩, -⟩ := hp
      rw [hX.2.2.1.1.2.1]
      show decide (i < i32 (τ 84 15)) = _
      rw [i32_n _ (by omega)])
    BIG 16 0 (q.1, -1, σ) q (Int.le_refl _) hN.1 (BIG_le (by omega)) (by omega) ⟨rfl, hq, ⟨dA τ d c, hb, by rw [mp_self]; exact h⟩, Or.inl ⟨rfl, rfl⟩⟩
  exact ⟨this.1, this.2.2.1, this.2.2.2⟩
def CbR (s0 τ : Sg) (a : T5) (b : I3) : Prop := RX s0 a.2.2.2.2 τ ∧ a.1 = b.1 ∧ IMQ τ b ∧ ((b.2.1 = -1 ∧ a.2.1 = -1 ∧ b.1 = afV τ) ∨ ((0 ≤ a.2.1 ∧ a.2.1 < τ 84 39) ∧ (0 ≤ a.2.2.1 ∧ a.2.2.1 < τ 84 25) ∧ (0 ≤ a.2.2.2.1 ∧ a.2.2.2.1 < τ 84 15) ∧ b = (afV (mp τ a.2.1 a.2.2.1 a.2.2.2.1), 8 * a.2.1 + a.2.2.1, a.2.2.2.1)))
theorem cb1_ok {s0 : Sg} {d c : Int} (hd : 0 ≤ d ∧ d < τ 84 39) (hc : 0 ≤ c ∧ c < τ 84 25) {a : T5} {b : I3} (h : CbR s0 τ a b) : CbR s0 τ (cb1 d c a) (imH τ d c b) := by
  obtain ⟨hX, e1, hI, hor⟩ := h
  have hP := hX.1
  have hb := hP.dA hd hc
  have hdo := dOn_e hP hX.2.2.1 hX.2.2.2.1 hd hc
  have hI2 := IMQ_H hP hd hc hI
  have hbi := bi_ok hX hI hd hc
  rw [← e1] at hbi
  obtain ⟨k1, ⟨y, hy, hY⟩, k3⟩ := hbi
  unfold cb1 cbA
  rw [hdo]
  generalize biC a.2.2.2.2 d c a.1 = r at k1 hY k3 ⊢
  obtain ⟨r1, r2, r3⟩ := r
  have k1 : r1 = (imH τ d c b).1 := k1
  have hY : RX s0 r3 (mp τ d c y) := hY
  dsimp only at k3 ⊢
  have hN := hP.1.2.1
  rcases k3 with ⟨g1, g2⟩ | ⟨g1, g2⟩
  · rw [g1, if_pos (show i32 (-1) = -1 from em1), g2]
    have hZ := hY.put (d := d) (c := c) (x := dA τ d c) hd hc hb
    rw [mp_mp, mp_self] at hZ
    exact ⟨hZ, e1, hI, hor⟩
  · rw [if_neg (by rw [i32_n r2 (by omega)]; omega)]
    have hW := hY.put (d := d) (c := c) (x := r2) hd hc ⟨by omega, g1.2⟩
    rw [mp_mp] at hW
    have hZ := hW.put (d := d) (c := c) (x := dA τ d c) hd hc hb
    rw [mp_mp, mp_self] at hZ
    rw [g2] at hI2 ⊢
    exact ⟨hZ, (af_i32 hW).1, hI2, Or.inr ⟨hd, hc, g1, rfl⟩⟩
def imS (τ : Sg) : Sg := if (imT τ).2.1 = -1 then τ else up τ 111 (imT τ).2.1.toNat (imT τ).2.2
theorem imp_ok {s0 : Sg} (h : RX s0 σ τ) : RX s0 (cbC σ) (imS τ) ∧ afC (cbC σ) = (imT τ).1 := by
  have hP := h.1
  have hC := hP.1.2.2.2.1
  have hD := hP.2.2.2.1
  have row : ∀ (d : Int) (a : T5) (b : I3), 0 ≤ d → d < τ 84 39 → CbR s0 τ a b → CbR s0 τ (cb2 d a) (imJ τ d b) := by
    intro d a b d0 d1 hp
    exact sim_loop (N := τ 84 25) (fun i a b => CbR s0 τ a b) (fun i a b i0 i1 hp => cb1_ok ⟨d0, d1⟩ ⟨i0, i1⟩ hp) (fun i a b i0 hp => by rw [hp.1.2.2.1.1.2.2.2.2.2, i32_n _ (by omega)]) BIG 8 0 a b (Int.le_refl _) hC.1 (BIG_le (by omega)) (by omega) hp
  have all := sim_loop (N := τ 84 39) (c := fun i (q : T5) => decide (i < i32 (q.2.2.2.2 55 6))) (g := cb2) (h := imJ τ) (fun i a b => CbR s0 τ a b) (fun i a b i0 i1 hp => row i a b i0 i1 hp) (fun i a b i0 hp => by rw [hp.1.2.2.2.1.1, i32_n _ (by omega)]) BIG 14 0 (afC σ, -1, -1, -1, σ) (afV τ, -1, -1) (Int.le_refl _) hD.1 (BIG_le (by omega)) (by omega) ⟨h, (af_i32 h).1, ⟨afV_bd, Or.inl ⟨rfl, rfl⟩⟩, Or.inl ⟨rfl, rfl, rfl⟩⟩
  have all : CbR s0 τ (cb3 σ) (imT τ) := all
  unfold cbC imS
  generalize cb3 σ = a at all
  generalize imT τ = b at all
  obtain ⟨hX, e1, hI, hor⟩ := all
  rcases hor with ⟨g1, g2, g3⟩ | ⟨g1, g2, g3, g4⟩
  · rw [if_pos g1, g2]
    have e : ptC a.2.2.2.2 (-1) a.2.2.1 a.2.2.2.1 = a.2.2.2.2 := by
      unfold ptC
      rw [if_neg]
      unfold hasPl hasDy
      rw [show i32 (-1) = -1 from em1]
      simp
    rw [e]
    exact ⟨hX, by rw [(af_i32 hX).1, g3]⟩
  · have hZ := hX.put g1 g2 (x := a.2.2.2.1) ⟨by omega, g3.2⟩
    have hb := (mp τ a.2.1 a.2.2.1 a.2.2.2.1)
    rw [g4]
    dsimp only
    rw [if_neg (by omega)]
    exact ⟨hZ, (af_i32 hZ).1⟩
theorem exc_ok {s0 : Sg} (h : RX s0 σ τ) {a b : Int} (ha : 0 ≤ a ∧ a < τ 84 39) (hb : 0 ≤ b ∧ b < τ 84 39) : RX s0 (xcT σ a b) (fW (τ 84 25) (exG a b) 8 0 τ) := by
  have hC := h.1.1.2.2.2.1
  exact (sim_loop (N := τ 84 25) (c := fun i (q : Sg) => decide (i < i32 (q 9 16))) (g := xcG a b) (h := exG a b) (fun i x y => RX s0 x y ∧ y 84 25 = τ 84 25 ∧ y 84 39 = τ 84 39 ∧ y 84 15 = τ 84 15) (fun i x y i0 i1 hp => by
    obtain ⟨hX, e1, e2, e3⟩ := hp
    have ha2 : 0 ≤ a ∧ a < y 84 39 := by rw [e2]; exact ha
    have hb2 : 0 ≤ b ∧ b < y 84 39 := by rw [e2]; exact hb
    have hi : 0 ≤ i ∧ i < y 84 25 := by rw [e1]; exact ⟨i0, i1⟩
    have d1 := dOn_e hX.1 hX.2.2.1 hX.2.2.2.1 ha2 hi
    have d2 := dOn_e hX.1 hX.2.2.1 hX.2.2.2.1 hb2 hi
    refine ⟨?_, e1, e2, e3⟩
    unfold xcG
    rw [d1, d2]
    exact (hX.put ha2 hi (hX.1.dA hb2 hi)).put (τ := mp y a i (dA y b i)) hb2 hi (hX.1.dA ha2 hi)) (fun i x y i0 hp => by rw [hp.1.2.2.1.1.2.2.2.2.2, hp.2.1, i32_n _ (by omega)]) BIG 8 0 σ τ (Int.le_refl _) hC.1 (BIG_le (by omega)) (by omega) ⟨h, rfl, rfl, rfl⟩).1
end S58
