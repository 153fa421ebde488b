/-! feed and trim, side by side -/
section S72
variable {σ τ : Sg}
theorem by_255 (v : BitVec 32) : (v.signExtend 8).signExtend 32 &&& 255#32 = v &&& 255#32 := by
  apply BitVec.eq_of_getLsbD_eq
  intro i hi
  rw [BitVec.getLsbD_and, BitVec.getLsbD_and, BitVec.getLsbD_signExtend]
  have h255 : ∀ i : Nat, i < 32 → (255#32).getLsbD i = decide (i < 8) := by decide
  rw [h255 i hi]
  by_cases c : i < 8
  · rw [BitVec.getLsbD_signExtend]
    simp [c, hi]
  · simp [c]
theorem i2b_255 (x : Int) : iand (i2b x) 255 = iand x 255 := by
  unfold iand
  have e1 : I32 (i2b x) = (I32 x).toInt8.toInt32 := I32_of _
  rw [e1]
  have e2 : ((I32 x).toInt8.toInt32 &&& I32 255) = (I32 x &&& I32 255) := by
    apply Int32.toBitVec_inj.1
    rw [Int32.toBitVec_and, Int32.toBitVec_and]
    exact by_255 (I32 x).toBitVec
  rw [e2]
theorem iand_255 (x : Int) : 0 ≤ iand x 255 ∧ iand x 255 ≤ 255 := by
  unfold iand
  show 0 ≤ ((I32 x).toBitVec &&& 255#32).toInt ∧ ((I32 x).toBitVec &&& 255#32).toInt ≤ 255
  have h : ((I32 x).toBitVec &&& 255#32).toNat ≤ 255 := by
    rw [BitVec.toNat_and]
    exact Nat.and_le_right
  have e : ((I32 x).toBitVec &&& 255#32).toInt = ((I32 x).toBitVec &&& 255#32).toNat := BitVec.toInt_eq_toNat_of_lt (by omega)
  rw [e]
  omega
/-- one byte more -/
theorem by_1 {x sh : Int} (hb : Rb τ) (hS : ByS σ τ) (hl : τ 84 2 < 1500) : ByS (tpA σ x sh) (up (up τ 85 (τ 84 2).toNat (iand (ishr x sh) 255)) 84 2 (τ 84 2 + 1)) ∧ Rb (up (up τ 85 (τ 84 2).toNat (iand (ishr x sh) 255)) 84 2 (τ 84 2 + 1)) ∧ ∀ k, k ≠ 1 ∧ k ≠ 2 → tpA σ x sh k = σ k := by
  obtain ⟨h1, h2⟩ := hb
  have e11 : σ 1 1 = τ 84 2 := hS.1
  have ei : i32 (τ 84 2) = τ 84 2 := i32_n _ (by omega)
  have et : tpA σ x sh = up (up σ 2 (τ 84 2).toNat (i2b (i2b (ishr x sh)))) 1 1 (τ 84 2 + 1) := by
    unfold tpA
    rw [e11, ei, if_pos ⟨h1.1, hl⟩]
  have hbyte := iand_255 (ishr x sh)
  refine ⟨⟨?_, fun p p0 p1 => ?_⟩, ⟨?_, fun j => ?_⟩, fun k hk => ?_⟩
  · rw [et, up_s, up_s]
  · have eby : ∀ (s : Sg) (q : Int), 0 ≤ q → q ≤ 1500 → byteC s q = if q < i32 (s 1 1) ∧ q < 1500 then iand (s 2 q.toNat) 255 else -1 := fun s q q0 q1 => by
      unfold byteC
      rw [i32_n q (by omega)]
      by_cases c : q < i32 (s 1 1) ∧ q < 1500
      · rw [if_pos ⟨q0, c⟩, if_pos c]
      · rw [if_neg (fun w => c w.2), if_neg c]
    have h0 := hS.2 p p0 p1
    rw [eby _ _ p0 p1] at h0 ⊢
    rw [e11, ei] at h0
    rw [et, up_s, i32_n (τ 84 2 + 1) (by omega), up_k _ _ (by decide)]
    unfold bR at h0 ⊢
    rw [up_s, up_k (k := 84) (a := 85) _ _ (by decide), up_at, up_at]
    by_cases c : p = τ 84 2
    · have q1 : p < τ 84 2 + 1 ∧ p < 1500 := ⟨by omega, by omega⟩
      have qe : p.toNat = (τ 84 2).toNat := by rw [c]
      rw [if_pos q1, if_pos q1.1, if_pos qe, if_pos qe, i2b_255, i2b_255]
    · by_cases c2 : p < τ 84 2
      · have q0 : p < τ 84 2 ∧ p < 1500 := ⟨c2, by omega⟩
        have q1 : p < τ 84 2 + 1 ∧ p < 1500 := ⟨by omega, by omega⟩
        have qe : ¬ p.toNat = (τ 84 2).toNat := by omega
        rw [if_pos q0, if_pos c2] at h0
        rw [if_pos q1, if_pos q1.1, if_neg qe, if_neg qe]
        exact h0
      · have q1 : ¬ (p < τ 84 2 + 1 ∧ p < 1500) := by omega
        have q2 : ¬ p < τ 84 2 + 1 := by omega
        rw [if_neg q1, if_neg q2]
  · rw [up_s]; omega
  · rw [up_k _ _ (by decide), up_at]
    split
    · exact hbyte
    · exact h2 j
  · rw [et, up_r _ _ _ hk.1, up_r _ _ _ hk.2]
theorem rf_4 (x : Int) : rfF x 4 τ = rf1 x 0 (rf1 x 1 (rf1 x 2 (rf1 x 3 τ))) := rfl
theorem tp_4 (x : Int) : tpC σ x = tpA (tpA (tpA (tpA σ x 24) x 16) x 8) x 0 := rfl
theorem by_4 {x : Int} (hb : Rb τ) (hS : ByS σ τ) (hl : τ 84 2 + 4 ≤ 1500) : ByS (tpC σ x) (rfF x 4 τ) ∧ Rb (rfF x 4 τ) ∧ (∀ k, k ≠ 1 ∧ k ≠ 2 → tpC σ x k = σ k) ∧ rfF x 4 τ 84 2 = τ 84 2 + 4 ∧ (∀ k, k ≠ 84 ∧ k ≠ 85 → rfF x 4 τ k = τ k) ∧ (∀ j, j ≠ 2 → rfF x 4 τ 84 j = τ 84 j) := by
  have s1 := by_1 (x := x) (sh := 24) hb hS (by omega)
  have l1 : ∀ (k : Int) (t : Sg), rf1 x k t 84 2 = t 84 2 + 1 := fun k t => up_s _ _ _ _
  have e3 : rf1 x 3 τ = up (up τ 85 (τ 84 2).toNat (iand (ishr x 24) 255)) 84 2 (τ 84 2 + 1) := rfl
  rw [← e3] at s1
  have s2 := by_1 (x := x) (sh := 16) s1.2.1 s1.1 (by rw [l1]; omega)
  have e2 : rf1 x 2 (rf1 x 3 τ) = up (up (rf1 x 3 τ) 85 (rf1 x 3 τ 84 2).toNat (iand (ishr x 16) 255)) 84 2 (rf1 x 3 τ 84 2 + 1) := rfl
  rw [← e2] at s2
  have s3 := by_1 (x := x) (sh := 8) s2.2.1 s2.1 (by rw [l1, l1]; omega)
  have e1 : rf1 x 1 (rf1 x 2 (rf1 x 3 τ)) = up (up (rf1 x 2 (rf1 x 3 τ)) 85 (rf1 x 2 (rf1 x 3 τ) 84 2).toNat (iand (ishr x 8) 255)) 84 2 (rf1 x 2 (rf1 x 3 τ) 84 2 + 1) := rfl
  rw [← e1] at s3
  have s4 := by_1 (x := x) (sh := 0) s3.2.1 s3.1 (by rw [l1, l1, l1]; omega)
  have e0 : rf1 x 0 (rf1 x 1 (rf1 x 2 (rf1 x 3 τ))) = up (up (rf1 x 1 (rf1 x 2 (rf1 x 3 τ))) 85 (rf1 x 1 (rf1 x 2 (rf1 x 3 τ)) 84 2).toNat (iand (ishr x 0) 255)) 84 2 (rf1 x 1 (rf1 x 2 (rf1 x 3 τ)) 84 2 + 1) := rfl
  rw [← e0] at s4
  rw [rf_4, tp_4]
  have rk : ∀ (k2 : Int) (t : Sg) (k : Nat), k ≠ 84 ∧ k ≠ 85 → rf1 x k2 t k = t k := fun k2 t k hk => by unfold rf1; rw [up_r _ _ _ hk.1, up_r _ _ _ hk.2]
  have rj : ∀ (k2 : Int) (t : Sg) (j : Nat), j ≠ 2 → rf1 x k2 t 84 j = t 84 j := fun k2 t j hj => by unfold rf1; rw [up_j _ _ hj, up_k _ _ (by decide)]
  refine ⟨s4.1, s4.2.1, fun k hk => ?_, ?_, fun k hk => ?_, fun j hj => ?_⟩
  · rw [s4.2.2 k hk, s3.2.2 k hk, s2.2.2 k hk, s1.2.2 k hk]
  · rw [l1, l1, l1, l1]; omega
  · rw [rk _ _ k hk, rk _ _ k hk, rk _ _ k hk, rk _ _ k hk]
  · rw [rj _ _ j hj, rj _ _ j hj, rj _ _ j hj, rj _ _ j hj]
theorem fd_5 (a b c d e : Int) (t : Sg) : fW 5 (rfG (t5 a b c d e)) 5 0 t = rfF e 4 (rfF d 4 (rfF c 4 (rfF b 4 (rfF a 4 t)))) := rfl
/-- the tape alone is another -/
theorem Rel.tp {z y : Sg} (h : Rel σ τ) (hz : ∀ k, k ≠ 1 ∧ k ≠ 2 → z k = σ k) (hS : ByS z y) (hb : Rb y) (hy : ∀ k, k ≠ 84 ∧ k ≠ 85 → y k = τ k) (hj : ∀ j, j ≠ 0 ∧ j ≠ 2 → y 84 j = τ 84 j) : Rel z y := by
  have e : Rel σ (up (up τ 84 0 (y 84 0)) 84 2 (τ 84 2)) := by
    rw [up_selfE (show up τ 84 0 (y 84 0) 84 2 = τ 84 2 from up_j _ _ (by decide))]; exact h.no _
  obtain ⟨a1, a2, ⟨b1, b2, b3, b4, b5, b6⟩, ⟨c1, c2, c3, c4, c5, c6, c7⟩, a5, a6, a7, a8, a9, a10, a11⟩ := h
  have hN := a1.1.2.1
  have hR := a1.1.2.2.2.2.1
  have hM := a1.2.2.2.1
  -- what the reference's rows say does not look at the tape
  have q : ∀ (P : Sg → Prop), P τ → (∀ (n m : Int) (f : Nat → Int), P (fun k => if k = 84 then (fun j => if j = 0 then n else if j = 2 then m else τ 84 j) else if k = 85 then f else τ k) = P τ) → P y := fun P hP hq => by
    have ey : y = fun k => if k = 84 then (fun j => if j = 0 then y 84 0 else if j = 2 then y 84 2 else τ 84 j) else if k = 85 then y 85 else τ k := by
      funext k j
      by_cases k1 : k = 84
      · subst k1
        rw [if_pos rfl]
        by_cases j0 : j = 0
        · rw [if_pos j0, j0]
        · by_cases j2 : j = 2
          · rw [if_neg j0, if_pos j2, j2]
          · rw [if_neg j0, if_neg j2]; exact hj j ⟨j0, j2⟩
      · rw [if_neg k1]
        by_cases k2 : k = 85
        · rw [if_pos k2, k2]
        · rw [if_neg k2, hy k ⟨k1, k2⟩]
    rw [ey, hq]; exact hP
  refine ⟨q PI a1 (fun _ _ _ => rfl), q RuG a2 (fun _ _ _ => rfl), ?_, ?_, ?_, ?_, ?_, hS, ⟨hb, ?_, ?_⟩, ?_, ?_⟩
  · refine q (RP z) ?_ (fun _ _ _ => rfl)
    refine ⟨?_, fun j hj => ?_, fun j hj => ?_, fun j hj => ?_, fun c hc => ?_, fun r hr => ?_⟩
    · rw [hz 10 (by decide), hz 12 (by decide), hz 14 (by decide), hz 16 (by decide), hz 18 (by decide), hz 9 (by decide)]; exact b1
    · rw [hz 23 (by decide), hz 24 (by decide), hz 25 (by decide)]; exact b2 j hj
    · rw [hz 13 (by decide), hz 26 (by decide), hz 27 (by decide), hz 28 (by decide), hz 29 (by decide), hz 30 (by decide), hz (34 + j) (by omega)]; exact b3 j hj
    · rw [hz 17 (by decide)]; exact b4 j hj
    · rw [hz 32 (by decide), hz 33 (by decide)]; exact b5 c hc
    · rw [hz 19 (by decide), hz 20 (by decide), hz 21 (by decide), hz 22 (by decide)]; exact b6 r hr
  · refine q (RM z) ?_ (fun _ _ _ => rfl)
    refine ⟨?_, fun d c hd hc => ?_, ?_, fun r d hr hd => ?_, fun d hd => ?_, fun x hx => ?_, fun r hr => ?_⟩
    · rw [hz 55 (by decide)]; exact c1
    · rw [hz (61 + d) (by omega)]; exact c2 d c hd hc
    · rw [hz 55 (by decide)]; exact c3
    · rw [hz (75 + r) (by omega)]; exact c4 r d hr hd
    · rw [hz 58 (by decide)]; exact c5 d hd
    · rw [hz 59 (by decide)]; exact c6 x hx
    · rw [hz 60 (by decide)]; exact c7 r hr
  · exact a5.fr (fun k hk => hz k (by omega)) (fun k hk => hy k (by omega)) (hj 15 (by decide)) (hj 36 (by decide))
  · unfold KwOk; rw [hz 4 (by decide)]; exact a6
  · rw [hz 10 (by decide), hz 12 (by decide), hz 14 (by decide), hz 16 (by decide)]; exact a7
  · unfold Rt; rw [hy 86 (by decide), hy 87 (by decide), hy 88 (by decide)]; exact a9.2.1
  · rw [hj 9 (by decide)]; exact a9.2.2
  · rw [hz 0 (by decide), hj 4 (by decide), hj 38 (by decide)]; exact a10
  · rw [hj 3 (by decide), hj 15 (by decide)]; exact a11
theorem Rel.feed (h : Rel σ τ) (a b c d e : Int) : OpI [ISE] (feO σ a b c d e) (fdV τ a b c d e) (fdS τ a b c d e 84 0) ∧ Rel (feS σ a b c d e) (fdS τ a b c d e) := by
  have hS := h.2.2.2.2.2.2.2.1
  have hb := h.2.2.2.2.2.2.2.2.1.1
  have hl := hb.1
  have e11 : i32 (σ 1 1) = τ 84 2 := by rw [hS.1]; exact i32_n _ (by omega)
  unfold feO feS fdV
  rw [e11]
  by_cases c1 : τ 84 2 + 20 ≤ 1500
  · have ef : fdS τ a b c d e = rfF e 4 (rfF d 4 (rfF c 4 (rfF b 4 (rfF a 4 (up τ 84 0 0))))) := by
      unfold fdS
      rw [if_pos c1]
      exact fd_5 a b c d e _
    have n1 : ¬ 1480 < τ 84 2 := by omega
    rw [if_neg n1, if_neg n1, if_pos c1]
    have t1 := by_4 (σ := σ) (τ := up τ 84 0 0) (x := a) hb hS (by show τ 84 2 + 4 ≤ 1500; omega)
    have l0 : up τ 84 0 0 84 2 = τ 84 2 := up_j _ _ (by decide)
    have t2 := by_4 (x := b) t1.2.1 t1.1 (by rw [t1.2.2.2.1, l0]; omega)
    have t3 := by_4 (x := c) t2.2.1 t2.1 (by rw [t2.2.2.2.1, t1.2.2.2.1, l0]; omega)
    have t4 := by_4 (x := d) t3.2.1 t3.1 (by rw [t3.2.2.2.1, t2.2.2.2.1, t1.2.2.2.1, l0]; omega)
    have t5 := by_4 (x := e) t4.2.1 t4.1 (by rw [t4.2.2.2.1, t3.2.2.2.1, t2.2.2.2.1, t1.2.2.2.1, l0]; omega)
    rw [ef]
    have ez : feT σ a b c d e = tpC (tpC (tpC (tpC (tpC σ a) b) c) d) e := rfl
    refine ⟨OpI.v rfl ?_ ?_, ?_⟩
    · rw [t5.2.2.2.2.2 0 (by decide), t4.2.2.2.2.2 0 (by decide), t3.2.2.2.2.2 0 (by decide), t2.2.2.2.2.2 0 (by decide), t1.2.2.2.2.2 0 (by decide), up_s]
    · rw [ez, t5.1.1]
    · rw [ez]
      refine h.tp (fun k hk => ?_) t5.1 t5.2.1 (fun k hk => ?_) (fun j hj => ?_)
      · rw [t5.2.2.1 k hk, t4.2.2.1 k hk, t3.2.2.1 k hk, t2.2.2.1 k hk, t1.2.2.1 k hk]
      · rw [t5.2.2.2.2.1 k hk, t4.2.2.2.2.1 k hk, t3.2.2.2.2.1 k hk, t2.2.2.2.2.1 k hk, t1.2.2.2.2.1 k hk, up_r _ _ _ hk.1]
      · rw [t5.2.2.2.2.2 j hj.2, t4.2.2.2.2.2 j hj.2, t3.2.2.2.2.2 j hj.2, t2.2.2.2.2.2 j hj.2, t1.2.2.2.2.2 j hj.2, up_j _ _ hj.1]
  · have n1 : 1480 < τ 84 2 := by omega
    rw [if_pos n1, if_pos n1]
    unfold fdS
    rw [if_neg c1, if_neg c1]
    exact ⟨OpI.e (i := 0) (E := ISE) rfl rfl (up_s _ _ _ _), (h.no 0).no 1⟩
theorem Rel.trim (h : Rel σ τ) {n : Int} (hn : inr n) : OpI [IAE] (trO σ n) (tmVR τ n) (tmS τ n 84 0) ∧ Rel (trS σ n) (tmS τ n) := by
  have hS := h.2.2.2.2.2.2.2.1
  have hb := h.2.2.2.2.2.2.2.2.1.1
  have hl := hb.1
  have e11 : i32 (σ 1 1) = τ 84 2 := by rw [hS.1]; exact i32_n _ (by omega)
  have hin : inR n 0 (τ 84 2) = decide (0 ≤ n ∧ n ≤ τ 84 2) := inR_e hn inr_0 ⟨by omega, by omega⟩
  unfold trO trS tmVR tmS
  rw [e11, hin, i32_eq hn]
  by_cases c : 0 ≤ n ∧ n ≤ τ 84 2
  · have n1 : ¬ (n < 0 ∨ τ 84 2 < n) := by omega
    rw [if_neg n1, if_neg n1, decide_eq_true c, if_pos rfl, if_pos rfl]
    have es : ∀ k, k ≠ 1 → shortC σ n k = σ k := fun k hk => shortC_r σ n hk
    have e1 : shortC σ n 1 1 = n := by
      unfold shortC
      rw [i32_eq hn, e11]
      by_cases c2 : n < τ 84 2
      · rw [if_pos ⟨c.1, c2⟩, up_s]
      · rw [if_neg (fun w => c2 w.2), hS.1]; omega
    refine ⟨OpI.v rfl ((up_j _ _ (by decide)).trans (up_s _ _ _ _)) rfl, h.tp (fun k hk => es k hk.1) ⟨by rw [e1, up_s], fun p p0 p1 => ?_⟩ ⟨by rw [up_s]; omega, fun j => by rw [up_k _ _ (by decide), up_k _ _ (by decide)]; exact hb.2 j⟩ (fun k hk => by rw [up_r _ _ _ hk.1, up_r _ _ _ hk.1]) (fun j hj => by rw [up_j _ _ hj.2, up_j _ _ hj.1])⟩
    have h0 := hS.2 p p0 p1
    unfold byteC bR at h0 ⊢
    rw [i32_n p (by omega)] at h0 ⊢
    rw [e11] at h0
    rw [e1, i32_n n (by omega), es 2 (by decide), up_s, up_k _ _ (by decide), up_k _ _ (by decide)]
    by_cases c3 : p < n
    · rw [if_pos ⟨p0, by omega, by omega⟩, if_pos (by omega)] at h0
      rw [if_pos ⟨p0, c3, by omega⟩, if_pos c3]
      exact h0
    · rw [if_neg (by omega), if_neg c3]
  · have n1 : n < 0 ∨ τ 84 2 < n := by omega
    rw [if_pos n1, if_pos n1, decide_eq_false c, if_neg (fun z => ff z), if_neg (fun z => ff z)]
    exact ⟨OpI.e (i := 0) (E := IAE) rfl rfl (up_s _ _ _ _), (h.no 0).no 1⟩
end S72
