/-! test, side by side -/
section S76
variable {σ τ : Sg}
/-- all but tape, tokens, errors: as it was -/
theorem Rel.ch {z y : Sg} (h : Rel σ τ) (hz : ∀ k, (9 ≤ k ∧ k ≠ 50) ∨ k = 4 → z k = σ k) (hS : ByS z y) (hb : Rb y) (ht : Rt y) (h9 : 0 ≤ y 84 9 ∧ y 84 9 ≤ 1500) (hy : ∀ k, k < 84 ∨ 88 < k → y k = τ k) (hj : ∀ j, j ≠ 0 ∧ j ≠ 2 ∧ j ≠ 4 ∧ j ≠ 8 ∧ j ≠ 9 ∧ j ≠ 38 → y 84 j = τ 84 j) (he : z 0 8 = y 84 4) (hs : z 0 9 = y 84 38) : Rel z y := by
  obtain ⟨a1, a2, ⟨b1, b2, b3, b4, b5, b6⟩, ⟨c1, c2, c3, c4, c5, c6, c7⟩, a5, a6, a7, a8, a9, a10, a11⟩ := h
  have hN := a1.1.2.1
  have hR := a1.1.2.2.2.2.1
  have hM := a1.2.2.2.1
  have q : ∀ (P : Sg → Prop), P τ → (∀ (f f5 f6 f7 f8 : Nat → Int), P (fun k => if k = 84 then (fun j => if j = 0 then f 0 else if j = 2 then f 2 else if j = 4 then f 4 else if j = 8 then f 8 else if j = 9 then f 9 else if j = 38 then f 38 else τ 84 j) else if k = 85 then f5 else if k = 86 then f6 else if k = 87 then f7 else if k = 88 then f8 else τ k) = P τ) → P y := fun P hP hq => by
    have ey : y = fun k => if k = 84 then (fun j => if j = 0 then y 84 0 else if j = 2 then y 84 2 else if j = 4 then y 84 4 else if j = 8 then y 84 8 else if j = 9 then y 84 9 else if j = 38 then y 84 38 else τ 84 j) else if k = 85 then y 85 else if k = 86 then y 86 else if k = 87 then y 87 else if k = 88 then y 88 else τ k := by
      funext k j
      by_cases k1 : k = 84
      · subst k1
        rw [if_pos rfl]
        (repeat' split)
        · rename_i e; rw [e]
        · rename_i e; rw [e]
        · rename_i e; rw [e]
        · rename_i e; rw [e]
        · rename_i e; rw [e]
        · rename_i e; rw [e]
        · exact hj j (by omega)
      · rw [if_neg k1]
        (repeat' split)
        · rename_i e; rw [e]
        · rename_i e; rw [e]
        · rename_i e; rw [e]
        · rename_i e; rw [e]
        · rw [hy k (by omega)]
    rw [ey, hq]; exact hP
  have hzk : ∀ k, 9 ≤ k ∧ k ≠ 50 → z k = σ k := fun k hk => hz k (Or.inl hk)
  refine ⟨q PI a1 (fun _ _ _ _ _ => rfl), q RuG a2 (fun _ _ _ _ _ => rfl), ?_, ?_, ?_, ?_, ?_, hS, ⟨hb, ht, h9⟩, ⟨he, hs⟩, ?_⟩
  · refine q (RP z) ?_ (fun _ _ _ _ _ => rfl)
    refine ⟨?_, fun j hj => ?_, fun j hj => ?_, fun j hj => ?_, fun c hc => ?_, fun r hr => ?_⟩
    · rw [hzk 10 (by decide), hzk 12 (by decide), hzk 14 (by decide), hzk 16 (by decide), hzk 18 (by decide), hzk 9 (by decide)]; exact b1
    · rw [hzk 23 (by decide), hzk 24 (by decide), hzk 25 (by decide)]; exact b2 j hj
    · rw [hzk 13 (by decide), hzk 26 (by decide), hzk 27 (by decide), hzk 28 (by decide), hzk 29 (by decide), hzk 30 (by decide), hzk (34 + j) (by omega)]; exact b3 j hj
    · rw [hzk 17 (by decide)]; exact b4 j hj
    · rw [hzk 32 (by decide), hzk 33 (by decide)]; exact b5 c hc
    · rw [hzk 19 (by decide), hzk 20 (by decide), hzk 21 (by decide), hzk 22 (by decide)]; exact b6 r hr
  · refine q (RM z) ?_ (fun _ _ _ _ _ => rfl)
    refine ⟨?_, fun d c hd hc => ?_, ?_, fun r d hr hd => ?_, fun d hd => ?_, fun x hx => ?_, fun r hr => ?_⟩
    · rw [hzk 55 (by decide)]; exact c1
    · rw [hzk (61 + d) (by omega)]; exact c2 d c hd hc
    · rw [hzk 55 (by decide)]; exact c3
    · rw [hzk (75 + r) (by omega)]; exact c4 r d hr hd
    · rw [hzk 58 (by decide)]; exact c5 d hd
    · rw [hzk 59 (by decide)]; exact c6 x hx
    · rw [hzk 60 (by decide)]; exact c7 r hr
  · exact a5.fr (fun k hk => hzk k (by omega)) (fun k hk => hy k (by omega)) (hj 15 (by decide)) (hj 36 (by decide))
  · unfold KwOk; rw [hz 4 (by decide)]; exact a6
  · rw [hzk 10 (by decide), hzk 12 (by decide), hzk 14 (by decide), hzk 16 (by decide)]; exact a7
  · rw [hj 3 (by decide), hj 15 (by decide)]; exact a11
theorem Sxt_bd (hb : Rb τ) (ht : Rt τ) (t : Int) : 0 ≤ Sx (rt1 τ) t ∧ Sx (rt1 τ) t ≤ 1500 := by
  have := ((rt1_d hb ht).2.1 t.toNat).2
  show 0 ≤ rt1 τ 87 t.toNat ∧ rt1 τ 87 t.toNat ≤ 1500
  omega
theorem loL_4 {K V S : Int → Int} : ∀ (n : Nat) (σ : Sg), (loL K V S n σ).1 = 0 → (loL K V S n σ).2 84 4 = σ 84 4 := by
  intro n
  induction n with
  | zero => intro σ _; rfl
  | succ n ih =>
    intro σ h
    simp only [loL] at h ⊢
    split
    · rfl
    · rename_i c
      rw [if_neg c] at h
      split
      · rename_i c2; rw [if_pos c2] at h; exact absurd (show (2 : Int) = 0 from h) (by decide)
      · rename_i c2
        rw [if_neg c2] at h
        exact (ih _ h).trans (incS_j _ (by decide))
theorem Rel.test (h : Rel σ τ) : I32 (teV σ) = I32 (rtV τ) ∧ Rel (teS σ) (rtS τ) := by
  have hR := h
  obtain ⟨a1, a2, a3, a4, a5, a6, a7, a8, ⟨hb, ht, h9⟩, a10, a11⟩ := h
  have hl := hb.1
  -- the class's state behind scanning
  generalize hs1 : up σ 0 9 0 = s1
  have s1k : ∀ k, k ≠ 0 → s1 k = σ k := fun k hk => by rw [← hs1, up_r _ _ _ hk]
  have hby : ByS s1 (rt0 τ) := a8.fr (s1k 1 (by decide)) (s1k 2 (by decide)) rfl rfl
  have hkw : KwOk s1 := by unfold KwOk; rw [s1k 4 (by decide)]; exact a6
  obtain ⟨q1, q2⟩ := scan_ok (σ := s1) (τ := rt0 τ) hb hkw hby
  have hd := rt1_d hb ht
  have hTk := Tt_1 hb ht h9
  have hT2 := Tt_2 hb ht h9
  have hT3 := Tt_3 hb ht h9
  have he := hT2.e
  have hTC0 : TC (readC s1) (rtE τ) (rtK τ) (Vx (rt1 τ)) (Nx (rt1 τ)) (Sx (rt1 τ)) := TC_of (z := readC s1) (τ := rt1 τ) (e := rtE τ) q1 hTk hd.2.2.2.2
  have eA : teA σ = shortC (readC s1) 0 := by unfold teA; rw [hs1]
  have Ak : ∀ k, k ≠ 1 → teA σ k = readC s1 k := fun k hk => by rw [eA]; exact shortC_r _ _ hk
  have As : ∀ k, k ≠ 1 ∧ k ≠ 3 ∧ k ≠ 5 ∧ k ≠ 6 ∧ k ≠ 7 → teA σ k = s1 k := fun k hk => by rw [Ak k hk.1, q2 k hk.2]
  have A1 : teA σ 1 1 = 0 := by
    rw [eA]
    exact short_0 (n := τ 84 2) (by rw [q2 1 (by decide), s1k 1 (by decide)]; exact a8.1) hl
  have hTC : TC (teA σ) (rtE τ) (rtK τ) (Vx (rt1 τ)) (Nx (rt1 τ)) (Sx (rt1 τ)) := hTC0.fr (Ak 3 (by decide)) (Ak 5 (by decide)) (Ak 6 (by decide)) (Ak 7 (by decide))
  have hK := HK_of hTC hT2.E
  obtain ⟨⟨f1, f2, f3, f4⟩, -⟩ := PQ_ex hK (0, teA σ 8 2) (rt2 τ 84 8, rt2 τ 84 9) rfl ⟨Int.le_refl _, he.1⟩
  have eQ : qEx (rtK τ) (rt2 τ 84 8, rt2 τ 84 9) = qT τ := rfl
  rw [eQ] at f1 f2
  have f3 : 0 ≤ (pEx (KC (teA σ)) (0, teA σ 8 2)).2.1 := f3
  have eK : KC (teA σ) (pEx (KC (teA σ)) (0, teA σ 8 2)).2.1 = rtK τ (qT τ).2.1 := by rw [(hTC.2 _ f3 f4).1, f2]
  have eS : SC (teA σ) (pEx (KC (teA σ)) (0, teA σ 8 2)).2.1 = Sx (rt1 τ) (qT τ).2.1 := by rw [(hTC.2 _ f3 f4).2.2.2, f2]
  have hSb := Sxt_bd hb ht (qT τ).2.1
  have Bk : ∀ k, k ≠ 0 ∧ k ≠ 8 → teB σ k = teA σ k := fun k hk => by unfold teB eicS; rw [up_r _ _ _ hk.1, stF_r _ _ hk.2]
  have B09 : teB σ 0 9 = 0 := by unfold teB eicS; rw [up_j _ _ (by decide), stF_r _ _ (by decide), As 0 (by decide), ← hs1, up_s]
  have B08 : teB σ 0 8 = eicV (teA σ) := teB_08 σ
  have Bσ : ∀ k, (9 ≤ k ∧ k ≠ 50) ∨ k = 4 → teB σ k = σ k := fun k hk => by rw [Bk k (by omega), As k (by omega), s1k k (by omega)]
  have BTC : TC (teB σ) (rtE τ) (rtK τ) (Vx (rt1 τ)) (Nx (rt1 τ)) (Sx (rt1 τ)) := hTC.fr (Bk 3 (by decide)) (Bk 5 (by decide)) (Bk 6 (by decide)) (Bk 7 (by decide))
  have B1 : teB σ 1 1 = 0 := by rw [Bk 1 (by decide)]; exact A1
  -- the reference's
  have r3 : ∀ k, k < 84 ∨ 88 < k → rt3 τ k = τ k := fun k hk => by
    rw [rt3_k (by omega), rt1_o hb ht (by omega)]
    unfold rt0
    rw [up_r _ _ _ (by omega), up_r _ _ _ (by omega), up_r _ _ _ (by omega)]
  have r85 : rt3 τ 85 = τ 85 := by rw [rt3_k (by decide), rt1_o hb ht (by decide)]; rfl
  have r3j : ∀ j, j ≠ 0 ∧ j ≠ 4 ∧ j ≠ 8 ∧ j ≠ 9 ∧ j ≠ 38 → rt3 τ 84 j = τ 84 j := fun j hj => by
    rw [rt3_o (by omega), rt1_o hb ht (by decide)]
    unfold rt0
    rw [up_j _ _ (by omega), up_j _ _ (by omega), up_j _ _ (by omega)]
  have r34 : rt3 τ 84 4 = -1 ∧ rt3 τ 84 38 = 0 := by
    rw [rt3_o (by decide), rt3_o (by decide), rt1_o hb ht (by decide)]
    exact ⟨rfl, rfl⟩
  have rRt : Rt (rt3 τ) := hT3.1.2.1
  have r9 : 0 ≤ rt3 τ 84 9 ∧ rt3 τ 84 9 ≤ 1500 := hT3.2.2.2.2
  by_cases c : okT τ = true
  · -- a right form
    obtain ⟨c1, c2⟩ := (Bool.and_eq_true _ _).mp c
    have c2 : rtK τ (qT τ).2.1 = 25 := of_decide_eq_true c2
    have ee : eicV (teA σ) = -1 := by unfold eicV eC; rw [if_pos ⟨f1.trans c1, eK.trans c2⟩]
    have ei : i32 (eicV (teA σ)) = i32 (-1) := by rw [ee]
    have e5 : rt5 τ = up (rt3 τ) 84 8 0 := if_pos c
    have e6 : rt6 τ = loM (rtK τ) (Vx (rt1 τ)) (Sx (rt1 τ)) (rt5 τ) := if_pos c
    obtain ⟨hN, hT, e12, e16, hdn, htn, ud, ut⟩ := a5
    have Y84 : ∀ j, j ≠ 0 ∧ j ≠ 4 ∧ j ≠ 8 ∧ j ≠ 9 ∧ j ≠ 38 → rt5 τ 84 j = τ 84 j := fun j hj => by rw [e5, up_j _ _ (by omega)]; exact r3j j hj
    have Yk : ∀ k, k < 84 ∨ 88 < k → rt5 τ k = τ k := fun k hk => by rw [e5, up_r _ _ _ (by omega)]; exact r3 k hk
    have n12 : NmR (teB σ) (rt5 τ) 12 93 (rt5 τ 84 15) 16 := by
      rw [Y84 15 (by decide)]
      refine ⟨by rw [Bσ 12 (by decide)]; exact e12, hN, by decide, by rw [Bσ 12 (by decide)]; exact a7.2.1, fun j hj => ?_, ?_⟩
      · rw [Bσ 13 (by decide), Yk 93 (by decide)]; exact (hdn j hj).1
      · rw [Yk 93 (by decide)]; exact ud
    have n16 : TgR (teB σ) (rt5 τ) := by
      unfold TgR
      rw [Y84 36 (by decide)]
      refine ⟨by rw [Bσ 16 (by decide)]; exact e16, hT, by decide, by rw [Bσ 16 (by decide)]; exact a7.2.2.2, fun j hj => ?_, ?_⟩
      · rw [Bσ 17 (by decide), Yk 110 (by decide)]; exact htn j hj
      · rw [Yk 110 (by decide)]; exact ut
    have hT5 : Tk (rt5 τ) (rtE τ) (rtK τ) (Vx (rt1 τ)) (Nx (rt1 τ)) (Sx (rt1 τ)) := by rw [e5]; exact hT3.o (by decide)
    have hlook := look_ok (p := teB σ) (Y := rt5 τ) (a := 0) hT5 BTC n12 n16 (by rw [e5, up_s]) (Int.le_refl _) (ChO_T c1) (Or.inr (Or.inr c2))
    rw [← e6] at hlook
    have Zk : ∀ k, k ≠ 84 → (rt6 τ).2 k = rt5 τ k := fun k hk => by rw [e6]; exact loL_k hk _ _
    have Zj : ∀ j, j ≠ 4 ∧ j ≠ 8 → (rt6 τ).2 84 j = rt5 τ 84 j := fun j hj => by rw [e6]; exact loM_j hj
    have Z9 : (rt6 τ).2 84 9 = rt3 τ 84 9 := by rw [Zj 9 (by decide), e5, up_j _ _ (by decide)]
    have Z38 : (rt6 τ).2 84 38 = 0 := by rw [Zj 38 (by decide), e5, up_j _ _ (by decide)]; exact r34.2
    have Zτ : ∀ k, k < 84 ∨ 88 < k → (rt6 τ).2 k = τ k := fun k hk => by rw [Zk k (by omega)]; exact Yk k hk
    have Z85 : (rt6 τ).2 85 = τ 85 := by rw [Zk 85 (by decide), e5, up_r _ _ _ (by decide)]; exact r85
    have ZRt : Rt (rt6 τ).2 := rRt.fr (by rw [Zk 86 (by decide), e5, up_r _ _ _ (by decide)]) (by rw [Zk 87 (by decide), e5, up_r _ _ _ (by decide)]) (by rw [Zk 88 (by decide), e5, up_r _ _ _ (by decide)])
    have Z84 : ∀ j, j ≠ 0 ∧ j ≠ 2 ∧ j ≠ 4 ∧ j ≠ 8 ∧ j ≠ 9 ∧ j ≠ 38 → (rt6 τ).2 84 j = τ 84 j := fun j hj => by rw [Zj j (by omega)]; exact Y84 j (by omega)
    rcases hlook with ⟨l1, l2, l3⟩ | ⟨l1, l2, l3, l4, l5⟩
    · -- all its names are known
      have hc0 := hTk.in (t := (qT τ).2.1 - 1) (k := rtK τ ((qT τ).2.1 - 1)) rfl
      have hkt : KC (teB σ) (eouC (teB σ) 0) ≠ i32 22 := by
        rw [l3, ← f2, (BTC.2 _ f3 f4).1, f2, c2, e22]; decide
      obtain ⟨v1, v2⟩ := te_c ei hkt
      have eV : rtV τ = 0 := l1
      rw [v1, v2, eV]
      refine ⟨rfl, ?_⟩
      have hRN : RN (teB σ) (rt6 τ).2 := RN.fr ⟨hN, hT, e12, e16, hdn, htn, ud, ut⟩ (fun k hk => Bσ k (by omega)) (fun k hk => Zτ k (by omega)) (Z84 15 (by decide)) (Z84 36 (by decide))
      have hs := su_e (σ := teB σ) (τ := (rt6 τ).2) (J := rtK τ) (V := Vx (rt1 τ)) (e := rtE τ) (ah := τ 84 15) (a := 0) (HK_of BTC hT2.E) hRN (fun t t0 t1 hk => by
        have q := BTC.2 t t0 (by omega)
        exact q.2.1 (q.1.symm.trans hk)) ⟨hN.1, by rw [Z84 15 (by decide)]; exact Int.le_refl _⟩ ⟨Int.le_refl _, he.1⟩ (ChO_T c1).1
      have b12 : teB σ 12 2 = τ 84 15 := by rw [Bσ 12 (by decide)]; exact e12
      have r15 : rt3 τ 84 15 = τ 84 15 := r3j 15 (by decide)
      have e8 : rt8 τ = up (up (rt6 τ).2 84 8 (chE (rtK τ) (Vx (rt1 τ)) (rt6 τ).2 (τ 84 15) 0)) 84 38 (chV (rtK τ) (Vx (rt1 τ)) (rt6 τ).2 (τ 84 15) 0) := by
        unfold rt8
        rw [if_pos l1, r15]
      unfold rtS
      rw [b12, hs.1, e8]
      have sk : ∀ k, k ≠ 50 → suS (teB σ) 0 (τ 84 15) k = teB σ k := fun k hk => by unfold suS stE; rw [up_r _ _ _ hk, up_r _ _ _ hk]
      have l1' : (loL (rtK τ) (Vx (rt1 τ)) (Sx (rt1 τ)) 1502 (rt5 τ)).1 = 0 := by
        have := l1; rw [e6] at this; exact this
      have Z4 : (rt6 τ).2 84 4 = -1 := by
        rw [e6]
        have := loL_4 1502 (rt5 τ) l1'
        rw [e5, up_j _ _ (by decide), r34.1] at this
        rw [e5]; exact this
      refine hR.ch (fun k hk => ?_) (ByS_0 ?_ (up_s _ _ _ _)) ⟨?_, fun j => ?_⟩ ?_ ?_ (fun k hk => ?_) (fun j hj => ?_) ?_ ?_
      · rw [up_r _ _ _ (by omega), sk k (by omega)]; exact Bσ k hk
      · rw [up_k _ _ (by decide), sk 1 (by decide)]; exact B1
      · rw [up_s]; decide
      · rw [up_k _ _ (by decide), up_k _ _ (by decide), up_k _ _ (by decide), Z85]; exact hb.2 j
      · refine ZRt.fr ?_ ?_ ?_
        · rw [up_r _ _ _ (by decide), up_r _ _ _ (by decide), up_r _ _ _ (by decide)]
        · rw [up_r _ _ _ (by decide), up_r _ _ _ (by decide), up_r _ _ _ (by decide)]
        · rw [up_r _ _ _ (by decide), up_r _ _ _ (by decide), up_r _ _ _ (by decide)]
      · rw [up_j _ _ (by decide), up_j _ _ (by decide), up_j _ _ (by decide), Z9]; exact r9
      · rw [up_r _ _ _ (by omega), up_r _ _ _ (by omega), up_r _ _ _ (by omega)]; exact Zτ k hk
      · rw [up_j _ _ (by omega), up_j _ _ (by omega), up_j _ _ (by omega)]; exact Z84 j hj
      · rw [up_j _ _ (by decide), sk 0 (by decide), B08, ee, up_j _ _ (by decide), up_j _ _ (by decide), up_j _ _ (by decide), Z4]
      · rw [up_s, up_j _ _ (by decide), up_s]
    · -- an unknown name
      have hce : (qT τ).2.1 ≤ rtE τ := by rw [← f2]; exact f4
      have hkt : KC (teB σ) (eouC (teB σ) 0) = i32 22 := by
        rw [(BTC.2 _ l2 (by omega)).1, l4, e22]
      obtain ⟨v1, v2⟩ := te_b ei hkt
      have eV : rtV τ = 2 := l1
      rw [v1, v2, eV]
      refine ⟨rfl, ?_⟩
      have eSC : SC (teB σ) (eouC (teB σ) 0) = (rt6 τ).2 84 4 := by rw [(BTC.2 _ l2 (by omega)).2.2.2, l5]
      have e8 : rt8 τ = up (rt6 τ).2 84 8 0 := by
        unfold rt8
        rw [if_neg (by rw [l1]; decide)]
      unfold rtS
      rw [eSC, e8]
      refine hR.ch (fun k hk => ?_) (ByS_0 ?_ (up_s _ _ _ _)) ⟨?_, fun j => ?_⟩ ?_ ?_ (fun k hk => ?_) (fun j hj => ?_) ?_ ?_
      · rw [up_r _ _ _ (by omega)]; exact Bσ k hk
      · rw [up_k _ _ (by decide)]; exact B1
      · rw [up_s]; decide
      · rw [up_k _ _ (by decide), up_k _ _ (by decide), Z85]; exact hb.2 j
      · refine ZRt.fr ?_ ?_ ?_
        · rw [up_r _ _ _ (by decide), up_r _ _ _ (by decide)]
        · rw [up_r _ _ _ (by decide), up_r _ _ _ (by decide)]
        · rw [up_r _ _ _ (by decide), up_r _ _ _ (by decide)]
      · rw [up_j _ _ (by decide), up_j _ _ (by decide), Z9]; exact r9
      · rw [up_r _ _ _ (by omega), up_r _ _ _ (by omega)]; exact Zτ k hk
      · rw [up_j _ _ (by omega), up_j _ _ (by omega)]; exact Z84 j hj
      · rw [up_s, up_j _ _ (by decide), up_j _ _ (by decide)]
      · rw [up_j _ _ (by decide), B09, up_j _ _ (by decide), up_j _ _ (by decide), Z38]
  · -- an error of form
    have cX : ¬ ((pEx (KC (teA σ)) (0, teA σ 8 2)).1 = true ∧ KC (teA σ) (pEx (KC (teA σ)) (0, teA σ 8 2)).2.1 = 25) := fun w => c (by
      unfold okT
      rw [f1.symm.trans w.1, decide_eq_true (eK.symm.trans w.2)]; rfl)
    have ee : eicV (teA σ) = Sx (rt1 τ) (qT τ).2.1 := by unfold eicV eC; rw [if_neg cX, eS]
    have ne : i32 (eicV (teA σ)) ≠ i32 (-1) := by rw [ee, i32_n _ (by omega), em1]; omega
    obtain ⟨v1, v2⟩ := te_a ne
    have e6 : rt6 τ = (1, rt5 τ) := if_neg c
    have e5 : rt5 τ = up (up (rt3 τ) 84 4 (Sx (rt1 τ) (qT τ).2.1)) 84 8 0 := if_neg c
    have eV : rtV τ = 1 := by unfold rtV; rw [e6]
    have e8 : rt8 τ = up (rt5 τ) 84 8 0 := by
      unfold rt8
      rw [e6, if_neg (fun w => absurd (show (1 : Int) = 0 from w) (by decide))]
    rw [v1, v2, eV]
    refine ⟨rfl, ?_⟩
    unfold rtS
    rw [e8, e5]
    refine hR.ch Bσ (ByS_0 B1 (up_s _ _ _ _)) ⟨?_, fun j => ?_⟩ ?_ ?_ (fun k hk => ?_) (fun j hj => ?_) ?_ ?_
    · rw [up_s]; decide
    · rw [up_k _ _ (by decide), up_k _ _ (by decide), up_k _ _ (by decide), up_k _ _ (by decide), r85]; exact hb.2 j
    · refine rRt.fr ?_ ?_ ?_
      · rw [up_r _ _ _ (by decide), up_r _ _ _ (by decide), up_r _ _ _ (by decide), up_r _ _ _ (by decide)]
      · rw [up_r _ _ _ (by decide), up_r _ _ _ (by decide), up_r _ _ _ (by decide), up_r _ _ _ (by decide)]
      · rw [up_r _ _ _ (by decide), up_r _ _ _ (by decide), up_r _ _ _ (by decide), up_r _ _ _ (by decide)]
    · rw [up_j _ _ (by decide), up_j _ _ (by decide), up_j _ _ (by decide), up_j _ _ (by decide)]; exact r9
    · rw [up_r _ _ _ (by omega), up_r _ _ _ (by omega), up_r _ _ _ (by omega), up_r _ _ _ (by omega)]; exact r3 k hk
    · rw [up_j _ _ (by omega), up_j _ _ (by omega), up_j _ _ (by omega), up_j _ _ (by omega)]; exact r3j j (by omega)
    · rw [B08, ee, up_j _ _ (by decide), up_j _ _ (by decide), up_j _ _ (by decide), up_s]
    · rw [B09, up_j _ _ (by decide), up_j _ _ (by decide), up_j _ _ (by decide), up_j _ _ (by decide), r34.2]
end S76
