/-! compile and test, side by side -/
section S75
variable {σ τ : Sg}
theorem ByS_0 {z y : Sg} (h1 : z 1 1 = 0) (h2 : y 84 2 = 0) : ByS z y := by
  refine ⟨by rw [h1, h2], fun p p0 p1 => ?_⟩
  unfold byteC bR
  have h0 : i32 0 = 0 := rfl
  rw [h1, h2, h0, i32_n p (by omega), if_neg (by omega), if_neg (by omega)]
theorem short_0 {z : Sg} {n : Int} (h : z 1 1 = n) (hn : 0 ≤ n ∧ n ≤ 1500) : shortC z 0 1 1 = 0 := by
  unfold shortC
  have h0 : i32 0 = 0 := rfl
  rw [h, h0, i32_n n (by omega)]
  by_cases c : 0 < n
  · rw [if_pos ⟨Int.le_refl _, c⟩, up_s]
  · rw [if_neg (fun w => c w.2), h]; omega
theorem Rt.fr {y : Sg} (h : Rt τ) (h1 : y 86 = τ 86) (h2 : y 87 = τ 87) (h3 : y 88 = τ 88) : Rt y := by
  unfold Rt
  rw [h1, h2, h3]; exact h
theorem ByS.fr {z y : Sg} (h : ByS σ τ) (h1 : z 1 = σ 1) (h2 : z 2 = σ 2) (h3 : y 84 2 = τ 84 2) (h4 : y 85 = τ 85) : ByS z y :=
  ⟨by rw [h1, h3]; exact h.1, fun p p0 p1 => by rw [byteC_fr h1 h2, bR_fr h3 h4]; exact h.2 p p0 p1⟩
theorem clr_sz (σ : Sg) : clrC σ 10 2 = 0 ∧ clrC σ 12 2 = 0 ∧ clrC σ 14 2 = 0 ∧ clrC σ 16 2 = 0 ∧ clrC σ 18 4 = 0 ∧ clrC σ 9 16 = 0 := ⟨rfl, rfl, rfl, rfl, rfl, rfl⟩
theorem clr_cp (σ : Sg) {k j : Nat} (h : Cp k j) : clrC σ k j = σ k j := by
  obtain ⟨h1, rfl⟩ := h
  unfold clrC
  rcases h1 with rfl | rfl | rfl | rfl <;> simp (disch := omega) only [up_k, up_j]
theorem fg_z (y : Sg) : ∀ j, j = 10 ∨ j = 15 ∨ j = 23 ∨ j = 25 ∨ j = 30 ∨ j = 36 ∨ j = 39 ∨ j = 38 ∨ j = 3 → fgS y 84 j = 0 := by
  intro j hj
  rcases hj with rfl | rfl | rfl | rfl | rfl | rfl | rfl | rfl | rfl <;> rfl
theorem fg_k (y : Sg) {k : Nat} (h : k ≠ 84) : fgS y k = y k := by
  unfold fgS
  rw [up_r _ _ _ h, up_r _ _ _ h, up_r _ _ _ h, up_r _ _ _ h, up_r _ _ _ h, up_r _ _ _ h, up_r _ _ _ h, up_r _ _ _ h, up_r _ _ _ h]
theorem fg_j (y : Sg) {j : Nat} (h : j = 0 ∨ j = 2 ∨ j = 4 ∨ j = 8 ∨ j = 9) : fgS y 84 j = y 84 j := by
  rcases h with rfl | rfl | rfl | rfl | rfl <;> rfl
/-- the class's state behind clearing, scanning, emptying the tape -/
theorem cmA_ok (h : Rel σ τ) : TC (cmA σ) (rcE τ) (rcK τ) (Vx (rc1 τ)) (Nx (rc1 τ)) (Sx (rc1 τ)) ∧ cmA σ 1 1 = 0 ∧ (cmA σ 10 2 = 0 ∧ cmA σ 12 2 = 0 ∧ cmA σ 14 2 = 0 ∧ cmA σ 16 2 = 0 ∧ cmA σ 18 4 = 0 ∧ cmA σ 9 16 = 0) ∧ cmA σ 4 = σ 4 ∧ (∀ k j, Cp k j → cmA σ k j = σ k j) ∧ (cmA σ 55 6 = 0 ∧ cmA σ 55 7 = 0 ∧ (∀ x : Nat, x < 16 → cmA σ 59 x = 0) ∧ (∀ r : Nat, r < 8 → cmA σ 60 r = 0)) ∧ cmA σ 0 9 = 0 := by
  obtain ⟨a1, a2, a3, a4, a5, a6, a7, a8, ⟨hb, ht, h9⟩, a10, a11⟩ := h
  have hl := hb.1
  generalize hs1 : up (bgC (clrC σ) 0) 0 9 0 = s1
  have s1k : ∀ k, (1 ≤ k ∧ k < 9) ∨ (19 ≤ k ∧ k < 55) → s1 k = σ k := fun k hk => by rw [← hs1, up_r _ _ _ (by omega), bgC_r _ _ (by omega), clrC_r _ (by omega)]
  have s1c : ∀ k, 9 ≤ k ∧ k < 19 → s1 k = clrC σ k := fun k hk => by rw [← hs1, up_r _ _ _ (by omega), bgC_r _ _ (by omega)]
  have s1m : ∀ k, 55 ≤ k → s1 k = bgC (clrC σ) 0 k := fun k hk => by rw [← hs1, up_r _ _ _ (by omega)]
  have s109 : s1 0 9 = 0 := by rw [← hs1, up_s]
  have hby : ByS s1 (rc0 τ) := a8.fr (s1k 1 (by decide)) (s1k 2 (by decide)) rfl rfl
  have hkw : KwOk s1 := by unfold KwOk; rw [s1k 4 (by decide)]; exact a6
  obtain ⟨q1, q2⟩ := scan_ok (σ := s1) (τ := rc0 τ) (rc0_b hb) hkw hby
  have hd := rc1_d hb ht
  have hTk := Tk_1 hb ht h9
  have hTC : TC (readC s1) (rcE τ) (rcK τ) (Vx (rc1 τ)) (Nx (rc1 τ)) (Sx (rc1 τ)) := TC_of (z := readC s1) (τ := rc1 τ) (e := rcE τ) q1 hTk hd.2.2.2.2
  have eA : cmA σ = shortC (readC s1) 0 := by unfold cmA; rw [hs1]
  have Ak : ∀ k, k ≠ 1 → cmA σ k = readC s1 k := fun k hk => by rw [eA]; exact shortC_r _ _ hk
  have As : ∀ k, k ≠ 1 ∧ k ≠ 3 ∧ k ≠ 5 ∧ k ≠ 6 ∧ k ≠ 7 → cmA σ k = s1 k := fun k hk => by rw [Ak k hk.1, q2 k hk.2]
  obtain ⟨m1, m2, m3, m4⟩ := bg_0 (a := clrC σ) rfl rfl
  refine ⟨hTC.fr (Ak 3 (by decide)) (Ak 5 (by decide)) (Ak 6 (by decide)) (Ak 7 (by decide)), ?_, ?_, ?_, fun k j hk => ?_, ⟨?_, ?_, fun x hx => ?_, fun r hr => ?_⟩, ?_⟩
  · rw [eA]
    exact short_0 (n := τ 84 2) (by rw [q2 1 (by decide), s1k 1 (by decide)]; exact a8.1) hl
  · rw [As 10 (by decide), As 12 (by decide), As 14 (by decide), As 16 (by decide), As 18 (by decide), As 9 (by decide), s1c 10 (by decide), s1c 12 (by decide), s1c 14 (by decide), s1c 16 (by decide), s1c 18 (by decide), s1c 9 (by decide)]
    exact clr_sz σ
  · rw [As 4 (by decide), s1k 4 (by decide)]
  · have hk2 := hk
    unfold Cp at hk2
    rw [As k (by omega), s1c k (by omega), clr_cp σ hk]
  · rw [As 55 (by decide), s1m 55 (by decide)]; exact m1
  · rw [As 55 (by decide), s1m 55 (by decide)]; exact m2
  · rw [As 59 (by decide), s1m 59 (by decide)]; exact m3 x hx
  · rw [As 60 (by decide), s1m 60 (by decide)]; exact m4 r hr
  · rw [As 0 (by decide)]; exact s109
theorem HK_of {z : Sg} {e : Int} {K V N S : Int → Int} (hT : TC z e K V N S) (hE : K e = 25) : HK (KC z) K e := ⟨hT.1, (hT.2 e hT.1.1 (Int.le_refl _)).1.trans hE, fun t t0 t1 => (hT.2 t t0 t1).1.symm⟩
theorem Sx_bd (hb : Rb τ) (ht : Rt τ) (t : Int) : 0 ≤ Sx (rc1 τ) t ∧ Sx (rc1 τ) t ≤ 1500 := by
  have := ((rc1_d hb ht).2.1 t.toNat).2
  show 0 ≤ rc1 τ 87 t.toNat ∧ rc1 τ 87 t.toNat ≤ 1500
  omega
theorem Rel.compile (h : Rel σ τ) : I32 (cmV σ) = I32 (rzV τ) ∧ Rel (cmS σ) (rzS τ) := by
  obtain ⟨hTC, A1, Asz, A4, Acp, ⟨Am1, Am2, Am3, Am4⟩, A09⟩ := cmA_ok h
  obtain ⟨a1, a2, a3, a4, a5, a6, a7, a8, ⟨hb, ht, h9⟩, a10, a11⟩ := h
  have hT2 := Tk_2 hb ht h9
  have hT3 := Tk_3 hb ht h9
  have he := hT2.e
  have hSq := PQ_0 (HK_of hTC hT2.E) (0, cmA σ 8 2) (rc2 τ 84 8, rc2 τ 84 9) rfl rfl (hT2.bd ⟨Int.le_refl _, he.1⟩) hT2
  have eQ : qProg (rcK τ) 1501 (rc2 τ 84 8, rc2 τ 84 9) = qP τ := rfl
  rw [eQ] at hSq
  obtain ⟨f1, f2, f3, f4⟩ := hSq
  have eS : SC (cmA σ) (pQ (KC (cmA σ)) 1500 true (0, cmA σ 8 2)).2.1 = Sx (rc1 τ) (qP τ).2.1 := by
    rw [(hTC.2 _ f3 f4).2.2.2, f2]
  have hSb := Sx_bd hb ht (qP τ).2.1
  -- the state behind the form
  have Bk : ∀ k, k ≠ 0 ∧ k ≠ 8 → cmB σ k = cmA σ k := fun k hk => by unfold cmB eipS; rw [up_r _ _ _ hk.1, stF_r _ _ hk.2]
  have B09 : cmB σ 0 9 = 0 := by unfold cmB eipS; rw [up_j _ _ (by decide), stF_r _ _ (by decide)]; exact A09
  have B08 : cmB σ 0 8 = eipV (cmA σ) := cmB_08 σ
  have Bcp : ∀ k j, Cp k j → cmB σ k j = σ k j := fun k j hk => by
    have hk2 := hk
    unfold Cp at hk2
    rw [Bk k (by omega)]; exact Acp k j hk
  have caps : ∀ z : Sg, (∀ k j, Cp k j → z k j = σ k j) → z 10 1 = 16 ∧ z 12 1 = 16 ∧ z 14 1 = 4 ∧ z 16 1 = 16 := fun z hz => by
    rw [hz 10 1 ⟨by decide, rfl⟩, hz 12 1 ⟨by decide, rfl⟩, hz 14 1 ⟨by decide, rfl⟩, hz 16 1 ⟨by decide, rfl⟩]
    exact a7
  have kw : ∀ z : Sg, z 4 = cmA σ 4 → KwOk z := fun z hz => by unfold KwOk; rw [hz, A4]; exact a6
  have BTC : TC (cmB σ) (rcE τ) (rcK τ) (Vx (rc1 τ)) (Nx (rc1 τ)) (Sx (rc1 τ)) := hTC.fr (Bk 3 (by decide)) (Bk 5 (by decide)) (Bk 6 (by decide)) (Bk 7 (by decide))
  -- the reference's state behind the form
  have r85 : rc3 τ 85 = τ 85 := by rw [rc3_k (by decide), rc1_o hb ht (by decide)]; rfl
  have rRt : Rt (rc3 τ) := hT3.1.2.1
  have r9 : 0 ≤ rc3 τ 84 9 ∧ rc3 τ 84 9 ≤ 1500 := hT3.2.2.2.2
  by_cases c : (qP τ).1 = true
  · have cX : (pQ (KC (cmA σ)) 1500 true (0, cmA σ 8 2)).1 = true := f1.trans c
    have ee : eipV (cmA σ) = -1 := by unfold eipV eP; rw [if_pos cX]
    have hY : rc5 τ = up (rc3 τ) 84 8 0 := if_pos c
    have hIV := IV_5 hb ht h9
    rw [← hY] at hIV
    obtain ⟨m, hm⟩ := PgE_5 hb ht h9 c
    have hme := PgE_len hIV.1 m 0 he.1 hm
    have Y8 : rc5 τ 84 8 = 0 := by rw [hY, up_s]
    have Yz : ∀ j, j = 10 ∨ j = 15 ∨ j = 23 ∨ j = 25 ∨ j = 30 ∨ j = 36 ∨ j = 39 ∨ j = 38 → rc5 τ 84 j = 0 := fun j hj => by
      rw [hY, up_j _ _ (by omega), rc3_o (by omega), rc1_o hb ht (by decide)]
      rcases hj with rfl | rfl | rfl | rfl | rfl | rfl | rfl | rfl <;> rfl
    have Y4 : rc5 τ 84 4 = -1 := by rw [hY, up_j _ _ (by decide), rc3_o (by decide), rc1_o hb ht (by decide)]; rfl
    -- reading begins
    have P0k : ∀ k, k ≠ 51 → rp0 (cmB σ) k = cmB σ k := fun k hk => by unfold rp0; rw [up_r _ _ _ hk, up_r _ _ _ hk, up_r _ _ _ hk]
    have P06 : rp0 (cmB σ) 51 6 = 0 ∧ rp0 (cmB σ) 51 7 = 0 ∧ rp0 (cmB σ) 51 8 = -1 := by
      unfold rp0
      exact ⟨by rw [up_j _ _ (by decide), up_j _ _ (by decide), up_s], by rw [up_j _ _ (by decide), up_s], up_s _ _ _ _⟩
    have P0F : FrM (cmB σ) (rp0 (cmB σ)) := fun k hk => P0k k (by omega)
    have P0T := P0F.tc BTC
    obtain ⟨z10, z12, z14, z16, z18, z9⟩ := Asz
    have cp0 := caps (rp0 (cmB σ)) (fun k j hk => by
      have hk2 := hk
      unfold Cp at hk2
      rw [P0k k (by omega)]; exact Bcp k j hk)
    have P0A : ∀ k, k ≠ 51 ∧ k ≠ 0 ∧ k ≠ 8 → rp0 (cmB σ) k = cmA σ k := fun k hk => by rw [P0k k hk.1, Bk k hk.2]
    have hRR : RR (rp0 (cmB σ)) (rc5 τ) := by
      unfold RR TgR
      rw [Yz 10 (by decide), Yz 15 (by decide), Yz 23 (by decide), Yz 36 (by decide), Yz 30 (by decide), Yz 25 (by decide)]
      refine ⟨⟨by rw [P0A 10 (by decide)]; exact z10, by decide, by decide, cp0.1, fun j hj => by omega, Uq_0⟩, ⟨by rw [P0A 12 (by decide)]; exact z12, by decide, by decide, cp0.2.1, fun j hj => by omega, Uq_0⟩, ⟨by rw [P0A 14 (by decide)]; exact z14, by decide, by decide, cp0.2.2.1, fun j hj => by omega, Uq_0⟩, ⟨by rw [P0A 16 (by decide)]; exact z16, by decide, by decide, cp0.2.2.2, fun j hj => by omega, Uq_0⟩, ⟨by rw [P0A 18 (by decide)]; exact z18, by rw [P0A 9 (by decide)]; exact z9⟩, fun j hj => by omega, fun j hj => by omega, fun j hj => by omega, fun j hj => by omega, fun j f hj => by omega⟩
    have hpg := pg_ok m 1500 1502 (rp0 (cmB σ)) (rc5 τ) 0 (by omega) (by omega) hIV P0T hRR ⟨Int.le_refl _, he.1⟩ P06.1 Y8 hm
    have ex : rpE (rpL 1500 true (rp0 (cmB σ))) = rpM (cmB σ) := rfl
    rw [ex] at hpg
    have e6 : rc6 τ = mnL (rcK τ) (Vx (rc1 τ)) (Nx (rc1 τ)) (Sx (rc1 τ)) 1502 (rc5 τ) := if_pos c
    have yz : ∀ k j, Fz k j → (rc6 τ).2 k j = rc5 τ k j := fun k j hk => by rw [e6]; exact mnL_z hk m 1502 (rc5 τ) hIV (by rw [Y8]; exact hm) (by omega)
    have hinv : (rc6 τ).1 = 0 → IV (rcE τ) (rcK τ) (Vx (rc1 τ)) (Nx (rc1 τ)) (Sx (rc1 τ)) (rc6 τ).2 := fun h0 => by
      rw [e6] at h0 ⊢
      exact mnL_inv m 1502 (rc5 τ) hIV (by rw [Y8]; exact hm) (by omega) h0
    rw [← e6] at hpg
    have xcp : ∀ k j, Cp k j → rpM (cmB σ) k j = σ k j := fun k j hk => by rw [Cp_rp hk]; exact Bcp k j hk
    have y85 : (rc6 τ).2 85 = τ 85 := by
      funext j
      rw [yz 85 j (Or.inl (by decide)), hY, up_k _ _ (by decide), r85]
    have y86 : ∀ k, k = 86 ∨ k = 87 ∨ k = 88 → (rc6 τ).2 k = rc3 τ k := fun k hk => by
      funext j
      rw [yz k j (Or.inl (by omega)), hY, up_k _ _ (by omega)]
    have y9 : (rc6 τ).2 84 9 = rc3 τ 84 9 := by rw [yz 84 9 (Or.inr (by decide)), hY, up_j _ _ (by decide)]
    have y39 : (rc6 τ).2 84 39 = 0 := by rw [yz 84 39 (Or.inr (by decide))]; exact Yz 39 (by decide)
    have y38 : (rc6 τ).2 84 38 = 0 := by rw [yz 84 38 (Or.inr (by decide))]; exact Yz 38 (by decide)
    obtain ⟨xF, hcase⟩ := hpg
    have xA : ∀ k, (k < 9 ∧ k ≠ 0 ∧ k ≠ 8) ∨ 54 < k → rpM (cmB σ) k = cmA σ k := fun k hk => by rw [xF k (by omega), P0A k (by omega)]
    have x09 : rpM (cmB σ) 0 9 = 0 := by rw [xF 0 (by decide), P0k 0 (by decide)]; exact B09
    have ei : i32 (eipV (cmA σ)) = i32 (-1) := by rw [ee]
    have xT := xF.tc P0T
    unfold rzV
    rcases hcase with ⟨g1, g2, g3, g4, g5, g6, g7⟩ | ⟨g1, g2, g3, g4⟩
    · -- a right program
      have x7 : rpM (cmB σ) 51 7 = 0 := by rw [g2]; exact P06.2.1
      have x8 : rpM (cmB σ) 51 8 = -1 := by rw [g3]; exact P06.2.2
      obtain ⟨v1, v2⟩ := cm_b ei (by rw [x7]; rfl)
      rw [v1, v2, g1]
      refine ⟨rfl, ?_⟩
      have hIy := hinv g1
      have eD : cmD σ = up (rpM (cmB σ)) 0 8 (-1) := by
        unfold cmD
        rw [x8]
        have : SC (rpM (cmB σ)) (-1) = -1 := if_neg (fun w => by have := w.1; rw [em1] at this; omega)
        rw [this]
      have Dk : ∀ k, k ≠ 0 → cmD σ k = rpM (cmB σ) k := fun k hk => by rw [eD]; exact up_r _ _ _ hk
      have DT : TC (cmD σ) (rcE τ) (rcK τ) (Vx (rc1 τ)) (Nx (rc1 τ)) (Sx (rc1 τ)) := xT.fr (Dk 3 (by decide)) (Dk 5 (by decide)) (Dk 6 (by decide)) (Dk 7 (by decide))
      have DR : RR (cmD σ) (rc6 τ).2 := g5.fr (fun k hk => Dk k (by omega)) (fun _ _ => rfl) (fun _ _ => rfl)
      obtain ⟨n1, n2, n3, n4, n5, n6, n7⟩ := mean_ok hIy DT DR
      have e7 : rc7 τ = fW ((rc6 τ).2 84 25) (szG (rcK τ) (Vx (rc1 τ))) 8 0 (rc6 τ).2 := by unfold rc7 szL; rw [g1, if_pos rfl]
      have eZ : rzS τ = up (up (rc7 τ) 84 2 0) 84 3 1 := if_pos g1
      rw [eZ, e7]
      generalize hW : fW ((rc6 τ).2 84 25) (szG (rcK τ) (Vx (rc1 τ))) 8 0 (rc6 τ).2 = W at n1 n2 n3 n4 n6 n7 ⊢
      obtain ⟨hTy, hCy, hDy, -⟩ := hIy
      have hCW : Cn W := hCy.cg (n7 10 (by decide)) (n7 15 (by decide)) (n7 23 (by decide)) (n7 25 (by decide)) (n7 30 (by decide)) (n7 36 (by decide))
      have hDW : Dn W := hDy.cg (n7 10 (by decide)) (n7 15 (by decide)) (fun j _ => ⟨congrFun (n6 94 (by decide)) j, congrFun (n6 95 (by decide)) j, congrFun (n6 96 (by decide)) j, fun f _ => congrFun (n6 99 (by decide)) _⟩) (n6 90 (by decide)) (n6 91 (by decide))
      have W39 : W 84 39 = 0 := (n7 39 (by decide)).trans y39
      have hPW : PI W := ⟨hCW, hDW, n2, by rw [W39]; decide, fun d c hd => by rw [W39] at hd; omega⟩
      have fdk : ∀ k, k ≠ 0 ∧ k ≠ 22 ∧ k ≠ 33 ∧ k ≠ 50 → fdM (cmD σ) k = rpM (cmB σ) k := fun k hk => by rw [n5 k hk.2, Dk k hk.1]
      have hPT : PI (up (up W 84 2 0) 84 3 1) := hPW
      have hRMW : RM (fdM (cmD σ)) W := RM_0 (by rw [fdk 55 (by decide), xA 55 (by decide)]; exact Am1) (by rw [fdk 55 (by decide), xA 55 (by decide)]; exact Am2) W39 (fun x hx => by rw [fdk 59 (by decide), xA 59 (by decide)]; exact Am3 x (by have := hCW.2.1; omega)) (fun r hr => by rw [fdk 60 (by decide), xA 60 (by decide)]; exact Am4 r (by have := hCW.2.2.2.2.1; omega)) hPW n3
      refine ⟨hPT, n3, n1, hRMW, n4, kw _ (by rw [fdk 4 (by decide), xA 4 (by decide)]), caps _ (fun k j hk => ?_), ByS_0 ?_ ?_, ⟨⟨?_, fun j => ?_⟩, ?_, ?_⟩, ⟨?_, ?_⟩, Or.inr ⟨up_s _ _ _ _, ?_⟩⟩
      · have hk2 := hk
        unfold Cp at hk2
        rw [fdk k (by omega)]; exact xcp k j hk
      · rw [fdk 1 (by decide), xA 1 (by decide)]; exact A1
      · rw [up_j _ _ (by decide), up_s]
      · rw [up_j _ _ (by decide), up_s]; decide
      · rw [up_k _ _ (by decide), up_k _ _ (by decide), n6 85 (by decide), y85]; exact hb.2 j
      · refine rRt.fr ?_ ?_ ?_
        · rw [up_r _ _ _ (by decide), up_r _ _ _ (by decide), n6 86 (by decide), y86 86 (by decide)]
        · rw [up_r _ _ _ (by decide), up_r _ _ _ (by decide), n6 87 (by decide), y86 87 (by decide)]
        · rw [up_r _ _ _ (by decide), up_r _ _ _ (by decide), n6 88 (by decide), y86 88 (by decide)]
      · rw [up_j _ _ (by decide), up_j _ _ (by decide), n7 9 (by decide), y9]; exact r9
      · rw [n5 0 (by decide), eD, up_s, up_j _ _ (by decide), up_j _ _ (by decide), n7 4 (by decide), g4, Y4]
      · rw [n5 0 (by decide), eD, up_j _ _ (by decide), x09, up_j _ _ (by decide), up_j _ _ (by decide), n7 38 (by decide), y38]
      · rw [up_j _ _ (by decide), up_j _ _ (by decide), n7 15 (by decide)]; exact g6
    · -- an error of meaning
      have g0 : ¬ (rc6 τ).1 = 0 := by omega
      obtain ⟨v1, v2⟩ := cm_c ei (by rw [g2, i32_n _ (by omega)]; exact g0)
      rw [v1, v2, g2]
      refine ⟨rfl, ?_⟩
      have e7 : rc7 τ = (rc6 τ).2 := by unfold rc7 szL; rw [if_neg g0]
      have eZ : rzS τ = fgS (up (up (rc7 τ) 84 2 0) 84 3 0) := if_neg g0
      rw [eZ, e7]
      have eSC : SC (rpM (cmB σ)) (rpM (cmB σ) 51 8) = (rc6 τ).2 84 4 := by rw [(xT.2 _ g3.1 g3.2).2.2.2, g4]
      have eD : cmD σ = up (rpM (cmB σ)) 0 8 ((rc6 τ).2 84 4) := by unfold cmD; rw [eSC]
      have Ck : ∀ k, k < 9 ∨ 54 < k → clrC (cmD σ) k = cmD σ k := fun k hk => clrC_r _ (by omega)
      have Dk : ∀ k, k ≠ 0 → cmD σ k = rpM (cmB σ) k := fun k hk => by rw [eD]; exact up_r _ _ _ hk
      refine Rel_zero (clr_sz _) (fun j hj => fg_z _ j (by omega)) (kw _ (by rw [Ck 4 (by decide), Dk 4 (by decide), xA 4 (by decide)])) (caps _ (fun k j hk => ?_)) ?_ ?_ (ByS_0 ?_ ?_) ⟨?_, fun j => ?_⟩ ?_ ?_ ?_ ?_ (fg_z _ 3 (by decide))
      · have hk2 := hk
        unfold Cp at hk2
        rw [clr_cp _ hk, Dk k (by omega)]; exact xcp k j hk
      · rw [Ck 55 (by decide), Dk 55 (by decide), xA 55 (by decide)]; exact Am1
      · rw [Ck 55 (by decide), Dk 55 (by decide), xA 55 (by decide)]; exact Am2
      · rw [Ck 1 (by decide), Dk 1 (by decide), xA 1 (by decide)]; exact A1
      · rw [fg_j _ (by decide), up_j _ _ (by decide), up_s]
      · rw [fg_j _ (by decide), up_j _ _ (by decide), up_s]; decide
      · rw [fg_k _ (by decide), up_k _ _ (by decide), up_k _ _ (by decide), y85]; exact hb.2 j
      · refine rRt.fr ?_ ?_ ?_
        · rw [fg_k _ (by decide), up_r _ _ _ (by decide), up_r _ _ _ (by decide), y86 86 (by decide)]
        · rw [fg_k _ (by decide), up_r _ _ _ (by decide), up_r _ _ _ (by decide), y86 87 (by decide)]
        · rw [fg_k _ (by decide), up_r _ _ _ (by decide), up_r _ _ _ (by decide), y86 88 (by decide)]
      · rw [fg_j _ (by decide), up_j _ _ (by decide), up_j _ _ (by decide), y9]; exact r9
      · rw [Ck 0 (by decide), eD, up_s, fg_j _ (by decide), up_j _ _ (by decide), up_j _ _ (by decide)]
      · rw [Ck 0 (by decide), eD, up_j _ _ (by decide), x09, fg_z _ 38 (by decide)]
  · -- an error of form
    have cX : ¬ (pQ (KC (cmA σ)) 1500 true (0, cmA σ 8 2)).1 = true := fun w => c (f1.symm.trans w)
    have ee : eipV (cmA σ) = Sx (rc1 τ) (qP τ).2.1 := by unfold eipV eP; rw [if_neg cX, eS]
    have ne : i32 (eipV (cmA σ)) ≠ i32 (-1) := by rw [ee, i32_n _ (by omega), em1]; omega
    obtain ⟨v1, v2⟩ := cm_a ne
    have e6 : rc6 τ = (1, rc5 τ) := if_neg c
    have g0 : ¬ (rc6 τ).1 = 0 := by rw [e6]; exact fun w => absurd (show (1 : Int) = 0 from w) (by decide)
    have e7 : rc7 τ = rc5 τ := by unfold rc7 szL; rw [if_neg g0, e6]
    have eZ : rzS τ = fgS (up (up (rc7 τ) 84 2 0) 84 3 0) := if_neg g0
    have e5 : rc5 τ = up (up (rc3 τ) 84 4 (Sx (rc1 τ) (qP τ).2.1)) 84 8 0 := if_neg c
    have eV : rzV τ = 1 := by unfold rzV; rw [e6]
    rw [v1, v2, eV, eZ, e7]
    refine ⟨rfl, ?_⟩
    have k5 : ∀ k, k ≠ 84 → rc5 τ k = rc3 τ k := fun k hk => by rw [e5, up_r _ _ _ hk, up_r _ _ _ hk]
    refine Rel_zero ?_ (fun j hj => fg_z _ j (by omega)) (kw _ (Bk 4 (by decide))) (caps _ Bcp) ?_ ?_ (ByS_0 ?_ ?_) ⟨?_, fun j => ?_⟩ ?_ ?_ ?_ ?_ (fg_z _ 3 (by decide))
    · rw [Bk 10 (by decide), Bk 12 (by decide), Bk 14 (by decide), Bk 16 (by decide), Bk 18 (by decide), Bk 9 (by decide)]; exact Asz
    · rw [Bk 55 (by decide)]; exact Am1
    · rw [Bk 55 (by decide)]; exact Am2
    · rw [Bk 1 (by decide)]; exact A1
    · rw [fg_j _ (by decide), up_j _ _ (by decide), up_s]
    · rw [fg_j _ (by decide), up_j _ _ (by decide), up_s]; decide
    · rw [fg_k _ (by decide), up_k _ _ (by decide), up_k _ _ (by decide), k5 85 (by decide), r85]; exact hb.2 j
    · refine rRt.fr ?_ ?_ ?_
      · rw [fg_k _ (by decide), up_r _ _ _ (by decide), up_r _ _ _ (by decide), k5 86 (by decide)]
      · rw [fg_k _ (by decide), up_r _ _ _ (by decide), up_r _ _ _ (by decide), k5 87 (by decide)]
      · rw [fg_k _ (by decide), up_r _ _ _ (by decide), up_r _ _ _ (by decide), k5 88 (by decide)]
    · rw [fg_j _ (by decide), up_j _ _ (by decide), up_j _ _ (by decide), e5, up_j _ _ (by decide), up_j _ _ (by decide)]; exact r9
    · rw [B08, ee, fg_j _ (by decide), up_j _ _ (by decide), up_j _ _ (by decide), e5, up_j _ _ (by decide), up_s]
    · rw [B09, fg_z _ 38 (by decide)]
end S75
