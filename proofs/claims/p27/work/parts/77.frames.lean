/-! what a call never changes of the other side's cells -/
section S77
variable {σ τ : Sg}
theorem cmA_r {k : Nat} (hk : 84 ≤ k) : cmA σ k = σ k := by
  unfold cmA
  rw [shortC_r _ _ (by omega), readC_r _ (by omega), up_r _ _ _ (by omega), bgC_r _ _ (by omega), clrC_r _ (by omega)]
theorem fdM_r {k : Nat} (hk : 84 ≤ k) : fdM σ k = σ k := by
  have e : ∀ (s : Sg) (t ah : Int), suS s t ah k = s k := fun s t ah => by unfold suS stE; rw [up_r _ _ _ (by omega), up_r _ _ _ (by omega)]
  unfold fdM
  rw [fG_r (fun i q _ => by
    unfold fd2
    split
    · rfl
    · exact up_r _ _ _ (by omega)), fG_r (fun i q _ => by unfold fd1; rw [up_r _ _ _ (by omega), e])]
theorem Rel.compile_c (h : Rel σ τ) {k : Nat} (hk : 84 ≤ k) : cmS σ k = σ k := by
  obtain ⟨hTC, A1, Asz, A4, Acp, ⟨Am1, Am2, Am3, Am4⟩, A09⟩ := cmA_ok h
  obtain ⟨a1, a2, a3, a4, a5, a6, a7, a8, ⟨hb, ht, h9⟩, a10, a11⟩ := h
  have hT2 := Tk_2 hb ht h9
  have hT3 := Tk_3 hb ht h9
  have he := hT2.e
  have hSq := PQ_0 (HK_of hTC hT2.E) (0, cmA σ 8 2) (rc2 τ 84 8, rc2 τ 84 9) rfl rfl (hT2.bd ⟨Int.le_refl _, he.1⟩) hT2
  have eQ : qProg (rcK τ) 1501 (rc2 τ 84 8, rc2 τ 84 9) = qP τ := rfl
  rw [eQ] at hSq
  obtain ⟨f1, f2, f3, f4⟩ := hSq
  have eS : SC (cmA σ) (pQ (KC (cmA σ)) 1500 true (0, cmA σ 8 2)).2.1 = Sx (rc1 τ) (qP τ).2.1 := by
    rw [(hTC.2 _ f3 f4).2.2.2, f2]
  have hSb := Sx_bd hb ht (qP τ).2.1
  -- the state behind the form
  have Bk : ∀ k, k ≠ 0 ∧ k ≠ 8 → cmB σ k = cmA σ k := fun k hk => by unfold cmB eipS; rw [up_r _ _ _ hk.1, stF_r _ _ hk.2]
  have B09 : cmB σ 0 9 = 0 := by unfold cmB eipS; rw [up_j _ _ (by decide), stF_r _ _ (by decide)]; exact A09
  have B08 : cmB σ 0 8 = eipV (cmA σ) := cmB_08 σ
  have Bcp : ∀ k j, Cp k j → cmB σ k j = σ k j := fun k j hk => by
    have hk2 := hk
    unfold Cp at hk2
    rw [Bk k (by omega)]; exact Acp k j hk
  have caps : ∀ z : Sg, (∀ k j, Cp k j → z k j = σ k j) → z 10 1 = 16 ∧ z 12 1 = 16 ∧ z 14 1 = 4 ∧ z 16 1 = 16 := fun z hz => by
    rw [hz 10 1 ⟨by decide, rfl⟩, hz 12 1 ⟨by decide, rfl⟩, hz 14 1 ⟨by decide, rfl⟩, hz 16 1 ⟨by decide, rfl⟩]
    exact a7
  have kw : ∀ z : Sg, z 4 = cmA σ 4 → KwOk z := fun z hz => by unfold KwOk; rw [hz, A4]; exact a6
  have BTC : TC (cmB σ) (rcE τ) (rcK τ) (Vx (rc1 τ)) (Nx (rc1 τ)) (Sx (rc1 τ)) := hTC.fr (Bk 3 (by decide)) (Bk 5 (by decide)) (Bk 6 (by decide)) (Bk 7 (by decide))
  -- the reference's state behind the form
  have r85 : rc3 τ 85 = τ 85 := by rw [rc3_k (by decide), rc1_o hb ht (by decide)]; rfl
  have rRt : Rt (rc3 τ) := hT3.1.2.1
  have r9 : 0 ≤ rc3 τ 84 9 ∧ rc3 τ 84 9 ≤ 1500 := hT3.2.2.2.2
  by_cases c : (qP τ).1 = true
  · have cX : (pQ (KC (cmA σ)) 1500 true (0, cmA σ 8 2)).1 = true := f1.trans c
    have ee : eipV (cmA σ) = -1 := by unfold eipV eP; rw [if_pos cX]
    have hY : rc5 τ = up (rc3 τ) 84 8 0 := if_pos c
    have hIV := IV_5 hb ht h9
    rw [← hY] at hIV
    obtain ⟨m, hm⟩ := PgE_5 hb ht h9 c
    have hme := PgE_len hIV.1 m 0 he.1 hm
    have Y8 : rc5 τ 84 8 = 0 := by rw [hY, up_s]
    have Yz : ∀ j, j = 10 ∨ j = 15 ∨ j = 23 ∨ j = 25 ∨ j = 30 ∨ j = 36 ∨ j = 39 ∨ j = 38 → rc5 τ 84 j = 0 := fun j hj => by
      rw [hY, up_j _ _ (by omega), rc3_o (by omega), rc1_o hb ht (by decide)]
      rcases hj with rfl | rfl | rfl | rfl | rfl | rfl | rfl | rfl <;> rfl
    have Y4 : rc5 τ 84 4 = -1 := by rw [hY, up_j _ _ (by decide), rc3_o (by decide), rc1_o hb ht (by decide)]; rfl
    -- reading begins
    have P0k : ∀ k, k ≠ 51 → rp0 (cmB σ) k = cmB σ k := fun k hk => by unfold rp0; rw [up_r _ _ _ hk, up_r _ _ _ hk, up_r _ _ _ hk]
    have P06 : rp0 (cmB σ) 51 6 = 0 ∧ rp0 (cmB σ) 51 7 = 0 ∧ rp0 (cmB σ) 51 8 = -1 := by
      unfold rp0
      exact ⟨by rw [up_j _ _ (by decide), up_j _ _ (by decide), up_s], by rw [up_j _ _ (by decide), up_s], up_s _ _ _ _⟩
    have P0F : FrM (cmB σ) (rp0 (cmB σ)) := fun k hk => P0k k (by omega)
    have P0T := P0F.tc BTC
    obtain ⟨z10, z12, z14, z16, z18, z9⟩ := Asz
    have cp0 := caps (rp0 (cmB σ)) (fun k j hk => by
      have hk2 := hk
      unfold Cp at hk2
      rw [P0k k (by omega)]; exact Bcp k j hk)
    have P0A : ∀ k, k ≠ 51 ∧ k ≠ 0 ∧ k ≠ 8 → rp0 (cmB σ) k = cmA σ k := fun k hk => by rw [P0k k hk.1, Bk k hk.2]
    have hRR : RR (rp0 (cmB σ)) (rc5 τ) := by
      unfold RR TgR
      rw [Yz 10 (by decide), Yz 15 (by decide), Yz 23 (by decide), Yz 36 (by decide), Yz 30 (by decide), Yz 25 (by decide)]
      refine ⟨⟨by rw [P0A 10 (by decide)]; exact z10, by decide, by decide, cp0.1, fun j hj => by omega, Uq_0⟩, ⟨by rw [P0A 12 (by decide)]; exact z12, by decide, by decide, cp0.2.1, fun j hj => by omega, Uq_0⟩, ⟨by rw [P0A 14 (by decide)]; exact z14, by decide, by decide, cp0.2.2.1, fun j hj => by omega, Uq_0⟩, ⟨by rw [P0A 16 (by decide)]; exact z16, by decide, by decide, cp0.2.2.2, fun j hj => by omega, Uq_0⟩, ⟨by rw [P0A 18 (by decide)]; exact z18, by rw [P0A 9 (by decide)]; exact z9⟩, fun j hj => by omega, fun j hj => by omega, fun j hj => by omega, fun j hj => by omega, fun j f hj => by omega⟩
    have hpg := pg_ok m 1500 1502 (rp0 (cmB σ)) (rc5 τ) 0 (by omega) (by omega) hIV P0T hRR ⟨Int.le_refl _, he.1⟩ P06.1 Y8 hm
    have ex : rpE (rpL 1500 true (rp0 (cmB σ))) = rpM (cmB σ) := rfl
    rw [ex] at hpg
    have e6 : rc6 τ = mnL (rcK τ) (Vx (rc1 τ)) (Nx (rc1 τ)) (Sx (rc1 τ)) 1502 (rc5 τ) := if_pos c
    have yz : ∀ k j, Fz k j → (rc6 τ).2 k j = rc5 τ k j := fun k j hk => by rw [e6]; exact mnL_z hk m 1502 (rc5 τ) hIV (by rw [Y8]; exact hm) (by omega)
    have hinv : (rc6 τ).1 = 0 → IV (rcE τ) (rcK τ) (Vx (rc1 τ)) (Nx (rc1 τ)) (Sx (rc1 τ)) (rc6 τ).2 := fun h0 => by
      rw [e6] at h0 ⊢
      exact mnL_inv m 1502 (rc5 τ) hIV (by rw [Y8]; exact hm) (by omega) h0
    rw [← e6] at hpg
    have xcp : ∀ k j, Cp k j → rpM (cmB σ) k j = σ k j := fun k j hk => by rw [Cp_rp hk]; exact Bcp k j hk
    have y85 : (rc6 τ).2 85 = τ 85 := by
      funext j
      rw [yz 85 j (Or.inl (by decide)), hY, up_k _ _ (by decide), r85]
    have y86 : ∀ k, k = 86 ∨ k = 87 ∨ k = 88 → (rc6 τ).2 k = rc3 τ k := fun k hk => by
      funext j
      rw [yz k j (Or.inl (by omega)), hY, up_k _ _ (by omega)]
    have y9 : (rc6 τ).2 84 9 = rc3 τ 84 9 := by rw [yz 84 9 (Or.inr (by decide)), hY, up_j _ _ (by decide)]
    have y39 : (rc6 τ).2 84 39 = 0 := by rw [yz 84 39 (Or.inr (by decide))]; exact Yz 39 (by decide)
    have y38 : (rc6 τ).2 84 38 = 0 := by rw [yz 84 38 (Or.inr (by decide))]; exact Yz 38 (by decide)
    obtain ⟨xF, -⟩ := hpg
    have eR : rpM (cmB σ) k = σ k := by rw [xF k (Or.inr (Or.inr (by omega))), P0k k (by omega), Bk k (by omega), cmA_r hk]
    have eD : cmD σ k = σ k := by unfold cmD; rw [up_r _ _ _ (by omega), eR]
    unfold cmS
    split
    · split
      · rw [fdM_r hk, eD]
      · rw [clrC_r _ (by omega), eD]
    · rw [Bk k (by omega), cmA_r hk]
  · have cX : ¬ (pQ (KC (cmA σ)) 1500 true (0, cmA σ 8 2)).1 = true := fun w => c (f1.symm.trans w)
    have ee : eipV (cmA σ) = Sx (rc1 τ) (qP τ).2.1 := by unfold eipV eP; rw [if_neg cX, eS]
    have ne : i32 (eipV (cmA σ)) ≠ i32 (-1) := by rw [ee, i32_n _ (by omega), em1]; omega
    rw [(cm_a ne).2, Bk k (by omega), cmA_r hk]
theorem teS_c {k : Nat} (hk : 84 ≤ k) : teS σ k = σ k := by
  have eA : teA σ k = σ k := by unfold teA; rw [shortC_r _ _ (by omega), readC_r _ (by omega), up_r _ _ _ (by omega)]
  have eB : teB σ k = σ k := by unfold teB eicS; rw [up_r _ _ _ (by omega), stF_r _ _ (by omega), eA]
  unfold teS
  split
  · split
    · rw [up_r _ _ _ (by omega), eB]
    · unfold suS stE; rw [up_r _ _ _ (by omega), up_r _ _ _ (by omega), up_r _ _ _ (by omega), eB]
  · exact eB
theorem feS_c {k : Nat} (hk : 84 ≤ k) (a b c d e : Int) : feS σ a b c d e k = σ k := by
  unfold feS feT
  split
  · rfl
  · rw [tpC_r _ _ (by omega), tpC_r _ _ (by omega), tpC_r _ _ (by omega), tpC_r _ _ (by omega), tpC_r _ _ (by omega)]
theorem trS_c {k : Nat} (hk : 84 ≤ k) (n : Int) : trS σ n k = σ k := by
  unfold trS
  split
  · rfl
  · exact shortC_r _ _ (by omega)
theorem bfC_c {k : Nat} (hk : 84 ≤ k) (s : Sg) (d c : Int) : (bfC s d c).2 k = s k := by
  unfold bfC
  rw [fG_rp (p := fun q : Int × Sg => q.2) (fun i q _ => by
    unfold bfG
    split
    · dsimp only; rw [ptC_r _ _ _ _ (by omega), ptC_r _ _ _ _ (by omega)]
    · rfl)]
theorem biC_c {k : Nat} (hk : 84 ≤ k) (s : Sg) (d c few : Int) : (biC s d c few).2.2 k = s k := by
  unfold biC
  rw [fG_rp (p := fun q : Int × Int × Sg => q.2.2) (fun i q _ => by
    unfold biG
    split
    · split
      · dsimp only; rw [ptC_r _ _ _ _ (by omega)]
      · dsimp only; rw [ptC_r _ _ _ _ (by omega)]
    · rfl)]
theorem cb1_c {k : Nat} (hk : 84 ≤ k) (d c : Int) (q : T5) : (cb1 d c q).2.2.2.2 k = q.2.2.2.2 k := by
  unfold cb1
  split
  · dsimp only; rw [ptC_r _ _ _ _ (by omega)]; unfold cbA; rw [biC_c hk]
  · dsimp only; rw [ptC_r _ _ _ _ (by omega), ptC_r _ _ _ _ (by omega)]; unfold cbA; rw [biC_c hk]
theorem cbC_c {k : Nat} (hk : 84 ≤ k) : cbC σ k = σ k := by
  unfold cbC
  rw [ptC_r _ _ _ _ (by omega)]
  unfold cb3
  rw [fG_rp (p := fun q : T5 => q.2.2.2.2) (fun i q _ => by
    unfold cb2
    exact fG_rp (p := fun q : T5 => q.2.2.2.2) (fun i q _ => cb1_c hk _ _ q) _ _ _)]
theorem plS_c {k : Nat} (hk : 84 ≤ k) (d : Int) : plS σ d k = σ k := by
  unfold plS
  split
  · rfl
  · split
    · rfl
    · unfold flmC
      rw [fG_r (fun i q _ => by unfold flm2; rw [fG_r (fun i q _ => by unfold flm1; rw [ptC_r _ _ _ _ (by omega), bfC_c hk])]), bgC_r _ _ (by omega)]
theorem seS_c {k : Nat} (hk : 84 ≤ k) (d c x : Int) : seS σ d c x k = σ k := by
  unfold seS
  split
  · split
    · exact ptC_r _ _ _ _ (by omega)
    · rfl
  · rfl
theorem xcS_c {k : Nat} (hk : 84 ≤ k) (a b : Int) : xcS σ a b k = σ k := by
  unfold xcS
  split
  · split
    · rfl
    · unfold xcT
      exact fG_r (fun i q _ => by unfold xcG; rw [ptC_r _ _ _ _ (by omega), ptC_r _ _ _ _ (by omega)]) _ _ _
  · rfl
variable {e : Int} {K V N S : Int → Int}
def Fy (k j : Nat) : Prop := (k < 84 ∨ 111 < k) ∧ j = j
theorem Fy_u {k j q i : Nat} {v : Int} (h : Fy k j) (hq : 84 ≤ q ∧ q ≤ 111) (σ : Sg) : up σ q i v k j = σ k j := up_k _ _ (by have := h.1; omega)
theorem Fy_i {k j q : Nat} (h : Fy k j) (_ : q = q) (σ : Sg) : incS q σ k j = σ k j := incS_k _ (by have := h.1; omega) _
theorem Fy_o {k j q : Nat} {v : Int} (h : Fy k j) (_ : q = q) (σ : Sg) : up σ 84 q v k j = σ k j := up_k _ _ (by have := h.1; omega)
theorem Fy_t {k j : Nat} (h : Fy k j) (σ : Sg) : (thC K V σ).2 k j = σ k j := thC_keep (by have := h.1; omega) σ
theorem foM_y {k j : Nat} (h : Fy k j) (first : Int) : (foM K V N S first σ).2 k j = σ k j := by
  have q : ∀ (f : Nat) (v en pr : Int) (x : Sg), (fdT K V S f v en pr x).2 k j = x k j := by
    intro f v en pr x
    unfold fdT
    split
    · dsimp only; rw [Fy_o h (by decide), Fy_t h]
    · dsimp only; rw [Fy_i h (by decide), Fy_u h (by decide), Fy_u h (by decide), Fy_u h (by decide), Fy_u h (by decide), Fy_t h]
  unfold foM
  split
  · exact Fy_o h (by decide) _
  · split
    · exact Fy_o h (by decide) _
    · split
      · dsimp only; rw [Fy_o h (by decide), Fy_i h (by decide)]
      · split
        · split
          · dsimp only; rw [Fy_o h (by decide), Fy_i h (by decide), Fy_i h (by decide), Fy_i h (by decide)]
          · rw [q, Fy_i h (by decide), Fy_i h (by decide), Fy_i h (by decide), Fy_i h (by decide)]
        · rw [q, Fy_i h (by decide), Fy_i h (by decide)]
theorem dpL_y {k j : Nat} (h : Fy k j) (n : Nat) (x : Sg) (hC : Cn x) : (dpL K V N S n x).2 k j = x k j := by
  rw [dpL_k (by have := h.1; omega) _ _ hC]
theorem dsM_y {k j : Nat} (h : Fy k j) (hI : IV e K V N S σ) (first : Int) : (dsM K V N S first σ).2 k j = σ k j := by
  have q1 : ∀ n2 : Int, dsZ (σ 84 15) n2 σ k j = σ k j := by
    intro n2
    rw [dsZ_k (by have := h.1; omega)]
  unfold dsM
  split
  · exact Fy_o h (by decide) _
  · rename_i c1
    split
    · exact Fy_o h (by decide) _
    · split
      · rename_i c2
        have hC2 := (DI.z (n2 := N (σ 84 8 + 2)) hI.1 hI.2.1 hI.2.2.1 (by have := hI.2.1.2.1; omega)).2.1
        have q2 := dpL_y (K := K) (V := V) (N := N) (S := S) h 1501 _ hC2
        rw [q1] at q2
        unfold dsP
        split
        · unfold dsE
          split
          · dsimp only; rw [Fy_o h (by decide), Fy_t h]; exact q2
          · split
            · dsimp only; rw [Fy_o h (by decide)]; unfold dsT; rw [Fy_u h (by decide), Fy_t h]; exact q2
            · dsimp only; rw [Fy_i h (by decide), Fy_u h (by decide)]; unfold dsT; rw [Fy_u h (by decide), Fy_t h]; exact q2
        · exact q2
      · dsimp only; rw [Fy_o h (by decide), Fy_o h (by decide)]
theorem loL_y {k j : Nat} (h : Fy k j) : ∀ (n : Nat) (x : Sg), (loL K V S n x).2 k j = x k j := by
  intro n x
  rw [loL_k (by have := h.1; omega)]
theorem meC_y {k j : Nat} (h : Fy k j) : (meC K V S σ).2 k j = σ k j := by
  unfold meC
  split
  · exact Fy_o h (by decide) _
  · unfold loM
    rw [loL_y h]
    unfold meT
    rw [Fy_i h (by decide), Fy_u h (by decide), Fy_u h (by decide), Fy_u h (by decide)]
theorem meL_y {k j : Nat} (h : Fy k j) : ∀ (n : Nat) (x : Sg), (meL K V S n x).2 k j = x k j
  | 0, x => rfl
  | n + 1, x => by
    simp only [meL]
    split
    · split
      · rw [meL_y h n, meC_y h, Fy_i h (by decide)]
      · dsimp only; rw [meC_y h, Fy_i h (by decide)]
    · dsimp only; rw [meC_y h, Fy_i h (by decide)]
theorem meM_y {k j : Nat} (h : Fy k j) (first : Int) : (meM K V S first σ).2 k j = σ k j := by
  unfold meM
  split
  · exact Fy_o h (by decide) _
  · split
    · exact Fy_o h (by decide) _
    · rw [meL_y h, Fy_i h (by decide), Fy_i h (by decide), Fy_u h (by decide)]
theorem ru1_y {k j : Nat} (h : Fy k j) (so : Int) : ru1 σ so k j = σ k j := by unfold ru1; rw [Fy_i h (by decide), Fy_u h (by decide)]
theorem ru2_y {k j : Nat} (h : Fy k j) (so : Int) : ru2 N σ so k j = σ k j := by unfold ru2; rw [Fy_i h (by decide), Fy_u h (by decide), Fy_u h (by decide), Fy_u h (by decide), Fy_u h (by decide), ru1_y h]
theorem ru3_y {k j : Nat} (h : Fy k j) (so : Int) : ru3 V N σ so k j = σ k j := by unfold ru3; rw [Fy_i h (by decide), Fy_u h (by decide), Fy_u h (by decide), ru2_y h]
theorem ruE_y {k j : Nat} (h : Fy k j) (r : Nat) (X : Sg) (p lo hi : Int) : (ruE N S r X p lo hi).2 k j = X k j := by
  unfold ruE
  split
  · dsimp only; rw [Fy_i h (by decide), Fy_i h (by decide), Fy_u h (by decide), Fy_i h (by decide)]
  · dsimp only; rw [Fy_o h (by decide), Fy_i h (by decide)]
theorem ruB_y {k j : Nat} (h : Fy k j) (so lo hi : Int) : (ruB V N S σ so lo hi).2 k j = σ k j := by
  unfold ruB
  split
  · split
    · rw [ruE_y h, ru2_y h]
    · split
      · split
        · dsimp only; rw [Fy_i h (by decide), ru3_y h]
        · rw [ruE_y h, ru3_y h]
      · dsimp only; rw [Fy_o h (by decide), ru2_y h]
  · dsimp only; rw [Fy_o h (by decide), ru1_y h]
theorem ruM_y {k j : Nat} (h : Fy k j) (first : Int) : (ruM K V N S first σ).2 k j = σ k j := by
  unfold ruM
  split
  · exact Fy_o h (by decide) _
  · split
    · exact ruB_y h _ _ _
    · split
      · exact ruB_y h _ _ _
      · split
        · exact ruB_y h _ _ _
        · exact ruB_y h _ _ _
theorem mnI_y {k j : Nat} (h : Fy k j) (hI : IV e K V N S σ) (first : Int) : (mnI K V N S first σ).2 k j = σ k j := by
  unfold mnI
  split
  · exact foM_y h first
  · split
    · exact dsM_y h hI first
    · split
      · exact meM_y h first
      · exact ruM_y h first
theorem mnL_y {k j : Nat} (h : Fy k j) : ∀ (m n : Nat) (σ : Sg), IV e K V N S σ → PgE K m (σ 84 8) → m < n → (mnL K V N S n σ).2 k j = σ k j := by
  intro m
  induction m with
  | zero =>
    intro n σ hI hg hn
    obtain ⟨n, rfl⟩ : ∃ q, n = q + 1 := ⟨n - 1, by omega⟩
    have hg : K (σ 84 8) = 25 := hg
    simp only [mnL]
    rw [if_pos hg]
    split
    · exact Fy_o h (by decide) _
    · rfl
  | succ m ih =>
    intro n σ hI hg hn
    obtain ⟨n, rfl⟩ : ∃ q, n = q + 1 := ⟨n - 1, by omega⟩
    obtain ⟨b, g1, g2⟩ := hg
    simp only [mnL]
    rw [if_neg (It_ne g1)]
    by_cases c : (mnI K V N S (σ 84 8) (incS 8 σ)).1 = 0
    · rw [if_pos c]
      obtain ⟨q1, q2, -⟩ := mnI_inv hI g1 c
      rw [ih n _ q1.i8 (by rw [incS_s, q2]; exact g2) (by omega), Fy_i h (by decide), mnI_y h hI.i8, Fy_i h (by decide)]
    · rw [if_neg c, mnI_y h hI.i8, Fy_i h (by decide)]
theorem rt_y {k : Nat} (hk : k < 84 ∨ 111 < k) (hb : Rb τ) (ht : Rt τ) : rt3 τ k = τ k ∧ rc3 τ k = τ k := by
  refine ⟨?_, ?_⟩
  · rw [rt3_k (by omega), rt1_o hb ht (by omega)]
    unfold rt0
    rw [up_r _ _ _ (by omega), up_r _ _ _ (by omega), up_r _ _ _ (by omega)]
  · rw [rc3_k (by omega), rc1_o hb ht (by omega)]
    unfold rc0
    rw [up_r _ _ _ (by omega), fg_k _ (by omega), up_r _ _ _ (by omega)]
theorem Rel.compile_r (h : Rel σ τ) {k : Nat} (hk : k < 84 ∨ 111 < k) : rzS τ k = τ k := by
  obtain ⟨hb, ht, h9⟩ := h.2.2.2.2.2.2.2.2.1
  have hT2 := Tk_2 hb ht h9
  have he := hT2.e
  have e3 := (rt_y hk hb ht).2
  have e6 : (rc6 τ).2 k = τ k := by
    by_cases c : (qP τ).1 = true
    · have hY : rc5 τ = up (rc3 τ) 84 8 0 := if_pos c
      have hIV := IV_5 hb ht h9
      rw [← hY] at hIV
      obtain ⟨m, hm⟩ := PgE_5 hb ht h9 c
      have hme := PgE_len hIV.1 m 0 he.1 hm
      have Y8 : rc5 τ 84 8 = 0 := by rw [hY, up_s]
      have e6 : rc6 τ = mnL (rcK τ) (Vx (rc1 τ)) (Nx (rc1 τ)) (Sx (rc1 τ)) 1502 (rc5 τ) := if_pos c
      funext j
      rw [e6, mnL_y (k := k) (j := j) ⟨hk, rfl⟩ m 1502 (rc5 τ) hIV (by rw [Y8]; exact hm) (by omega), hY, up_k _ _ (by omega), e3]
    · have e6 : rc6 τ = (1, rc5 τ) := if_neg c
      have e5 : rc5 τ = up (up (rc3 τ) 84 4 (Sx (rc1 τ) (qP τ).2.1)) 84 8 0 := if_neg c
      rw [e6, e5]
      show up (up (rc3 τ) 84 4 _) 84 8 0 k = τ k
      rw [up_r _ _ _ (by omega), up_r _ _ _ (by omega), e3]
  have e7 : rc7 τ k = τ k := by
    unfold rc7 szL
    split
    · rw [fW_r (fun i q _ => by unfold szG; rw [up_r _ _ _ (by omega), up_r _ _ _ (by omega)]), e6]
    · exact e6
  unfold rzS
  split
  · rw [up_r _ _ _ (by omega), up_r _ _ _ (by omega), e7]
  · rw [fg_k _ (by omega), up_r _ _ _ (by omega), up_r _ _ _ (by omega), e7]
theorem Rel.test_r (h : Rel σ τ) {k : Nat} (hk : k < 84 ∨ 111 < k) : rtS τ k = τ k := by
  obtain ⟨hb, ht, h9⟩ := h.2.2.2.2.2.2.2.2.1
  have e3 := (rt_y hk hb ht).1
  have e5 : rt5 τ k = τ k := by
    unfold rt5
    split
    · rw [up_r _ _ _ (by omega), e3]
    · rw [up_r _ _ _ (by omega), up_r _ _ _ (by omega), e3]
  have e6 : (rt6 τ).2 k = τ k := by
    unfold rt6
    split
    · unfold loM; rw [loL_k (by omega), e5]
    · exact e5
  unfold rtS
  rw [up_r _ _ _ (by omega)]
  unfold rt8
  split
  · rw [up_r _ _ _ (by omega), up_r _ _ _ (by omega), e6]
  · rw [up_r _ _ _ (by omega), e6]
theorem oq_r {k : Nat} (hk : k < 84 ∨ 111 < k) (p : Bool) : oqS p τ k = τ k := by
  unfold oqS
  split
  · exact up_r _ _ _ (by omega)
  · rw [up_r _ _ _ (by omega), up_r _ _ _ (by omega)]
theorem plR_r {k : Nat} (hk : k < 84 ∨ 111 < k) (d : Int) : plRS τ d k = τ k := by
  unfold plRS
  split
  · split
    · rw [plT_k _ (by omega), up_r _ _ _ (by omega), up_r _ _ _ (by omega)]
    · rw [up_r _ _ _ (by omega), up_r _ _ _ (by omega)]
  · rw [up_r _ _ _ (by omega), up_r _ _ _ (by omega)]
theorem seR_r {k : Nat} (hk : k < 84 ∨ 111 < k) (d c x : Int) : seRS τ d c x k = τ k := by
  unfold seRS
  split
  · split
    · unfold mp; rw [up_r _ _ _ (by omega), up_r _ _ _ (by omega)]
    · rw [up_r _ _ _ (by omega), up_r _ _ _ (by omega)]
  · rw [up_r _ _ _ (by omega), up_r _ _ _ (by omega)]
theorem imR_r {k : Nat} (hk : k < 84 ∨ 111 < k) : imRS τ k = τ k := by
  unfold imRS
  split
  · exact up_r _ _ _ (by omega)
  · rw [up_r _ _ _ (by omega), up_r _ _ _ (by omega)]
theorem exR_r {k : Nat} (hk : k < 84 ∨ 111 < k) (a b : Int) : exRS τ a b k = τ k := by
  unfold exRS
  split
  · split
    · rw [up_r _ _ _ (by omega), up_r _ _ _ (by omega)]
    · unfold exT; rw [exF_k _ _ (by omega), up_r _ _ _ (by omega)]
  · rw [up_r _ _ _ (by omega), up_r _ _ _ (by omega)]
theorem tmR_r {k : Nat} (hk : k < 84 ∨ 111 < k) (n : Int) : tmS τ n k = τ k := by
  unfold tmS
  split
  · rw [up_r _ _ _ (by omega), up_r _ _ _ (by omega)]
  · rw [up_r _ _ _ (by omega), up_r _ _ _ (by omega)]
theorem rfF_y {k : Nat} (hk : k < 84 ∨ 111 < k) (x : Int) : ∀ (n : Nat) (s : Sg), rfF x n s k = s k := by
  intro n
  induction n with
  | zero => intro s; rfl
  | succ n ih => intro s; simp only [rfF]; rw [ih]; unfold rf1; rw [up_r _ _ _ (by omega), up_r _ _ _ (by omega)]
theorem fdR_r {k : Nat} (hk : k < 84 ∨ 111 < k) (a b c d e : Int) : fdS τ a b c d e k = τ k := by
  unfold fdS
  split
  · rw [fW_r (fun i q _ => by unfold rfG; exact rfF_y hk _ _ _), up_r _ _ _ (by omega)]
  · rw [up_r _ _ _ (by omega), up_r _ _ _ (by omega)]
end S77
