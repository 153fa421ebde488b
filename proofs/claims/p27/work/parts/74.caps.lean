/-! what reading never changes in the class: how many names there may be -/
section S74
variable {σ τ : Sg}
def Cp (k j : Nat) : Prop := (k = 10 ∨ k = 12 ∨ k = 14 ∨ k = 16) ∧ j = 1
theorem Cp_u {k j q i : Nat} {v : Int} (h : Cp k j) (hq : q = 9 ∨ q = 11 ∨ q = 13 ∨ q = 15 ∨ 17 ≤ q) (σ : Sg) : up σ q i v k j = σ k j := up_k _ _ (by unfold Cp at h; omega)
theorem Cp_nx {k j : Nat} (h : Cp k j) (σ : Sg) : nxM σ k j = σ k j := Cp_u h (by decide) _
theorem Cp_fl {k j : Nat} (h : Cp k j) (σ : Sg) (c t : Int) : flM σ c t k j = σ k j := by unfold flM; rw [Cp_u h (by decide), Cp_u h (by decide)]
theorem Cp_ad {k j q : Nat} {v : Int} (h : Cp k j) (hq : q = 10 ∨ q = 12 ∨ q = 14 ∨ q = 16) (σ : Sg) : addC σ q v k j = σ k j := by
  unfold addC
  split
  · have h2 := h.2
    have e : ∀ (s : Sg) (w : Int), up s q 2 w k j = s k j := fun s w => by rw [up_rd, if_neg (by omega)]
    rw [e, Cp_u h (by omega)]
  · rfl
theorem Cp_tn {k j : Nat} (h : Cp k j) (σ : Sg) (lo hi : Int) : (tnM σ lo hi).2 k j = σ k j := tnM_off (by unfold Cp at h; omega) j
theorem Cp_nn {k j : Nat} (h : Cp k j) (σ : Sg) : (nnM σ).2 k j = σ k j := nnM_off (by unfold Cp at h; omega) j
theorem Cp_tm {k j : Nat} (h : Cp k j) (σ : Sg) (r : Int) : (tmM σ r).2 k j = σ k j := by
  unfold tmM
  split
  · dsimp only; rw [Cp_nx h, Cp_u h (by decide)]
  · split
    · dsimp only; rw [Cp_nx h, Cp_u h (by decide)]
    · exact Cp_fl h _ _ _
theorem Cp_ap {k j : Nat} (h : Cp k j) (σ : Sg) (r : Int) : (apM σ r).2 k j = σ k j := by
  unfold apM
  split
  · rw [Cp_tm h, Cp_u h (by decide), Cp_u h (by decide), Cp_tn h]
  · exact Cp_tn h _ _ _
theorem Cp_sp {k j : Nat} (h : Cp k j) (σ : Sg) (r s lo : Int) : (spM σ r s lo).2 k j = σ k j := by
  have e1 : sp1M σ r s lo k j = σ k j := by unfold sp1M; rw [Cp_u h (by decide), Cp_u h (by decide), Cp_tn h]
  have e2 : (sp2M σ r s lo).2 k j = σ k j := by unfold sp2M; rw [Cp_tm h, e1]
  have e3 : (sp3M σ r s lo).2 k j = σ k j := by unfold sp3M; rw [Cp_tn h, Cp_nx h, e2]
  unfold spM
  split
  · split
    · split
      · dsimp only; rw [Cp_u h (by decide), e3]
      · exact e3
    · exact e2
  · exact Cp_tn h _ _ _
theorem Cp_en {k j : Nat} (h : Cp k j) (σ : Sg) (r : Int) : (enM σ r).2 k j = σ k j := by
  have e2 : (en2M σ).2 k j = σ k j := by unfold en2M; rw [Cp_tn h, Cp_nx h, Cp_tn h]
  unfold enM
  split
  · split
    · dsimp only; rw [Cp_u h (by decide), Cp_u h (by decide), Cp_u h (by decide), e2]
    · exact e2
  · exact Cp_tn h _ _ _
theorem Cp_rl {k j : Nat} (h : Cp k j) (σ : Sg) : (rlM σ).2 k j = σ k j := by
  have e1 : rl1M σ k j = σ k j := by unfold rl1M rl0M; rw [Cp_nx h, Cp_nx h, Cp_u h (by decide), Cp_u h (by decide), Cp_u h (by decide)]
  have e2 : (rl2M σ).2 k j = σ k j := by
    unfold rl2M
    split
    · rw [Cp_ap h, e1]
    · split
      · rw [Cp_sp h, e1]
      · split
        · rw [Cp_sp h, e1]
        · rw [Cp_en h, e1]
  unfold rlM
  split
  · exact Cp_fl h _ _ _
  · split
    · dsimp only; rw [Cp_nx h, Cp_u h (by decide), e2]
    · exact e2
theorem Cp_tc {k j : Nat} (h : Cp k j) (σ : Sg) : (tcM σ).2 k j = σ k j := by
  have e1 : tc1M σ k j = σ k j := by unfold tc1M tc0M; rw [Cp_u h (by decide), Cp_u h (by decide), Cp_u h (by decide), Cp_u h (by decide)]
  unfold tcM
  split
  · exact Cp_fl h _ _ _
  · split
    · dsimp only; rw [Cp_fl h, e1]
    · dsimp only; rw [Cp_u h (by decide), e1]
theorem Cp_mlL {k j : Nat} (h : Cp k j) : ∀ (n : Nat) (σ : Sg), (mlL n σ).2 k j = σ k j
  | 0, σ => rfl
  | n + 1, σ => by
    simp only [mlL]
    split
    · split
      · rw [Cp_mlL h n, Cp_tc h, Cp_nx h]
      · dsimp only; rw [Cp_tc h, Cp_nx h]
    · rfl
theorem Cp_ml {k j : Nat} (h : Cp k j) (σ : Sg) : (mlM σ).2 k j = σ k j := by
  unfold mlM
  split
  · exact Cp_fl h _ _ _
  · split
    · unfold mlE
      split
      · dsimp only; rw [Cp_nx h, Cp_ad h (by decide), Cp_mlL h, Cp_nn h, Cp_nx h]
      · dsimp only; rw [Cp_mlL h, Cp_nn h, Cp_nx h]
    · dsimp only; rw [Cp_nn h, Cp_nx h]
theorem Cp_tgL {k j : Nat} (h : Cp k j) : ∀ (n : Nat) (σ : Sg), (tgL n σ).2 k j = σ k j
  | 0, σ => rfl
  | n + 1, σ => by
    have e1 : (tg1M σ).2 k j = σ k j := by
      unfold tg1M
      split
      · split
        · dsimp only; rw [Cp_fl h, Cp_nx h]
        · dsimp only; rw [Cp_ad h (by decide), Cp_nx h]
      · exact Cp_nx h _
    simp only [tgL]
    split
    · split
      · rw [Cp_tgL h n]; unfold tg2M; rw [Cp_nx h, Cp_u h (by decide), e1]
      · exact e1
    · rfl
theorem Cp_af {k j : Nat} (h : Cp k j) (σ : Sg) (d x : Int) : afM σ d x k j = σ k j := by
  unfold afM
  rw [Cp_u h (by decide), Cp_u h (by decide), Cp_u h (by decide), Cp_u h (by omega)]
theorem Cp_am {k j : Nat} (h : Cp k j) (σ : Sg) (d o : Int) : adM σ d o k j = σ k j := by
  have e1 : ad1M σ d o k j = σ k j := by
    unfold ad1M
    exact fG_keep (fun a : Sg => a k j) (fun i a => by unfold adG1; exact Cp_u h (by omega) _) _ _ _
  unfold adM
  rw [Cp_u h (by decide), Cp_u h (by decide), Cp_u h (by decide), e1]
theorem Cp_tp {k j : Nat} (h : Cp k j) (σ : Sg) (d p : Int) : (tpM σ d p).2 k j = σ k j := by
  have e1 : ∀ (s : Sg) (q : Nat) (b : Bool), (tp1M s d q b).2 k j = s k j := by
    intro s q b
    unfold tp1M
    split
    · exact Cp_fl h _ _ _
    · dsimp only
      split
      · rw [Cp_am h, Cp_nx h]
      · rw [Cp_af h, Cp_nx h]
  unfold tpM
  split
  · exact Cp_fl h _ _ _
  · split
    · split
      · rw [e1, Cp_nx h, Cp_tn h]
      · rw [e1, Cp_tn h]
    · exact Cp_tn h _ _ _
theorem Cp_tpL {k j : Nat} (h : Cp k j) (d : Int) : ∀ (n : Nat) (p : Int) (b : Bool) (σ : Sg), (tpL d n p b σ).2.2 k j = σ k j
  | 0, p, b, σ => rfl
  | n + 1, p, b, σ => by
    simp only [tpL]
    split
    · rw [Cp_tpL h d n, Cp_tp h, Cp_nx h]
    · rfl
theorem Cp_tq {k j : Nat} (h : Cp k j) (σ : Sg) (d : Int) : (tqM σ d).2 k j = σ k j := by
  unfold tqM tqE
  dsimp only
  rw [Cp_u h (by decide), Cp_tpL h]
  unfold tq0M
  have := fW_keep (fun a : Sg => a k j) (sz := 16) (g := fun i (a : Sg) => up a (34 + d.toNat) i.toNat 0) (fun i a => Cp_u h (by omega) _) 16 0 (up (up σ 51 11 0) 51 12 0)
  rw [this, Cp_u h (by decide), Cp_u h (by decide)]
theorem Cp_td {k j : Nat} (h : Cp k j) (σ : Sg) (d : Int) : tdM σ d k j = σ k j := by
  unfold tdM
  split
  · rw [Cp_u h (by decide), Cp_u h (by decide), Cp_u h (by decide)]
  · exact Cp_u h (by decide) _
theorem Cp_rd {k j : Nat} (h : Cp k j) (σ : Sg) : (rdM σ).2 k j = σ k j := by
  have e1 : (rd1M σ).2 k j = σ k j := by unfold rd1M; rw [Cp_nn h, Cp_nx h]
  have e2 : (rd2M σ).2 k j = σ k j := by unfold rd2M; rw [Cp_tn h, Cp_nx h, e1]
  have e3 : rd3M σ k j = σ k j := by unfold rd3M; rw [Cp_u h (by decide), Cp_u h (by decide), e2]
  have e4 : (rd4M σ).2 k j = σ k j := by unfold rd4M; rw [Cp_tq h, e3]
  have e5 : (rd5M σ).2 k j = σ k j := by unfold rd5M; rw [Cp_tgL h, e4]
  unfold rdM
  split
  · exact Cp_fl h _ _ _
  · split
    · split
      · split
        · split
          · unfold rdEM
            split
            · dsimp only; rw [Cp_fl h, e5]
            · dsimp only; rw [Cp_nx h, Cp_ad h (by decide), Cp_td h, e5]
          · exact e5
        · exact e4
      · exact e2
    · exact e1
theorem Cp_rf {k j : Nat} (h : Cp k j) (σ : Sg) : (rfM σ).2 k j = σ k j := by
  have e1 : (rf1M σ).2 k j = σ k j := by unfold rf1M; rw [Cp_nn h, Cp_nx h]
  have e2 : (rf2M σ).2 k j = σ k j := by unfold rf2M; rw [Cp_tn h, e1]
  have e3 : rf3M σ k j = σ k j := by unfold rf3M; rw [Cp_u h (by decide), Cp_u h (by decide), e2]
  have e4 : (rf4M σ).2 k j = σ k j := by unfold rf4M; rw [Cp_tn h, Cp_nx h, e3]
  have e5 : (rf5M σ).2 k j = σ k j := by
    unfold rf5M
    split
    · split
      · dsimp only; rw [Cp_u h (by decide), e4]
      · exact e4
    · exact e3
  have e6 : (rf6M (rf5M σ).2).2 k j = σ k j := by unfold rf6M; rw [Cp_tgL h, Cp_u h (by decide), e5]
  unfold rfM
  split
  · exact Cp_fl h _ _ _
  · split
    · split
      · split
        · unfold rfEM
          split
          · dsimp only; rw [Cp_nx h, Cp_ad h (by decide), Cp_u h (by decide), e6]
          · exact e6
        · exact e5
      · exact e2
    · exact e1
theorem Cp_rpL {k j : Nat} (h : Cp k j) : ∀ (n : Nat) (b : Bool) (σ : Sg), (rpL n b σ).2 k j = σ k j
  | 0, b, σ => rfl
  | n + 1, b, σ => by
    have e1 : (rpI σ).2 k j = σ k j := by
      unfold rpI
      split
      · exact Cp_rf h _
      · split
        · exact Cp_rd h _
        · split
          · exact Cp_ml h _
          · exact Cp_rl h _
    simp only [rpL]
    split
    · rw [Cp_rpL h n, e1]
    · rfl
theorem Cp_rp {k j : Nat} (h : Cp k j) (σ : Sg) : rpM σ k j = σ k j := by
  unfold rpM rpE
  split
  · rw [Cp_fl h, Cp_rpL h]; unfold rp0; rw [Cp_u h (by decide), Cp_u h (by decide), Cp_u h (by decide)]
  · rw [Cp_rpL h]; unfold rp0; rw [Cp_u h (by decide), Cp_u h (by decide), Cp_u h (by decide)]
end S74
