/-! the law's steps, over the reference's words -/
section S93b
variable {σ y : Sg}
def JT (D many : Nat) (so : Nat → Int) (y : Sg) : Prop := y 84 15 = (D : Int) ∧ y 84 25 = 2 ∧ y 84 30 = (many : Int) ∧ (∀ i : Nat, i < many → y 105 i = so i) ∧ y 84 4 = -1 ∧ y 84 38 = 0
theorem OpI.get {Es : List String} {O : Rs} {v th : Int} (h : OpI Es O v th) (h0 : th = 0) : O = .inl (some (.int (I32 v))) := by
  rcases h with ⟨x, hO, -, e⟩ | ⟨i, E, -, -, e⟩
  · rw [hO, e]
  · omega
theorem JT.kept {D many : Nat} {so : Nat → Int} {z : Sg} (h : JT D many so y) (hk : ∀ k, k ≠ 84 ∧ k ≠ 111 → z k = y k) (hj : ∀ j, j ≠ 0 ∧ j ≠ 39 → z 84 j = y 84 j) : JT D many so z := by
  obtain ⟨h1, h2, h3, h4, h5, h6⟩ := h
  exact ⟨by rw [hj 15 (by decide)]; exact h1, by rw [hj 25 (by decide)]; exact h2, by rw [hj 30 (by decide)]; exact h3, fun i hi => by rw [hk 105 (by decide)]; exact h4 i hi, by rw [hj 4 (by decide)]; exact h5, by rw [hj 38 (by decide)]; exact h6⟩
theorem st_plan {D many : Nat} {so : Nat → Int} {d : Int} (h : Rel σ y) (j : JT D many so y) (hD : 2 ≤ D) (hd : 1 ≤ d ∧ d ≤ 14) : plO σ d = .inl (some (.int (I32 (afV (plT y d))))) ∧ Rel (plS σ d) (plT y d) ∧ JT D many so (plT y d) ∧ plT y d 84 39 = d ∧ Pq (plT y d) := by
  have h3 : y 84 3 = 1 := by
    rcases h.2.2.2.2.2.2.2.2.2.2 with ⟨-, a⟩ | ⟨a, -⟩
    · have := j.1; omega
    · exact a
  have hin : inR d 1 14 = true := by
    rw [inR_e ⟨by omega, by omega⟩ ⟨by decide, by decide⟩ ⟨by decide, by decide⟩]
    exact decide_eq_true hd
  obtain ⟨a1, a2⟩ := h.plan (d := d) ⟨by omega, by omega⟩
  have eS : plRS y d = plT y d := by unfold plRS; rw [if_pos hin, if_pos h3]
  have eV : plRV y d = afV (plT y d) := by unfold plRV; rw [if_pos hin, if_pos h3]
  rw [eS] at a1 a2
  rw [eV] at a1
  have k84 : ∀ j, plT y d 84 j = up (up y 84 0 0) 84 39 d 84 j := fun j => by rw [plT_k d (by decide)]
  refine ⟨a1.get (by rw [k84, up_j _ _ (by decide), up_s]), a2, j.kept (fun k hk => ?_) (fun j hj => ?_), by rw [k84, up_s], (Pq_T h.1 h.2.1 hd).2⟩
  · rw [plT_k d hk.2, up_r _ _ _ hk.1, up_r _ _ _ hk.1]
  · rw [k84, up_j _ _ hj.2, up_j _ _ hj.1]
theorem st_cnt (h : Rel σ y) : coO σ 6 = .inl (some (.int (I32 (y 84 39)))) := by
  have e : inR 6 0 7 = true := by decide +kernel
  have a := h.count (w := 6) ⟨by decide, by decide⟩
  rw [e] at a
  exact a.get (by show up y 84 0 0 84 0 = 0; rw [up_s])
theorem oq_0 {p : Bool} (h : p = true) : oqS p y 84 0 = 0 := by
  rw [h]
  show up y 84 0 0 84 0 = 0
  rw [up_s]
theorem in_e {x n : Int} (h : 0 ≤ x ∧ x < n) (hn : n ≤ 1000000) : inR x 0 (n - 1) = true := by
  rw [inR_e ⟨by omega, by omega⟩ inr_0 ⟨by omega, by omega⟩]
  exact decide_eq_true (by omega)
theorem st_at (h : Rel σ y) {d c : Int} (hd : 0 ≤ d ∧ d < y 84 39) (hc : 0 ≤ c ∧ c < y 84 25) : atO σ d c = .inl (some (.int (I32 (dA y d c)))) := by
  have hM := h.1.2.2.2.1
  have hC := h.1.1.2.2.2.1
  have e : (isD y d && isC y c) = true := by
    unfold isD isC
    rw [in_e hd (by omega), in_e hc (by omega)]
    rfl
  have a := h.at (d := d) (c := c) ⟨by omega, by omega⟩ ⟨by omega, by omega⟩
  have a2 := a.get (oq_0 e)
  rw [e] at a2
  exact a2
theorem st_ch (h : Rel σ y) {c : Int} (hc : 0 ≤ c ∧ c < y 84 25) : chO σ c false = .inl (some (.int (I32 (y 102 c.toNat)))) := by
  have hC := h.1.1.2.2.2.1
  have e : isC y c = true := in_e hc (by omega)
  have a := (h.choice (x := c) (p := false) ⟨by omega, by omega⟩).get (oq_0 e)
  rw [e] at a
  exact a
theorem st_fo (h : Rel σ y) {r : Int} (hr : 0 ≤ r ∧ r < y 84 30) : foO σ r = .inl (some (.int (I32 (ruV y r)))) := by
  have hC := h.1.1.2.2.2.2.1
  have e : inR r 0 (y 84 30 - 1) = true := in_e hr (by omega)
  have a := (h.faultsOf (x := r) ⟨by omega, by omega⟩).get (oq_0 e)
  rw [e] at a
  exact a
theorem st_ti (h : Rel σ y) {x : Int} (hx : 0 ≤ x ∧ x < y 84 15) : tmO σ x = .inl (some (.int (I32 (tiV y x)))) := by
  have hC := h.1.1.2.1
  have e : inR x 0 (y 84 15 - 1) = true := in_e hx (by omega)
  have a := (h.times (x := x) ⟨by omega, by omega⟩).get (oq_0 e)
  rw [e] at a
  exact a
theorem exT_k {a b : Int} {k : Nat} (hk : k ≠ 111) : exT y a b k = up y 84 0 0 k := by
  unfold exT
  exact fW_r (fun i q _ => by unfold exG; rw [up_r _ _ _ hk, up_r _ _ _ hk]) _ _ _
theorem st_ex {D many : Nat} {so : Nat → Int} {a b : Int} (h : Rel σ y) (j : JT D many so y) (ha : 0 ≤ a ∧ a < y 84 39) (hb : 0 ≤ b ∧ b < y 84 39) (hab : a ≠ b) : xcO σ a b = .inl (some (.int (I32 (afV (exT y a b))))) ∧ Rel (xcS σ a b) (exT y a b) ∧ JT D many so (exT y a b) ∧ exT y a b 84 39 = y 84 39 := by
  have hM := h.1.2.2.2.1
  have e1 : isD y a = true := in_e ha (by omega)
  have e2 : isD y b = true := in_e hb (by omega)
  obtain ⟨a1, a2⟩ := h.exchange (a := a) (b := b) ⟨by omega, by omega⟩ ⟨by omega, by omega⟩
  have eS : exRS y a b = exT y a b := by unfold exRS; rw [if_pos ⟨e1, e2⟩, if_neg hab]
  have eV : exRV y a b = afV (exT y a b) := by unfold exRV; rw [if_pos ⟨e1, e2⟩, if_neg hab]
  rw [eS] at a1 a2
  rw [eV] at a1
  refine ⟨a1.get (by rw [exT_k (by decide), up_s]), a2, j.kept (fun k hk => ?_) (fun j hj => ?_), by rw [exT_k (by decide), up_j _ _ (by decide)]⟩
  · rw [exT_k hk.2, up_r _ _ _ hk.1]
  · rw [exT_k (by decide), up_j _ _ hj.1]
theorem imRS_k {k : Nat} (hk : k ≠ 111) : imRS y k = up y 84 0 0 k := by
  unfold imRS
  split
  · rfl
  · exact up_r _ _ _ hk
theorem st_im {D many : Nat} {so : Nat → Int} (h : Rel σ y) (j : JT D many so y) : I32 (afC (cbC σ)) = I32 (imRV y) ∧ Rel (cbC σ) (imRS y) ∧ JT D many so (imRS y) ∧ imRV y ≤ afV y ∧ afV (imRS y) = imRV y := by
  obtain ⟨a1, a2⟩ := h.improve
  obtain ⟨b1, b2⟩ := im_le y
  refine ⟨a1, a2, j.kept (fun k hk => ?_) (fun j hj => ?_), b1, b2⟩
  · rw [imRS_k hk.2, up_r _ _ _ hk.1]
  · rw [imRS_k (by decide), up_j _ _ hj.1]
theorem st_fa (h : Rel σ y) : afC σ = afV y := h.faults
theorem st_er {D many : Nat} {so : Nat → Int} (h : Rel σ y) (j : JT D many so y) : σ 0 8 = -1 ∧ σ 0 9 = 0 := by
  obtain ⟨a1, a2⟩ := h.2.2.2.2.2.2.2.2.2.1
  exact ⟨by rw [a1]; exact j.2.2.2.2.1, by rw [a2]; exact j.2.2.2.2.2⟩
/-- where the law's loops begin -/
theorem st_0 {L : Nat} {X : Nat → Int32} {D many : Nat} (h : MP L X D many σ) : ∃ y, Rel σ y ∧ JT D many (fun i => blV (clV L X (4 + (i : Int))) 4) y := by
  obtain ⟨⟨y, hy⟩, h1, h2, h3, h4, h5, h6, -⟩ := h
  obtain ⟨b1, b2, b3, b4, b5, b6⟩ := hy.2.2.1
  obtain ⟨a1, a2⟩ := hy.2.2.2.2.2.2.2.2.2.1
  refine ⟨y, hy, ?_, ?_, ?_, fun i hi => ?_, by rw [← a1]; exact h5, by rw [← a2]; exact h6⟩
  · rw [← h1]; exact b1.2.1.symm
  · rw [← h2]; exact b1.2.2.2.2.2.symm
  · rw [← h3]; exact b1.2.2.2.2.1.symm
  · have e30 : y 84 30 = (many : Int) := by rw [← h3]; exact b1.2.2.2.2.1.symm
    exact (b6 i (by omega)).1.symm.trans (h4 i hi)
/-- empty places, row by row -/
def gS (y : Sg) : Nat → Int
  | 0 => 0
  | n + 1 => gS y n + (if dA y n 0 < 0 then 1 else 0) + (if dA y n 1 < 0 then 1 else 0)
theorem gS_e (hP : PI y) (h25 : y 84 25 = 2) : ∀ n : Nat, (n : Int) ≤ y 84 39 → gS y n = sm (fun d => sm (gpH y d) 2) n
  | 0, _ => rfl
  | n + 1, h => by
    have b0 := hP.dA (d := n) (c := 0) ⟨by omega, by omega⟩ ⟨by omega, by omega⟩
    have b1 := hP.dA (d := n) (c := 1) ⟨by omega, by omega⟩ ⟨by omega, by omega⟩
    show gS y n + _ + _ = sm (fun d => sm (gpH y d) 2) n + (0 + gpH y n 0 + gpH y n 1)
    rw [gS_e hP h25 n (by omega)]
    unfold gpH
    have e0 : (dA y n 0 < 0) = (dA y n 0 = -1) := propext ⟨fun _ => by omega, fun _ => by omega⟩
    have e1 : (dA y n 1 < 0) = (dA y n 1 = -1) := propext ⟨fun _ => by omega, fun _ => by omega⟩
    simp only [e0, e1]
    omega
theorem gS_all (hP : PI y) (h25 : y 84 25 = 2) {n : Nat} (h39 : y 84 39 = (n : Int)) : gapV y = gS y n := by
  rw [gapV_e hP, gS_e hP h25 n (by omega), h25, h39]
  rfl
theorem af_all (hP : PI y) {m : Nat} (h30 : y 84 30 = (m : Int)) : afV y = gapV y + sm (ruV y) m := by
  rw [afV_e hP, h30]
  rfl
theorem ti_sumL (hP : PI y) {D n : Nat} (h15 : y 84 15 = (D : Int)) (h25 : y 84 25 = 2) (h39 : y 84 39 = (n : Int)) : sm (tiV y) D + gapV y = 2 * n := by
  have h := ti_all hP
  have hN := hP.1.2.1
  rw [fW_sm0 (sz := y 84 15) (n := 16) (a := 0) (h := tiV y) (fun i a _ _ => rfl) (by omega) (by omega), h15, h25, h39] at h
  have e : ((D : Int)).toNat = D := by omega
  rw [e] at h
  omega
end S93b
