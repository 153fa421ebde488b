/-! the reference: compile, test -/
section S46
variable {l : Launch} {G : Gx}
variable {σ : Sg} {e : Int} {K V N S : Int → Int}
def fgS (σ : Sg) : Sg := up (up (up (up (up (up (up (up (up σ 84 3 0) 84 10 0) 84 15 0) 84 23 0) 84 25 0) 84 30 0) 84 36 0) 84 39 0) 84 38 0
def szG (K V : Int → Int) (c : Int) (a : Sg) : Sg := up (up a 84 8 (chE K V a (a 104 c.toNat) (a 103 c.toNat))) 102 c.toNat (chV K V a (a 104 c.toNat) (a 103 c.toNat))
def rc0 (σ : Sg) : Sg := up (fgS (up σ 84 0 0)) 84 4 (-1)
def rc1 (σ : Sg) : Sg := scC (rc0 σ)
def rcE (σ : Sg) : Int := scE (rc0 σ)
def rcK (σ : Sg) : Int → Int := KR (rc1 σ) (rcE σ)
def rc2 (σ : Sg) : Sg := up (rc1 σ) 84 8 0
def qP (σ : Sg) : Bool × Pp := qProg (rcK σ) 1501 (rc2 σ 84 8, rc2 σ 84 9)
def rc3 (σ : Sg) : Sg := stR (rc2 σ) (qP σ).2
def rc5 (σ : Sg) : Sg := if (qP σ).1 = true then up (rc3 σ) 84 8 0 else up (up (rc3 σ) 84 4 (Sx (rc1 σ) (qP σ).2.1)) 84 8 0
def rc6 (σ : Sg) : Int × Sg := if (qP σ).1 = true then mnL (rcK σ) (Vx (rc1 σ)) (Nx (rc1 σ)) (Sx (rc1 σ)) 1502 (rc5 σ) else (1, rc5 σ)
def szL (K V : Int → Int) (er : Int) (n : Nat) (c : Int) (a : Sg) : Sg := if er = 0 then fW (a 84 25) (szG K V) n c a else a
def rc7 (σ : Sg) : Sg := szL (rcK σ) (Vx (rc1 σ)) (rc6 σ).1 8 0 (rc6 σ).2
def rzS (σ : Sg) : Sg := if (rc6 σ).1 = 0 then up (up (rc7 σ) 84 2 0) 84 3 1 else fgS (up (up (rc7 σ) 84 2 0) 84 3 0)
def rzV (σ : Sg) : Int := (rc6 σ).1
theorem rc3_8 : rc3 σ 84 8 = (qP σ).2.1 := rfl
theorem rc3_o {j : Nat} (h : j ≠ 8 ∧ j ≠ 9) : rc3 σ 84 j = rc1 σ 84 j := by
  unfold rc3 stR rc2
  rw [up_j _ _ h.1, up_j _ _ h.2, up_j _ _ h.1]
theorem rc3_k {k : Nat} (h : k ≠ 84) : rc3 σ k = rc1 σ k := by
  unfold rc3 stR rc2
  rw [up_r _ _ _ h, up_r _ _ _ h, up_r _ _ _ h]
theorem rc0_b (h : Rb σ) : Rb (rc0 σ) := h
theorem rc0_t (h : Rt σ) : Rt (rc0 σ) := h
theorem rc1_d (hb : Rb σ) (ht : Rt σ) : ScD (rc0 σ) (rc1 σ) (rcE σ) := sc_ok (rc0_b hb) (rc0_t ht)
theorem rc1_o (hb : Rb σ) (ht : Rt σ) {k : Nat} (h : k ≠ 86 ∧ k ≠ 87 ∧ k ≠ 88) : rc1 σ k = rc0 σ k := (rc1_d hb ht).1 k h
theorem rc1_b (hb : Rb σ) (ht : Rt σ) : Rb (rc1 σ) := by
  unfold Rb
  rw [rc1_o hb ht (by decide), rc1_o hb ht (by decide)]
  exact hb
theorem Tk_1 (hb : Rb σ) (ht : Rt σ) (h9 : 0 ≤ σ 84 9 ∧ σ 84 9 ≤ 1500) : Tk (rc1 σ) (rcE σ) (rcK σ) (Vx (rc1 σ)) (Nx (rc1 σ)) (Sx (rc1 σ)) := by
  obtain ⟨d1, d2, d3, d4, d5⟩ := rc1_d hb ht
  refine Tk_of (rc1_b hb ht) d2 d3 d4 d5 ?_
  rw [rc1_o hb ht (by decide)]
  exact h9
theorem Tk_2 (hb : Rb σ) (ht : Rt σ) (h9 : 0 ≤ σ 84 9 ∧ σ 84 9 ≤ 1500) : Tk (rc2 σ) (rcE σ) (rcK σ) (Vx (rc1 σ)) (Nx (rc1 σ)) (Sx (rc1 σ)) := (Tk_1 hb ht h9).o (by decide)
theorem gF_Prog {K : Int → Int} {e : Int} (hE : K e = 25) (he : e ≤ 1500) : ∀ n, gF e (qProg K n) := by
  intro n
  induction n with
  | zero => intro s hs; exact ⟨hs, Int.le_refl _⟩
  | succ n ih =>
    intro s hs
    have h1 := gT_Item hE he s hs
    simp only [qProg]
    split
    · split
      · exact ⟨h1.1, h1.2.1⟩
      · have h2 := ih _ h1.1
        exact ⟨h2.1, Int.le_trans h1.2.1 h2.2⟩
    · exact ⟨h1.1, h1.2.1⟩
theorem qP_bd (hb : Rb σ) (ht : Rt σ) (h9 : 0 ≤ σ 84 9 ∧ σ 84 9 ≤ 1500) : bd (rcE σ) (qP σ).2 := by
  have hT := Tk_2 hb ht h9
  have he := hT.e
  exact (gF_Prog hT.E he.2 1501 _ (hT.bd ⟨Int.le_refl 0, he.1⟩)).1
theorem Tk_3 (hb : Rb σ) (ht : Rt σ) (h9 : 0 ≤ σ 84 9 ∧ σ 84 9 ≤ 1500) : Tk (rc3 σ) (rcE σ) (rcK σ) (Vx (rc1 σ)) (Nx (rc1 σ)) (Sx (rc1 σ)) := by
  have hT := Tk_1 hb ht h9
  have hq := qP_bd hb ht h9
  obtain ⟨⟨⟨a1, a2⟩, a3, a4, a5, a6⟩, b1, b2, b3, b4⟩ := hT
  have k85 := rc3_k (σ := σ) (k := 85) (by decide)
  have k86 := rc3_k (σ := σ) (k := 86) (by decide)
  have k87 := rc3_k (σ := σ) (k := 87) (by decide)
  have k88 := rc3_k (σ := σ) (k := 88) (by decide)
  have k2 := rc3_o (σ := σ) (j := 2) (by decide)
  refine ⟨⟨⟨by rw [k2]; exact a1, by rw [k85]; exact a2⟩, by unfold Rt; rw [k86, k87, k88]; exact a3, a4, by rw [k86]; exact a5, by unfold TkOk; rw [k85, k86, k87, k88]; exact a6⟩, by rw [KR_cg k85 k86 k87 k88]; exact b1, by rw [nmV_cg k85 k87 k88, nuV_cg k85 k87 k88, k87]; exact b2, b3, hq.2⟩
theorem IV_5 (hb : Rb σ) (ht : Rt σ) (h9 : 0 ≤ σ 84 9 ∧ σ 84 9 ≤ 1500) : IV (rcE σ) (rcK σ) (Vx (rc1 σ)) (Nx (rc1 σ)) (Sx (rc1 σ)) (up (rc3 σ) 84 8 0) := by
  have hT := (Tk_3 hb ht h9).o (j := 8) (v := 0) (by decide)
  have z : ∀ j, j = 10 ∨ j = 15 ∨ j = 23 ∨ j = 25 ∨ j = 30 ∨ j = 36 → up (rc3 σ) 84 8 0 84 j = 0 := by
    intro j hj
    rw [up_j _ _ (by omega), rc3_o (by omega), rc1_o hb ht (by decide)]
    rcases hj with rfl | rfl | rfl | rfl | rfl | rfl <;> rfl
  refine ⟨hT, ?_, ⟨fun j hj => ?_, fun j hj => ?_⟩, fun c hc => ?_⟩
  · unfold Cn
    rw [z 10 (by omega), z 15 (by omega), z 23 (by omega), z 25 (by omega), z 30 (by omega), z 36 (by omega)]
    omega
  · rw [z 15 (by omega)] at hj; omega
  · rw [z 10 (by omega)] at hj; omega
  · rw [z 25 (by omega)] at hc; omega
theorem z30 (hb : Rb σ) (ht : Rt σ) : up (rc3 σ) 84 8 0 84 30 = 0 := by
  rw [up_j _ _ (by omega), rc3_o (by omega), rc1_o hb ht (by decide)]; rfl
theorem PgE_5 (hb : Rb σ) (ht : Rt σ) (h9 : 0 ≤ σ 84 9 ∧ σ 84 9 ≤ 1500) (h : (qP σ).1 = true) : ∃ m, PgE (rcK σ) m 0 := by
  have hT := Tk_2 hb ht h9
  have he := hT.e
  obtain ⟨m, hm⟩ := qProg_ok hT.E he.2 1501 _ (hT.bd ⟨Int.le_refl 0, he.1⟩) (by show rcE σ - 0 < (1501 : Nat); omega) h
  exact ⟨m + 1, PgL_E m _ hm⟩
theorem IV.sp (h : IV e K V N S σ) (K2 V2 : Int → Int) (c : Int) : IV e K V N S (szG K2 V2 c σ) := by
  obtain ⟨h1, h2, h3, h4⟩ := h
  unfold szG
  refine ⟨Tk.x (by decide) (Tk.o (by decide) h1), h2, h3.cg ?_ ?_ (fun j hj => ?_) ?_ ?_, h4.cg ?_ ?_ ?_⟩
  · simp (disch := omega) only [up_k, up_j]
  · simp (disch := omega) only [up_k, up_j]
  · simp (disch := omega) only [up_k, up_j]; exact ⟨trivial, trivial, trivial, fun _ _ => trivial⟩
  · rw [up_r _ _ _ (by decide), up_r _ _ _ (by decide)]
  · rw [up_r _ _ _ (by decide), up_r _ _ _ (by decide)]
  · simp (disch := omega) only [up_k, up_j]
  · rw [up_r _ _ _ (by decide), up_r _ _ _ (by decide)]
  · rw [up_r _ _ _ (by decide), up_r _ _ _ (by decide)]
theorem szG_25 (K V : Int → Int) (c : Int) : szG K V c σ 84 25 = σ 84 25 := by
  unfold szG
  simp (disch := omega) only [up_k, up_j]
theorem mnL_i (h : IV e K V N S σ) {m : Nat} (hp : PgE K m (σ 84 8)) : ∀ n, m < n → Rn (mnL K V N S n σ).1 := by
  intro n
  induction n generalizing m σ with
  | zero => intro hn; omega
  | succ n ih =>
    intro hn
    simp only [mnL]
    split
    · split
      · exact Rn_p rfl
      · exact Rn_p rfl
    · rename_i c
      split
      · rename_i c2
        cases m with
        | zero => exact absurd hp c
        | succ m =>
          obtain ⟨b, g1, g2⟩ := hp
          obtain ⟨q1, q2, -⟩ := mnI_inv h g1 c2
          exact ih q1.i8 (m := m) (by rw [incS_s, q2]; exact g2) (by omega)
      · exact mnI_rn h.i8 _
def rt0 (σ : Sg) : Sg := up (up (up σ 84 0 0) 84 4 (-1)) 84 38 0
def rt1 (σ : Sg) : Sg := scC (rt0 σ)
def rtE (σ : Sg) : Int := scE (rt0 σ)
def rtK (σ : Sg) : Int → Int := KR (rt1 σ) (rtE σ)
def rt2 (σ : Sg) : Sg := up (rt1 σ) 84 8 0
def qT (σ : Sg) : Bool × Pp := qEx (rtK σ) (rt2 σ 84 8, rt2 σ 84 9)
def rt3 (σ : Sg) : Sg := stR (rt2 σ) (qT σ).2
def okT (σ : Sg) : Bool := (qT σ).1 && decide (rtK σ (qT σ).2.1 = 25)
def rt5 (σ : Sg) : Sg := if okT σ = true then up (rt3 σ) 84 8 0 else up (up (rt3 σ) 84 4 (Sx (rt1 σ) (qT σ).2.1)) 84 8 0
def rt6 (σ : Sg) : Int × Sg := if okT σ = true then loM (rtK σ) (Vx (rt1 σ)) (Sx (rt1 σ)) (rt5 σ) else (1, rt5 σ)
def rt8 (σ : Sg) : Sg := if (rt6 σ).1 = 0 then up (up (rt6 σ).2 84 8 (chE (rtK σ) (Vx (rt1 σ)) (rt6 σ).2 (rt3 σ 84 15) 0)) 84 38 (chV (rtK σ) (Vx (rt1 σ)) (rt6 σ).2 (rt3 σ 84 15) 0) else up (rt6 σ).2 84 8 0
def rtS (σ : Sg) : Sg := up (rt8 σ) 84 2 0
def rtV (σ : Sg) : Int := (rt6 σ).1
theorem rt3_8 : rt3 σ 84 8 = (qT σ).2.1 := rfl
theorem rt3_o {j : Nat} (h : j ≠ 8 ∧ j ≠ 9) : rt3 σ 84 j = rt1 σ 84 j := by
  unfold rt3 stR rt2
  rw [up_j _ _ h.1, up_j _ _ h.2, up_j _ _ h.1]
theorem rt3_k {k : Nat} (h : k ≠ 84) : rt3 σ k = rt1 σ k := by
  unfold rt3 stR rt2
  rw [up_r _ _ _ h, up_r _ _ _ h, up_r _ _ _ h]
theorem rt1_d (hb : Rb σ) (ht : Rt σ) : ScD (rt0 σ) (rt1 σ) (rtE σ) := sc_ok (show Rb (rt0 σ) from hb) (show Rt (rt0 σ) from ht)
theorem rt1_o (hb : Rb σ) (ht : Rt σ) {k : Nat} (h : k ≠ 86 ∧ k ≠ 87 ∧ k ≠ 88) : rt1 σ k = rt0 σ k := (rt1_d hb ht).1 k h
theorem rt1_b (hb : Rb σ) (ht : Rt σ) : Rb (rt1 σ) := by
  unfold Rb
  rw [rt1_o hb ht (by decide), rt1_o hb ht (by decide)]
  exact hb
theorem Tt_1 (hb : Rb σ) (ht : Rt σ) (h9 : 0 ≤ σ 84 9 ∧ σ 84 9 ≤ 1500) : Tk (rt1 σ) (rtE σ) (rtK σ) (Vx (rt1 σ)) (Nx (rt1 σ)) (Sx (rt1 σ)) := by
  obtain ⟨d1, d2, d3, d4, d5⟩ := rt1_d hb ht
  refine Tk_of (rt1_b hb ht) d2 d3 d4 d5 ?_
  rw [rt1_o hb ht (by decide)]
  exact h9
theorem Tt_2 (hb : Rb σ) (ht : Rt σ) (h9 : 0 ≤ σ 84 9 ∧ σ 84 9 ≤ 1500) : Tk (rt2 σ) (rtE σ) (rtK σ) (Vx (rt1 σ)) (Nx (rt1 σ)) (Sx (rt1 σ)) := (Tt_1 hb ht h9).o (by decide)
theorem qT_bd (hb : Rb σ) (ht : Rt σ) (h9 : 0 ≤ σ 84 9 ∧ σ 84 9 ≤ 1500) : bd (rtE σ) (qT σ).2 := by
  have hT := Tt_2 hb ht h9
  have he := hT.e
  exact (gF_Ex hT.E he.2 _ (hT.bd ⟨Int.le_refl 0, he.1⟩)).1
theorem Tt_3 (hb : Rb σ) (ht : Rt σ) (h9 : 0 ≤ σ 84 9 ∧ σ 84 9 ≤ 1500) : Tk (rt3 σ) (rtE σ) (rtK σ) (Vx (rt1 σ)) (Nx (rt1 σ)) (Sx (rt1 σ)) := by
  have hT := Tt_1 hb ht h9
  have hq := qT_bd hb ht h9
  obtain ⟨⟨⟨a1, a2⟩, a3, a4, a5, a6⟩, b1, b2, b3, b4⟩ := hT
  have k85 := rt3_k (σ := σ) (k := 85) (by decide)
  have k86 := rt3_k (σ := σ) (k := 86) (by decide)
  have k87 := rt3_k (σ := σ) (k := 87) (by decide)
  have k88 := rt3_k (σ := σ) (k := 88) (by decide)
  have k2 := rt3_o (σ := σ) (j := 2) (by decide)
  refine ⟨⟨⟨by rw [k2]; exact a1, by rw [k85]; exact a2⟩, by unfold Rt; rw [k86, k87, k88]; exact a3, a4, by rw [k86]; exact a5, by unfold TkOk; rw [k85, k86, k87, k88]; exact a6⟩, by rw [KR_cg k85 k86 k87 k88]; exact b1, by rw [nmV_cg k85 k87 k88, nuV_cg k85 k87 k88, k87]; exact b2, b3, hq.2⟩
theorem Ct_3 (hb : Rb σ) (ht : Rt σ) (hC : Cn σ) : Cn (up (rt3 σ) 84 8 0) := by
  have z : ∀ j, j = 10 ∨ j = 15 ∨ j = 23 ∨ j = 25 ∨ j = 30 ∨ j = 36 → up (rt3 σ) 84 8 0 84 j = σ 84 j := by
    intro j hj
    rw [up_j _ _ (by omega), rt3_o (by omega), rt1_o hb ht (by decide)]
    rcases hj with rfl | rfl | rfl | rfl | rfl | rfl <;> rfl
  exact hC.cg (z 10 (by omega)) (z 15 (by omega)) (z 23 (by omega)) (z 25 (by omega)) (z 30 (by omega)) (z 36 (by omega))
theorem ChO_T (h : (qT σ).1 = true) : ChO (rtK σ) 0 (qT σ).2.1 := ⟨h, rfl⟩
end S46
