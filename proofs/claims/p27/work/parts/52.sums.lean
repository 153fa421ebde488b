/-! sums, and the reference's counts as sums -/
section S52
variable {σ : Sg}
def sm (h : Int → Int) : Nat → Int
  | 0 => 0
  | n + 1 => sm h n + h n
theorem sm_s (h : Int → Int) (n : Nat) : sm h (n + 1) = sm h n + h n := rfl
theorem sm_ext {h g : Int → Int} : ∀ n : Nat, (∀ j : Int, 0 ≤ j → j < n → h j = g j) → sm h n = sm g n
  | 0, _ => rfl
  | n + 1, e => by
    rw [sm_s, sm_s, sm_ext n (fun j h1 h2 => e j h1 (by omega)), e n (by omega) (by omega)]
theorem sm_add (h g : Int → Int) : ∀ n : Nat, sm (fun j => h j + g j) n = sm h n + sm g n
  | 0 => rfl
  | n + 1 => by rw [sm_s, sm_s, sm_s, sm_add h g n]; omega
theorem sm_mul (c : Int) (h : Int → Int) : ∀ n : Nat, sm (fun j => c * h j) n = c * sm h n
  | 0 => (Int.mul_zero c).symm
  | n + 1 => by rw [sm_s, sm_s, sm_mul c h n, Int.mul_add]
theorem sm_zero {h : Int → Int} : ∀ n : Nat, (∀ j : Int, 0 ≤ j → j < n → h j = 0) → sm h n = 0
  | 0, _ => rfl
  | n + 1, e => by rw [sm_s, sm_zero n (fun j h1 h2 => e j h1 (by omega)), e n (by omega) (by omega)]; rfl
theorem sm_pt {h g : Int → Int} {k : Int} : ∀ n : Nat, 0 ≤ k → k < n → (∀ j : Int, 0 ≤ j → j < n → j ≠ k → g j = h j) → sm g n = sm h n - h k + g k
  | 0, h0, h1, _ => by omega
  | n + 1, h0, h1, e => by
    rw [sm_s, sm_s]
    by_cases c : k = n
    · rw [sm_ext n (fun j h2 h3 => e j h2 (by omega) (by omega)), c]; omega
    · rw [sm_pt n h0 (by omega) (fun j h2 h3 => e j h2 (by omega)), e n (by omega) (by omega) (by omega)]; omega
theorem sm_bd {h : Int → Int} {a b : Int} : ∀ n : Nat, (∀ j : Int, 0 ≤ j → j < n → a ≤ h j ∧ h j ≤ b) → a * n ≤ sm h n ∧ sm h n ≤ b * n
  | 0, _ => by simp [sm]
  | n + 1, e => by
    have h1 := sm_bd n (fun j h1 h2 => e j h1 (by omega))
    have h2 := e n (by omega) (by omega)
    rw [sm_s]
    have e1 : a * ((n + 1 : Nat) : Int) = a * n + a := by rw [Int.natCast_add, Int.mul_add]; simp
    have e2 : b * ((n + 1 : Nat) : Int) = b * n + b := by rw [Int.natCast_add, Int.mul_add]; simp
    omega
theorem sm_app (h : Int → Int) (m : Nat) : ∀ n : Nat, sm h (m + n) = sm h m + sm (fun j => h (m + j)) n
  | 0 => by simp [sm]
  | n + 1 => by
    show sm h (m + n) + h ((m + n : Nat) : Int) = _
    rw [sm_app h m n, sm_s, Int.natCast_add]; omega
theorem sm_idx (h : Int → Int) (C : Nat) : ∀ D : Nat, sm h (D * C) = sm (fun d => sm (fun c => h (d * C + c)) C) D
  | 0 => by rw [Nat.zero_mul]; rfl
  | D + 1 => by
    rw [Nat.succ_mul, sm_app, sm_idx h C D, sm_s]
    refine congrArg _ (sm_ext C (fun j _ _ => ?_))
    rw [Int.natCast_mul]
theorem sm_swap (h : Int → Int → Int) (m : Nat) : ∀ n : Nat, sm (fun i => sm (fun j => h i j) m) n = sm (fun j => sm (fun i => h i j) n) m
  | 0 => (sm_zero m (fun _ _ _ => rfl)).symm
  | n + 1 => by
    rw [sm_s, sm_swap h m n, ← sm_add]
    exact sm_ext m (fun j _ _ => rfl)
theorem fW_sm {sz : Int} {g : Int → Int → Int} {h : Int → Int} (hg : ∀ i a, 0 ≤ i → i < sz → g i a = a + h i) : ∀ (n : Nat) (i a : Int), 0 ≤ i → i ≤ sz → sz ≤ i + n → fW sz g n i a = a + (sm h sz.toNat - sm h i.toNat)
  | 0, i, a, h0, h1, h2 => by
    have : i = sz := by omega
    rw [this]; show a = _; omega
  | n + 1, i, a, h0, h1, h2 => by
    rw [fW_s]
    by_cases c : i < sz
    · rw [if_pos c, fW_sm hg n (i + 1) _ (by omega) (by omega) (by omega), hg i a h0 c]
      have e : (i + 1).toNat = i.toNat + 1 := by omega
      have e2 : ((i.toNat : Nat) : Int) = i := by omega
      rw [e, sm_s, e2]; omega
    · rw [if_neg c]
      have : i = sz := by omega
      rw [this]; omega
theorem fW_sm0 {sz : Int} {g : Int → Int → Int} {h : Int → Int} {n : Nat} {a : Int} (hg : ∀ i a, 0 ≤ i → i < sz → g i a = a + h i) (h0 : 0 ≤ sz) (h1 : sz ≤ n) : fW sz g n 0 a = a + sm h sz.toNat := by
  rw [fW_sm hg n 0 a (Int.le_refl _) h0 (by omega)]
  show a + (sm h sz.toNat - 0) = _
  omega
/-- a loop over a state beside the sum -/
theorem fG_fW {α : Type} {c : Int → α → Bool} {g : Int → α → α} {sz : Int} (hc : ∀ i a, c i a = decide (i < sz)) : ∀ (n : Nat) (i : Int) (a : α), fG c g n i a = fW sz g n i a
  | 0, _, _ => rfl
  | n + 1, i, a => by
    rw [fG_s, fW_s, hc]
    by_cases h : i < sz
    · rw [if_pos (decide_eq_true h), if_pos h]; exact fG_fW hc n (i + 1) _
    · rw [if_neg (by rw [decide_eq_false h]; decide), if_neg h]
theorem iand1 (y : Int) : iand y 1 = 0 ∨ iand y 1 = 1 := by
  have e : I32 y &&& I32 1 = ⟨⟨(I32 y).toBitVec &&& 1#32⟩⟩ := rfl
  unfold iand
  rw [e, BitVec.and_one_eq_setWidth_ofBool_getLsbD]
  cases (I32 y).toBitVec.getLsbD 0
  · exact Or.inl rfl
  · exact Or.inr rfl
/-! the reference -/
def isB (σ : Sg) (s d c : Int) : Int := b2i (isM σ s d c)
theorem b2i_01 (p : Bool) : 0 ≤ b2i p ∧ b2i p ≤ 1 := by cases p <;> decide
def cnt (σ : Sg) (s d : Int) : Int := sm (isB σ s d) (σ 84 25).toNat
theorem miG_e (s d c a : Int) : miG σ s d c a = a + isB σ s d c := by
  unfold miG isB
  cases isM σ s d c
  · exact if_neg (by decide)
  · exact if_pos rfl
theorem mjG_e (hP : PI σ) (s d a : Int) : mjG σ s d a = a + cnt σ s d := by
  have hC := hP.1.2.2.2.1
  exact fW_sm0 (fun i a _ _ => miG_e s d i a) hC.1 (by omega)
theorem cnt_bd (hP : PI σ) (s d : Int) : 0 ≤ cnt σ s d ∧ cnt σ s d ≤ 8 := by
  have hC := hP.1.2.2.2.1
  have := sm_bd (h := isB σ s d) (a := 0) (b := 1) (σ 84 25).toNat (fun j _ _ => b2i_01 _)
  unfold cnt
  omega
theorem mnIn_e (hP : PI σ) (s : Int) {fr un : Int} (h0 : 0 ≤ fr) (h1 : fr ≤ un) (h2 : un ≤ 14 + fr) : mnIn σ s fr un = sm (cnt σ s) un.toNat - sm (cnt σ s) fr.toNat := by
  have := fW_sm (sz := un) (g := mjG σ s) (h := cnt σ s) (fun i a _ _ => mjG_e hP s i a) 14 fr 0 h0 h1 (by omega)
  unfold mnIn
  omega
def suH (σ : Sg) (d : Int) (p : Bool) (c : Int) : Int := if dA σ d c = -1 then 0 else (if p = true then pcR σ (dA σ d c) else enR σ (dA σ d c))
theorem suV2_e (hP : PI σ) (d : Int) (p : Bool) : suV2 σ d p = sm (suH σ d p) (σ 84 25).toNat := by
  have hC := hP.1.2.2.2.1
  have := fW_sm0 (sz := σ 84 25) (g := suG σ d p) (h := suH σ d p) (n := 8) (a := 0) (fun i a _ _ => by unfold suG suH; split <;> omega) hC.1 (by omega)
  unfold suV2; omega
def gpH (σ : Sg) (d c : Int) : Int := if dA σ d c = -1 then 1 else 0
theorem gapV_e (hP : PI σ) : gapV σ = sm (fun d => sm (gpH σ d) (σ 84 25).toNat) (σ 84 39).toNat := by
  have hC := hP.1.2.2.2.1
  have hD := hP.2.2.2.1
  have h1 : ∀ d a : Int, gqG σ d a = a + sm (gpH σ d) (σ 84 25).toNat := fun d a =>
    fW_sm0 (fun i a _ _ => by unfold gpG gpH; split <;> omega) hC.1 (by omega)
  have := fW_sm0 (sz := σ 84 39) (g := gqG σ) (n := 14) (a := 0) (fun i a _ _ => h1 i a) hD.1 (by omega)
  unfold gapV; omega
def tiH (σ : Sg) (x d c : Int) : Int := if dA σ d c = x then 1 else 0
theorem tiV_e (hP : PI σ) (x : Int) : tiV σ x = sm (fun d => sm (tiH σ x d) (σ 84 25).toNat) (σ 84 39).toNat := by
  have hC := hP.1.2.2.2.1
  have hD := hP.2.2.2.1
  have h1 : ∀ d a : Int, tjG σ x d a = a + sm (tiH σ x d) (σ 84 25).toNat := fun d a =>
    fW_sm0 (fun i a _ _ => by unfold tiG tiH; split <;> omega) hC.1 (by omega)
  have := fW_sm0 (sz := σ 84 39) (g := tjG σ x) (n := 14) (a := 0) (fun i a _ _ => h1 i a) hD.1 (by omega)
  unfold tiV; omega
theorem afV_e (hP : PI σ) : afV σ = gapV σ + sm (ruV σ) (σ 84 30).toNat := by
  have hR := hP.1.2.2.2.2.1
  exact fW_sm0 (fun i a _ _ => rfl) hR.1 (by omega)
def hfH (σ : Sg) (r : Int) : Int := if σ 105 r.toNat = 0 ∨ σ 105 r.toNat = 1 then ruV σ r else 0
theorem hfV_e (hP : PI σ) : hfV σ = sm (hfH σ) (σ 84 30).toNat := by
  have hR := hP.1.2.2.2.2.1
  have := fW_sm0 (sz := σ 84 30) (g := hfG σ) (h := hfH σ) (n := 8) (a := 0) (fun i a _ _ => by unfold hfG hfH; split <;> omega) hR.1 (by omega)
  unfold hfV; omega
/-! the faults of a rule, out of what is counted a day -/
def nearN (f : Int) (cn : Int → Int) (d : Int) : Int := sm (fun j => if d - j < f then cn j else 0) d.toNat
def apN (f D : Int) (cn : Int → Int) : Int := sm (fun d => cn d * nearN f cn d + (cn d * (cn d - 1)).tdiv 2) D.toNat
def winN (cn : Int → Int) (a s : Int) : Int := sm cn (a + s).toNat - sm cn a.toNat
def rcN (srt f s2 D : Int) (cn en : Int → Int) : Int :=
  if srt = 0 then apN f D cn
  else if srt = 3 then sm (fun d => if f ≤ en d ∧ en d ≤ s2 then 0 else 1) D.toNat
  else if D < s2 then (if srt = 1 ∧ f < sm cn D.toNat then 1 else 0)
  else sm (fun a => if srt = 1 then (if f < winN cn a s2 then 1 else 0) else (if winN cn a s2 < f then 1 else 0)) (D - s2 + 1).toNat
theorem nearN_ext {f : Int} {cn cm : Int → Int} {d : Int} (h : ∀ j : Int, 0 ≤ j → j < d → cn j = cm j) : nearN f cn d = nearN f cm d := by
  unfold nearN
  exact sm_ext _ (fun j h0 h1 => by rw [h j h0 (by omega)])
theorem winN_ext {cn cm : Int → Int} {a s : Int} (ha : 0 ≤ a) (h : ∀ j : Int, 0 ≤ j → j < a + s → cn j = cm j) (hs : 0 ≤ s) : winN cn a s = winN cm a s := by
  unfold winN
  rw [sm_ext (a + s).toNat (fun j h0 h1 => h j h0 (by omega)), sm_ext a.toNat (fun j h0 h1 => h j h0 (by omega))]
theorem rcN_ext {srt f s2 D : Int} {cn cm en em : Int → Int} (hD : 0 ≤ D) (hs : 0 ≤ s2) (h : srt ≠ 3 → ∀ j : Int, 0 ≤ j → j < D → cn j = cm j) (he : srt = 3 → ∀ j : Int, 0 ≤ j → j < D → en j = em j) : rcN srt f s2 D cn en = rcN srt f s2 D cm em := by
  unfold rcN
  split
  · rename_i e
    have h := h (by omega)
    unfold apN
    exact sm_ext _ (fun j h0 h1 => by rw [h j h0 (by omega), nearN_ext (fun i h2 h3 => h i h2 (by omega))])
  · split
    · rename_i e
      exact sm_ext _ (fun j h0 h1 => by rw [he e j h0 (by omega)])
    · rename_i e1 e2
      have h := h e2
      split
      · rw [sm_ext D.toNat (fun j h0 h1 => h j h0 (by omega))]
      · exact sm_ext _ (fun j h0 h1 => by rw [winN_ext h0 (fun i h2 h3 => h i h2 (by omega)) hs])
/-- pairs within a day -/
theorem sm_tri (m : Int → Int) (hm : ∀ j, m j = 0 ∨ m j = 1) : ∀ n : Nat, 2 * sm (fun c => m c * sm m c.toNat) n = sm m n * (sm m n - 1)
  | 0 => rfl
  | n + 1 => by
    rw [sm_s, sm_s, Int.mul_add, sm_tri m hm n]
    have e : ((n : Int)).toNat = n := by omega
    rw [e]
    rcases hm n with h | h
    · rw [h]; simp
    · rw [h]
      have : ∀ s : Int, s * (s - 1) + 2 * (1 * s) = (s + 1) * (s + 1 - 1) := fun s => by
        rw [Int.one_mul, show s + 1 - 1 = s from by omega, Int.mul_sub, Int.add_mul]; omega
      exact this _
theorem tri_div {S T : Int} (h : 2 * T = S * (S - 1)) : (S * (S - 1)).tdiv 2 = T := by
  rw [← h, Int.mul_comm]
  exact Int.mul_tdiv_cancel T (by decide)
theorem ite_mul01 {p q : Bool} {r : Prop} [Decidable r] : (if p = true ∧ q = true then (if r then (1 : Int) else 0) else 0) = b2i p * (if r then b2i q else 0) := by
  cases p <;> cases q <;> by_cases h : r <;> simp [b2i, h]
theorem apG_e (s r one oth a : Int) : apG σ s r one oth a = a + isB σ s (qd σ one) (qm σ one) * (if qd σ one - qd σ oth < σ 106 r.toNat then isB σ s (qd σ oth) (qm σ oth) else 0) := by
  unfold isB
  rw [← ite_mul01]
  unfold apG
  (repeat' split) <;> omega
theorem qd_at {C d c : Int} (hC : σ 84 25 = C) (hd : 0 ≤ d) (hc : 0 ≤ c ∧ c < C) : qd σ (d * C + c) = d ∧ qm σ (d * C + c) = c := by
  have h0 : 0 ≤ d * C + c := by have := Int.mul_nonneg hd (show 0 ≤ C by omega); omega
  have e : (d * C + c).tdiv C = d := by
    rw [Int.tdiv_eq_ediv_of_nonneg h0, Int.add_comm, Int.add_mul_ediv_right c d (by omega), Int.ediv_eq_zero_of_lt hc.1 hc.2]; omega
  unfold qd qm
  rw [hC, e]
  exact ⟨rfl, by omega⟩
/-- the rule apart -/
theorem ap_e (hP : PI σ) (s r : Int) (hf : 1 ≤ σ 106 r.toNat) : fW (σ 84 39 * σ 84 25) (aoG σ s r) 112 0 0 = apN (σ 106 r.toNat) (σ 84 39) (cnt σ s) := by
  have hC := hP.1.2.2.2.1
  have hD := hP.2.2.2.1
  have hdc := dc_le hD hC
  have h1 : ∀ one a : Int, 0 ≤ one → one < σ 84 39 * σ 84 25 → aoG σ s r one a = a + sm (fun oth => isB σ s (qd σ one) (qm σ one) * (if qd σ one - qd σ oth < σ 106 r.toNat then isB σ s (qd σ oth) (qm σ oth) else 0)) one.toNat := fun one a h0 h1 =>
    fW_sm0 (fun i a _ _ => apG_e s r one i a) h0 (by omega)
  rw [fW_sm0 (g := aoG σ s r) (n := 112) (a := 0) h1 hdc.1 (by omega)]
  obtain ⟨D, eD⟩ : ∃ D : Nat, (D : Int) = σ 84 39 := ⟨(σ 84 39).toNat, by omega⟩
  obtain ⟨C, eC⟩ : ∃ C : Nat, (C : Int) = σ 84 25 := ⟨(σ 84 25).toNat, by omega⟩
  have e : (σ 84 39 * σ 84 25).toNat = D * C := by rw [← eD, ← eC, ← Int.natCast_mul]; omega
  rw [e, sm_idx, Int.zero_add]
  unfold apN
  rw [← eD, show ((D : Int)).toNat = D from by omega]
  refine sm_ext D (fun d d0 d1 => ?_)
  have key : ∀ c : Int, 0 ≤ c → c < C → sm (fun oth => isB σ s (qd σ (d * C + c)) (qm σ (d * C + c)) * (if qd σ (d * C + c) - qd σ oth < σ 106 r.toNat then isB σ s (qd σ oth) (qm σ oth) else 0)) (d * C + c).toNat = nearN (σ 106 r.toNat) (cnt σ s) d * isB σ s d c + isB σ s d c * sm (isB σ s d) c.toNat := by
    intro c c0 c1
    have hq := qd_at (σ := σ) (C := C) (d := d) (c := c) eC.symm d0 ⟨c0, c1⟩
    rw [hq.1, hq.2, sm_mul]
    obtain ⟨dn, rfl⟩ : ∃ n : Nat, d = n := ⟨d.toNat, by omega⟩
    obtain ⟨cn, rfl⟩ : ∃ n : Nat, c = n := ⟨c.toNat, by omega⟩
    have e2 : ((dn : Int) * C + cn).toNat = dn * C + cn := by rw [← Int.natCast_mul, ← Int.natCast_add]; omega
    rw [e2, sm_app, sm_idx, Int.mul_add]
    have a1 : sm (fun d => sm (fun c => if (dn : Int) - qd σ (d * C + c) < σ 106 r.toNat then isB σ s (qd σ (d * C + c)) (qm σ (d * C + c)) else 0) C) dn = nearN (σ 106 r.toNat) (cnt σ s) dn := by
      unfold nearN
      rw [show ((dn : Int)).toNat = dn from by omega]
      refine sm_ext dn (fun j j0 j1 => ?_)
      have hq2 : ∀ c : Int, 0 ≤ c → c < C → qd σ (j * C + c) = j ∧ qm σ (j * C + c) = c := fun c h0 h1 => qd_at eC.symm j0 ⟨h0, h1⟩
      by_cases hj : (dn : Int) - j < σ 106 r.toNat
      · rw [if_pos hj]
        unfold cnt
        rw [← eC, show ((C : Int)).toNat = C from by omega]
        exact sm_ext C (fun c h0 h1 => by rw [(hq2 c h0 h1).1, (hq2 c h0 h1).2, if_pos hj])
      · rw [if_neg hj]
        exact sm_zero C (fun c h0 h1 => by rw [(hq2 c h0 h1).1, if_neg hj])
    have a2 : sm (fun j => if (dn : Int) - qd σ ((dn * C : Nat) + j) < σ 106 r.toNat then isB σ s (qd σ ((dn * C : Nat) + j)) (qm σ ((dn * C : Nat) + j)) else 0) cn = sm (isB σ s dn) cn := by
      refine sm_ext cn (fun j j0 j1 => ?_)
      have hq2 := qd_at (σ := σ) (C := C) (d := dn) (c := j) eC.symm (by omega) ⟨j0, by omega⟩
      rw [Int.natCast_mul, hq2.1, hq2.2, if_pos (by omega)]
    rw [a1, a2, show ((cn : Int)).toNat = cn from by omega, Int.mul_comm]
  rw [sm_ext C key, sm_add, sm_mul]
  have t := sm_tri (isB σ s d) (fun j => by unfold isB; cases isM σ s d j <;> simp [b2i]) C
  have ec : sm (isB σ s d) C = cnt σ s d := by unfold cnt; rw [← eC, show ((C : Int)).toNat = C from by omega]
  rw [ec] at t
  rw [tri_div t, ec, Int.mul_comm]
theorem ruV_e (hP : PI σ) {r : Int} (hr : 0 ≤ r ∧ r < σ 84 30) (h0 : σ 105 r.toNat = 0 → 1 ≤ σ 106 r.toNat) (h1 : σ 105 r.toNat = 1 ∨ σ 105 r.toNat = 2 → 1 ≤ σ 107 r.toNat) :
    ruV σ r = rcN (σ 105 r.toNat) (σ 106 r.toNat) (σ 107 r.toNat) (σ 84 39) (cnt σ (mtV σ r)) (fun d => suV2 σ d false) := by
  have hR := hP.2.2.1 r.toNat (by omega)
  have hD := hP.2.2.2.1
  unfold ruV rcN
  by_cases c0 : σ 105 r.toNat = 0
  · rw [if_pos c0, if_pos c0]
    exact ap_e hP _ r (h0 c0)
  · rw [if_neg c0, if_neg c0]
    by_cases c3 : σ 105 r.toNat = 3
    · rw [if_pos c3, if_pos c3]
      have i0 : inr (σ 106 r.toNat) := ⟨by omega, by omega⟩
      have i1 : inr (σ 107 r.toNat) := ⟨by omega, by omega⟩
      have hsu : ∀ d, 0 ≤ d ∧ d < σ 84 39 → inr (suV2 σ d false) := by
        intro d hd
        have hC := hP.1.2.2.2.1
        rw [suV2_e hP]
        · have := sm_bd (h := suH σ d false) (a := 0) (b := 1000000) (σ 84 25).toNat (fun j j0 j1 => by
            unfold suH
            split
            · omega
            · rename_i e
              have h2 := hP.dA hd (c := j) ⟨j0, by omega⟩
              rw [if_neg (by decide)]
              exact enR_bd hP ⟨by omega, h2.2⟩)
          exact ⟨by omega, by omega⟩
      rw [fW_sm0 (g := egG σ r) (n := 14) (a := 0) (h := fun d => if σ 106 r.toNat ≤ suV2 σ d false ∧ suV2 σ d false ≤ σ 107 r.toNat then 0 else 1) (fun i a hi0 hi1 => by
        unfold egG
        rw [inR_i (hsu i ⟨hi0, hi1⟩) i0 i1]
        by_cases h : σ 106 r.toNat ≤ suV2 σ i false ∧ suV2 σ i false ≤ σ 107 r.toNat
        · rw [if_pos (decide_eq_true h), if_pos h]
        · rw [if_neg (by rw [decide_eq_false h]; decide), if_neg h]) hD.1 (by omega)]
      exact Int.zero_add _
    · rw [if_neg c3, if_neg c3]
      have h2 := h1 (by omega)
      by_cases c4 : σ 84 39 < σ 107 r.toNat
      · rw [if_pos c4, if_pos c4, mnIn_e hP _ (Int.le_refl 0) hD.1 (by omega)]
        rw [show (0 : Int).toNat = 0 from rfl, show sm (cnt σ (mtV σ r)) 0 = 0 from rfl, Int.sub_zero]
      · rw [if_neg c4, if_neg c4]
        rw [fG_fW (sz := σ 84 39 - σ 107 r.toNat + 1) (fun i a => by by_cases h : i + σ 107 r.toNat ≤ σ 84 39 <;> simp [h] <;> omega)]
        rw [fW_sm0 (n := 15) (a := 0) (h := fun a => if σ 105 r.toNat = 1 then (if σ 106 r.toNat < winN (cnt σ (mtV σ r)) a (σ 107 r.toNat) then 1 else 0) else (if winN (cnt σ (mtV σ r)) a (σ 107 r.toNat) < σ 106 r.toNat then 1 else 0)) (fun i a hi0 hi1 => by
          unfold rsG
          rw [mnIn_e hP _ hi0 (show i ≤ i + σ 107 r.toNat by omega) (by omega)]
          unfold winN
          (repeat' split) <;> omega) (by omega) (by omega)]
        omega
end S52
