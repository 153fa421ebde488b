/-! class and reference, side by side: the program's rows and the menu's tallies -/
section S54
variable {σ τ : Sg}
/-- the program's rows: the class's cells of σ against the reference's of τ -/
def RP (σ τ : Sg) : Prop :=
  (σ 10 2 = τ 84 10 ∧ σ 12 2 = τ 84 15 ∧ σ 14 2 = τ 84 23 ∧ σ 16 2 = τ 84 36 ∧ σ 18 4 = τ 84 30 ∧ σ 9 16 = τ 84 25) ∧
  (∀ j : Nat, (j : Int) < τ 84 10 → σ 23 j = τ 90 j ∧ σ 24 j = τ 91 j ∧ σ 25 j = τ 92 j) ∧
  (∀ j : Nat, (j : Int) < τ 84 15 → σ 13 j = τ 93 j ∧ σ 26 j = τ 94 j ∧ σ 27 j = enR τ j ∧ σ 28 j = pcR τ j ∧ σ 29 j = τ 97 j ∧ σ 30 j = τ 98 j ∧ ∀ f : Nat, f < 16 → σ (34 + j) f = τ 99 (16 * j + f)) ∧
  (∀ j : Nat, (j : Int) < τ 84 36 → σ 17 j = τ 110 j) ∧
  (∀ c : Nat, (c : Int) < τ 84 25 → σ 32 c = τ 101 c ∧ σ 33 c = τ 102 c) ∧
  (∀ r : Nat, (r : Int) < τ 84 30 → σ 19 r = τ 105 r ∧ σ 20 r = τ 106 r ∧ σ 21 r = τ 107 r ∧ σ 22 r = mtV τ r)
/-- the menu and its tallies -/
def RM (σ τ : Sg) : Prop :=
  σ 55 6 = τ 84 39 ∧ (∀ d c : Nat, (d : Int) < τ 84 39 → (c : Int) < τ 84 25 → σ (61 + d) c = dA τ d c) ∧ σ 55 7 = gapV τ ∧
  (∀ r d : Nat, (r : Int) < τ 84 30 → (d : Int) < τ 84 39 → σ (75 + r) d = cnt τ (mtV τ r) d) ∧ (∀ d : Nat, (d : Int) < τ 84 39 → σ 58 d = suV2 τ d false) ∧
  (∀ x : Nat, (x : Int) < τ 84 15 → σ 59 x = tiV τ x) ∧ (∀ r : Nat, (r : Int) < τ 84 30 → σ 60 r = ruV τ r)
def RuG (τ : Sg) : Prop := ∀ r : Nat, (r : Int) < τ 84 30 → (τ 105 r = 0 → 1 ≤ τ 106 r) ∧ (τ 105 r = 1 ∨ τ 105 r = 2 → 1 ≤ τ 107 r)
theorem RP_mp (h : RP σ τ) (d c x : Int) : RP σ (mp τ d c x) := h
theorem RuG_mp (h : RuG τ) (d c x : Int) : RuG (mp τ d c x) := h
theorem dA_mp {d c x a b : Int} (hd : 0 ≤ d) (hc : 0 ≤ c ∧ c < 8) (ha : 0 ≤ a) (hb : 0 ≤ b ∧ b < 8) : dA (mp τ d c x) a b = if a = d ∧ b = c then x else dA τ a b := by
  unfold dA mp
  rw [up_at]
  by_cases e : a = d ∧ b = c
  · rw [if_pos e, if_pos (by omega)]
  · rw [if_neg e, if_neg (by omega)]
def bt (s y : Int) : Int := if y = -1 then 0 else iand (ishr s y) 1
def pe (τ : Sg) (p : Bool) (y : Int) : Int := if y = -1 then 0 else (if p = true then pcR τ y else enR τ y)
theorem bt_bd (s y : Int) : 0 ≤ bt s y ∧ bt s y ≤ 1 := by
  unfold bt
  have := iand1 (ishr s y)
  split <;> omega
theorem isB_bt (s d c : Int) : isB τ s d c = bt s (dA τ d c) := by
  unfold isB bt isM
  have h := iand1 (ishr s (dA τ d c))
  by_cases e : dA τ d c = -1
  · rw [if_pos e, decide_eq_false (fun z => z.1 e)]; rfl
  · rw [if_neg e]
    rcases h with h | h
    · rw [decide_eq_false (fun z => by have := z.2; omega), h]; rfl
    · rw [decide_eq_true ⟨e, h⟩, h]; rfl
theorem one_pt {F : Int → Int} {d c x a : Int} (hC : 0 ≤ τ 84 25 ∧ τ 84 25 ≤ 8) (hd : 0 ≤ d) (hc : 0 ≤ c ∧ c < τ 84 25) (ha : 0 ≤ a) : sm (fun b => F (dA (mp τ d c x) a b)) (τ 84 25).toNat = if a = d then sm (fun b => F (dA τ d b)) (τ 84 25).toNat - F (dA τ d c) + F x else sm (fun b => F (dA τ a b)) (τ 84 25).toNat := by
  by_cases e : a = d
  · rw [if_pos e, e]
    rw [sm_pt (h := fun b => F (dA τ d b)) (k := c) _ hc.1 (by omega) (fun j h0 h1 h2 => by rw [dA_mp hd ⟨hc.1, by omega⟩ hd ⟨h0, by omega⟩, if_neg (by omega)])]
    rw [dA_mp hd ⟨hc.1, by omega⟩ hd ⟨hc.1, by omega⟩, if_pos ⟨rfl, rfl⟩]
  · rw [if_neg e]
    exact sm_ext _ (fun j h0 h1 => by rw [dA_mp hd ⟨hc.1, by omega⟩ ha ⟨h0, by omega⟩, if_neg (by omega)])
theorem two_pt {F : Int → Int} {d c x : Int} (hC : 0 ≤ τ 84 25 ∧ τ 84 25 ≤ 8) (hd : 0 ≤ d ∧ d < τ 84 39) (hc : 0 ≤ c ∧ c < τ 84 25) : sm (fun a => sm (fun b => F (dA (mp τ d c x) a b)) (τ 84 25).toNat) (τ 84 39).toNat = sm (fun a => sm (fun b => F (dA τ a b)) (τ 84 25).toNat) (τ 84 39).toNat - F (dA τ d c) + F x := by
  rw [sm_pt (h := fun a => sm (fun b => F (dA τ a b)) (τ 84 25).toNat) (k := d) _ hd.1 (by omega) (fun j h0 h1 h2 => by
    rw [one_pt hC hd.1 hc h0, if_neg h2])]
  rw [one_pt hC hd.1 hc hd.1, if_pos rfl]
  omega
theorem cnt_mp {d c x : Int} (hP : PI τ) (hd : 0 ≤ d ∧ d < τ 84 39) (hc : 0 ≤ c ∧ c < τ 84 25) (hx : -1 ≤ x ∧ x < τ 84 15) (s : Int) {a : Int} (ha : 0 ≤ a) : cnt (mp τ d c x) s a = if a = d then cnt τ s d - bt s (dA τ d c) + bt s x else cnt τ s a := by
  have h1 : ∀ (σ : Sg) (e : Int), cnt σ s e = sm (fun b => bt s (dA σ e b)) (σ 84 25).toNat := fun σ e => sm_ext _ (fun j _ _ => isB_bt s e j)
  rw [h1, h1, h1]
  exact one_pt hP.1.2.2.2.1 hd.1 hc ha
theorem suV2_mp {d c x : Int} (hP : PI τ) (hd : 0 ≤ d ∧ d < τ 84 39) (hc : 0 ≤ c ∧ c < τ 84 25) (hx : -1 ≤ x ∧ x < τ 84 15) (p : Bool) {a : Int} (ha : 0 ≤ a) : suV2 (mp τ d c x) a p = if a = d then suV2 τ d p - pe τ p (dA τ d c) + pe τ p x else suV2 τ a p := by
  rw [suV2_e (PI_mp hP hx), suV2_e hP, suV2_e hP]
  exact one_pt (F := pe τ p) hP.1.2.2.2.1 hd.1 hc ha
theorem gapV_mp {d c x : Int} (hP : PI τ) (hd : 0 ≤ d ∧ d < τ 84 39) (hc : 0 ≤ c ∧ c < τ 84 25) (hx : -1 ≤ x ∧ x < τ 84 15) : gapV (mp τ d c x) = gapV τ - (if dA τ d c = -1 then 1 else 0) + (if x = -1 then 1 else 0) := by
  rw [gapV_e (PI_mp hP hx), gapV_e hP]
  exact two_pt (F := fun y => if y = -1 then 1 else 0) hP.1.2.2.2.1 hd hc
theorem tiV_mp {d c x : Int} (hP : PI τ) (hd : 0 ≤ d ∧ d < τ 84 39) (hc : 0 ≤ c ∧ c < τ 84 25) (hx : -1 ≤ x ∧ x < τ 84 15) (y : Int) : tiV (mp τ d c x) y = tiV τ y - (if dA τ d c = y then 1 else 0) + (if x = y then 1 else 0) := by
  rw [tiV_e (PI_mp hP hx), tiV_e hP]
  exact two_pt (F := fun z => if z = y then 1 else 0) hP.1.2.2.2.1 hd hc
/-! the class -/
theorem hasC_y {a : Sg} {N y : Int} (h : a 12 2 = N) (hN : 0 ≤ N ∧ N ≤ 16) (hy : -1 ≤ y ∧ y < N) : hasC a 12 y = decide (¬ y = -1) := by
  unfold hasC
  rw [h, i32_n y (by omega), i32_n N (by omega)]
  by_cases e : y = -1
  · rw [decide_eq_false (by omega), decide_eq_false (fun z => z e)]
  · rw [decide_eq_true (by omega), decide_eq_true e]
theorem mnC_bt {a : Sg} {N y r : Int} (h : a 12 2 = N) (hN : 0 ≤ N ∧ N ≤ 16) (hy : -1 ≤ y ∧ y < N) : mnC a r y = bt (a 22 r.toNat) y := by
  unfold mnC bt
  rw [hasC_y h hN hy]
  by_cases e : y = -1
  · rw [decide_eq_false (fun z => z e), if_pos e]; rfl
  · rw [decide_eq_true e, if_neg e]; rfl
theorem taC_k {a : Sg} {d x m : Int} {k : Nat} (h : k ≠ 55 ∧ k ≠ 58 ∧ k ≠ 59) : taC a d x m k = a k := by
  unfold taC
  split
  · rw [up_r _ _ _ h.2.1, up_r _ _ _ h.2.2]
  · rw [up_r _ _ _ h.1]
theorem taC_v {a : Sg} {N d y m : Int} (h : a 12 2 = N) (hN : 0 ≤ N ∧ N ≤ 16) (hy : -1 ≤ y ∧ y < N) (hd : 0 ≤ d ∧ d < 14) :
    taC a d y m 55 6 = a 55 6 ∧ taC a d y m 55 7 = a 55 7 + (if y = -1 then m else 0) ∧ (∀ j : Nat, taC a d y m 59 j = a 59 j + (if (j : Int) = y then m else 0)) ∧ (∀ j : Nat, taC a d y m 58 j = a 58 j + (if (j : Int) = d then (if y = -1 then 0 else m * a 27 y.toNat) else 0)) := by
  unfold taC
  rw [hasC_y h hN hy, i32_n d (by omega), i32_n y (by omega)]
  by_cases e : y = -1
  · rw [decide_eq_false (fun z => z e), if_neg (by decide), if_pos e, if_pos e]
    refine ⟨up_j _ _ (by decide), up_s _ _ _ _, fun j => ?_, fun j => ?_⟩
    · rw [up_k _ _ (by decide), if_neg (by omega)]; omega
    · rw [up_k _ _ (by decide)]; split <;> omega
  · rw [decide_eq_true e, if_pos rfl, if_neg e, if_neg e]
    refine ⟨?_, ?_, fun j => ?_, fun j => ?_⟩
    · rw [up_k _ _ (by decide), up_k _ _ (by decide)]
    · rw [up_k _ _ (by decide), up_k _ _ (by decide)]; omega
    · rw [up_k _ _ (by decide), up_at]
      by_cases z : (j : Int) = y
      · rw [if_pos z, if_pos (by omega), show y.toNat = j from by omega]
      · rw [if_neg z, if_neg (by omega)]; omega
    · rw [up_at]
      by_cases z : (j : Int) = d
      · rw [if_pos z, if_pos (by omega), show d.toNat = j from by omega]
      · rw [if_neg z, if_neg (by omega), up_k _ _ (by decide)]; omega
theorem hasPl_y {a : Sg} {D C d c : Int} (h1 : a 55 6 = D) (h2 : a 9 16 = C) (hD : 0 ≤ D ∧ D ≤ 14) (hC : 0 ≤ C ∧ C ≤ 8) (hd : 0 ≤ d ∧ d < D) (hc : 0 ≤ c ∧ c < C) : hasPl a d c = true := by
  unfold hasPl hasDy hasCh
  rw [h1, h2, i32_n d (by omega), i32_n D (by omega), i32_n c (by omega), i32_n C (by omega)]
  rw [decide_eq_true (show 0 ≤ d ∧ d < D ∧ d < 14 by omega), decide_eq_true (show 0 ≤ c ∧ c < C ∧ c < 8 by omega)]
  rfl
theorem pe_bd (hP : PI τ) {y : Int} (p : Bool) (hy : -1 ≤ y ∧ y < τ 84 15) : 0 ≤ pe τ p y ∧ pe τ p y ≤ 1000000 := by
  unfold pe
  split
  · omega
  · have h1 := enR_bd hP (d := y) ⟨by omega, hy.2⟩
    have h2 := pcR_bd hP (d := y) ⟨by omega, hy.2⟩
    split <;> omega
theorem suV2_bd (hP : PI τ) {d : Int} (p : Bool) (hd : 0 ≤ d ∧ d < τ 84 39) : 0 ≤ suV2 τ d p ∧ suV2 τ d p ≤ 8000000 := by
  have hC := hP.1.2.2.2.1
  rw [suV2_e hP]
  have := sm_bd (h := suH τ d p) (a := 0) (b := 1000000) (τ 84 25).toNat (fun j j0 j1 => pe_bd hP p (hP.dA hd (c := j) ⟨j0, by omega⟩))
  omega
end S54
