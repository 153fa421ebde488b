/-! Menu, Planner -/
section S13
variable {l : Launch} {G : Gx}
section JMM
variable {f : Fm} {own : String} {cc : ByteArray} {nL : Nat} {rt : Option FieldType} {dd rc rs : Nat} {Q : State → Prop} {xs : va_W} {k n pc : Nat} {lv : List (Nat × Value)} {rest : List Value} {σ : Sg}
def MMIN (own : String) (idx : Nat) : Prop := Cond.methodLink own idx Lib.Math.min.name ∈ lw_all ∧ Cond.static Lib.Math.min.name ∈ lw_all ∧ Cond.initialized "java/lang/Math" ∈ lw_all ∧ Cond.code Lib.Math.min.name Lib.Math.min.code 2 (some .int) ∈ lw_all
theorem mm_X3_117 : MMIN RX3 117 := ⟨in_all (i := 638) (by decide +kernel) rfl, in_all (i := 639) (by decide +kernel) rfl, in_all (i := 69) (by decide +kernel) rfl, in_all (i := 640) (by decide +kernel) rfl⟩
theorem A_min {idx : Nat} {x y x1 y1 : Int} (ml : MMIN own idx) (ex : i32 x = x1) (ey : i32 y = y1) (hroom : (rest.map fun v => v.category).sum ≤ 8) (hd : 1 ≤ dd) (hm : k ≤ rc ∧ n ≤ rs) (d : decode cc pc = .ok (.invokestatic idx, 3)) (g : AW l G f (own, cc, nL, rt) (dd, rc, rs) Q xs k n (pc + 3) lv (.int (I32 (min x1 y1)) :: rest) σ) : AW l G f (own, cc, nL, rt) (dd, rc, rs) Q xs k n pc lv (.int (I32 y) :: .int (I32 x) :: rest) σ := fun ok H locs ls hl hP hD hS => by
  obtain ⟨m1, m2, m3, m4⟩ := ml
  subst ex; subst ey
  have hg := g ok H locs ls hl hP hD hS
  have o := ok.2.2.2.2.2.2.2.2.2.2
  refine va_mmin ok.1 ok.2.1 (ok.2.2.1.trans hl.1.symm) ok.2.2.2.1 (ok.2.2.2.2.1 _ m1) (ok.2.2.2.2.1 _ m2) (ok.2.2.2.2.1 _ m3) (ok.2.2.2.2.1 _ m4) (Nat.le_trans hd o.1) (by have := o.2.1; omega) (Nat.le_trans hm.1 o.2.2.1) (Nat.le_trans hm.2 o.2.2.2) d ?_
  have hlt : I32 y < I32 x ↔ i32 y < i32 x := Int32.lt_iff_toInt_lt
  by_cases h : i32 x ≤ i32 y
  · rw [Int.min_eq_left h, I32_i32] at hg
    rw [if_neg (fun q => by have := hlt.mp q; omega)]; exact hg
  · rw [Int.min_eq_right (by omega), I32_i32] at hg
    rw [if_pos (hlt.mpr (by omega))]; exact hg
end JMM
def fG {α : Type} (c : Int → α → Bool) (g : Int → α → α) : Nat → Int → α → α
  | 0, _, a => a
  | n + 1, i, a => if c i a = true then fG c g n (i + 1) (g i a) else a
theorem fG_s {α : Type} (c : Int → α → Bool) (g : Int → α → α) (n : Nat) (i : Int) (a : α) : fG c g (n + 1) i a = if c i a = true then fG c g n (i + 1) (g i a) else a := rfl
def hasDy (σ : Sg) (d : Int) : Bool := decide (0 ≤ i32 d ∧ i32 d < i32 (σ 55 6) ∧ i32 d < 14)
def hasPl (σ : Sg) (d c : Int) : Bool := decide (hasDy σ d = true ∧ hasCh σ c = true)
theorem hasDy_t {σ : Sg} {d : Int} (h : hasDy σ d = true) : 0 ≤ i32 d ∧ i32 d < i32 (σ 55 6) ∧ i32 d < 14 := of_decide_eq_true h
theorem hasPl_t {σ : Sg} {d c : Int} (h : hasPl σ d c = true) : (0 ≤ i32 d ∧ i32 d < i32 (σ 55 6) ∧ i32 d < 14) ∧ (0 ≤ i32 c ∧ i32 c < i32 (σ 9 16) ∧ i32 c < 8) := ⟨hasDy_t (of_decide_eq_true h).1, hasCh_t (of_decide_eq_true h).2⟩
def dOn (σ : Sg) (d c : Int) : Int := if hasPl σ d c = true then σ (61 + (i32 d).toNat) (i32 c).toNat else -1
def mnC (σ : Sg) (r x : Int) : Int := if hasC σ 12 x = true then iand (ishr (σ 22 r.toNat) x) 1 else 0
def taC (σ : Sg) (d x m : Int) : Sg := if hasC σ 12 x = true then up (up σ 59 (i32 x).toNat (σ 59 (i32 x).toNat + m)) 58 (i32 d).toNat (σ 58 (i32 d).toNat + m * σ 27 (i32 x).toNat) else up σ 55 7 (σ 55 7 + m)
def spH (lo hi span d s m : Int) : Int × Int := if i32 (span - 1) ≤ d ∧ (i32 m < i32 lo ∨ i32 hi < i32 m) then (s + 1, m) else (s, m)
def spG (σ : Sg) (r lo hi span d : Int) (a : Int × Int) : Int × Int := if span ≤ d ∧ 0 ≤ span then spH lo hi span d a.1 (a.2 + σ (75 + r.toNat) d.toNat - σ (75 + r.toNat) (d - span).toNat) else spH lo hi span d a.1 (a.2 + σ (75 + r.toNat) d.toNat)
def spC (σ : Sg) (r lo hi span : Int) : Int := (fW (min (i32 (σ 55 6)) 14) (spG σ r lo hi span) 14 0 ((0, 0) : Int × Int)).1
theorem min_inr (a b : Int) : inr (min (i32 a) (i32 b)) := by
  obtain ⟨h1, h2⟩ := i32_inr a
  obtain ⟨h3, h4⟩ := i32_inr b
  exact ⟨by omega, by omega⟩
def doG (σ : Sg) (lo hi d s : Int) : Int := if i32 (σ 58 d.toNat) < i32 lo ∨ i32 hi < i32 (σ 58 d.toNat) then s + 1 else s
def doC (σ : Sg) (lo hi : Int) : Int := fW (min (i32 (σ 55 6)) 14) (doG σ lo hi) 14 0 0
def cpN (σ : Sg) (r dist d near : Int) : Int := if dist ≤ d ∧ 0 ≤ dist then near - σ (75 + r.toNat) (d - dist).toNat else near
def cpG (σ : Sg) (r dist d : Int) (a : Int × Int) : Int × Int := (a.1 + (σ (75 + r.toNat) d.toNat * cpN σ r dist d a.2 + (i32 (σ (75 + r.toNat) d.toNat * (σ (75 + r.toNat) d.toNat - 1))).tdiv 2), cpN σ r dist d a.2 + σ (75 + r.toNat) d.toNat)
def cpC (σ : Sg) (r dist : Int) : Int := (fW (min (i32 (σ 55 6)) 14) (cpG σ r dist) 14 0 ((0, 0) : Int × Int)).1
def rcV (σ : Sg) (r : Int) : Int := if i32 (σ 19 r.toNat) = 0 then cpC σ r (i32 (σ 20 r.toNat)) else if i32 (σ 19 r.toNat) = 1 then spC σ r 0 (i32 (σ 20 r.toNat)) (min (i32 (σ 21 r.toNat)) (i32 (σ 55 6))) else if i32 (σ 19 r.toNat) = 2 then spC σ r (i32 (σ 20 r.toNat)) 112 (i32 (σ 21 r.toNat)) else doC σ (i32 (σ 20 r.toNat)) (σ 21 r.toNat)
def rcC (σ : Sg) (r : Int) : Sg := if rHas σ r = true then up σ 60 r.toNat (rcV σ r) else σ
def afC (σ : Sg) : Int := fW (min (i32 (σ 18 4)) 8) (fun r a => a + σ 60 r.toNat) 8 0 (σ 55 7)
def ftG (σ : Sg) (r a : Int) : Int := if i32 (σ 19 r.toNat) = 0 ∨ i32 (σ 19 r.toNat) = 1 then a + σ 60 r.toNat else a
def ftC (σ : Sg) : Int := fW (min (i32 (σ 18 4)) 8) (ftG σ) 8 0 0
def prG (σ : Sg) (d c a : Int) : Int := if hasC σ 12 (dOn σ d c) = true then a + σ 28 (i32 (dOn σ d c)).toNat else a
def prC (σ : Sg) (d : Int) : Int := fW (i32 (σ 9 16)) (prG σ d) (i32 (σ 9 16)).toNat 0 0
def ptA (d x b r : Int) (a : Sg) : Sg := up a (75 + r.toNat) (i32 d).toNat (a (75 + r.toNat) (i32 d).toNat + (mnC a r x - mnC a r b))
def ptG (d x b r : Int) (a : Sg) : Sg := if ¬ i32 (mnC a r x - mnC a r b) = 0 ∨ i32 (a 19 r.toNat) = 3 then rcC (ptA d x b r a) r else ptA d x b r a
def pt1 (σ : Sg) (d c x : Int) : Sg := taC (taC (up σ (61 + (i32 d).toNat) (i32 c).toNat x) d (σ (61 + (i32 d).toNat) (i32 c).toNat) (-1)) d x 1
def ptC (σ : Sg) (d c x : Int) : Sg := if hasPl σ d c = true then fG (fun i a => decide (i < i32 (a 18 4) ∧ i < 8)) (ptG d x (σ (61 + (i32 d).toNat) (i32 c).toNat)) 8 0 (pt1 σ d c x) else σ
set_option maxRecDepth 100000 in
set_option maxHeartbeats 4000000 in
theorem c_X3_hasDay (σ : Sg) (d : Int)  : Ct l G yX3_hasDay cX3_hasDay 2 (some .boolean) 0 0 0 [.ref (lay G 55), .int (I32 d)] σ (some (.int (I32 (b2i (hasDy σ d))))) (σ) := by
  refine Ct.of (by decide +kernel) (Nat.le_of_ble_eq_true rfl) (fun f => ?_)
  show AW _ _ _ _ _ _ _ _ _ _ [(0, _), (1, _)] _ _
  refine A_iload_n dX3_hasDay_0 rfl 1 rfl ?_
  refine J_if_lt (tgt := 22) dX3_hasDay_1 (by decide) (by first | exact i32_eq (by assumption) | exact i32_eq ⟨by omega, by omega⟩ | with_reducible exact i32_i32 _ | with_reducible exact i32_eq (b2i_inr _) | rfl) (fun h1 => ?_) (fun h1 => ?_)
  · refine A_iconst dX3_hasDay_22 ?_
    exact A_zret2 dX3_hasDay_23 (by decide) (by simp only [hasDy]; first | (rw [decide_eq_true (by omega), b2i_t]; done) | (rw [decide_eq_false (by omega), b2i_f]; done)) (by rfl)
  · refine A_iload_n dX3_hasDay_4 rfl 1 rfl ?_
    refine A_aload_n dX3_hasDay_5 rfl 0 rfl ?_
    refine A_geti fl_X3_33 lk_55 rfl dX3_hasDay_6 ?_
    refine J_icmp_ge (tgt := 22) dX3_hasDay_9 (by decide) (by first | exact i32_eq (by assumption) | exact i32_eq ⟨by omega, by omega⟩ | with_reducible exact i32_i32 _ | with_reducible exact i32_eq (b2i_inr _) | rfl) (by first | exact i32_eq (by assumption) | exact i32_eq ⟨by omega, by omega⟩ | with_reducible exact i32_i32 _ | with_reducible exact i32_eq (b2i_inr _) | rfl) (fun h9 => ?_) (fun h9 => ?_)
    · refine A_iconst dX3_hasDay_22 ?_
      exact A_zret2 dX3_hasDay_23 (by decide) (by simp only [hasDy]; first | (rw [decide_eq_true (by omega), b2i_t]; done) | (rw [decide_eq_false (by omega), b2i_f]; done)) (by rfl)
    · refine A_iload_n dX3_hasDay_12 rfl 1 rfl ?_
      refine A_bipush dX3_hasDay_13 (by decide +kernel) ?_
      refine J_icmp_ge (tgt := 22) dX3_hasDay_15 (by decide) (by first | exact i32_eq (by assumption) | exact i32_eq ⟨by omega, by omega⟩ | with_reducible exact i32_i32 _ | with_reducible exact i32_eq (b2i_inr _) | rfl) (by first | exact i32_eq (by assumption) | exact i32_eq ⟨by omega, by omega⟩ | with_reducible exact i32_i32 _ | with_reducible exact i32_eq (b2i_inr _) | rfl) (fun h15 => ?_) (fun h15 => ?_)
      · refine A_iconst dX3_hasDay_22 ?_
        exact A_zret2 dX3_hasDay_23 (by decide) (by simp only [hasDy]; first | (rw [decide_eq_true (by omega), b2i_t]; done) | (rw [decide_eq_false (by omega), b2i_f]; done)) (by rfl)
      · refine A_iconst dX3_hasDay_18 ?_
        refine A_goto (tgt := 23) dX3_hasDay_19 (by decide) ?_
        exact A_zret2 dX3_hasDay_23 (by decide) (by simp only [hasDy]; first | (rw [decide_eq_true (by omega), b2i_t]; done) | (rw [decide_eq_false (by omega), b2i_f]; done)) (by rfl)
set_option maxRecDepth 100000 in
set_option maxHeartbeats 4000000 in
theorem c_X3_hasPlace (σ : Sg) (d c : Int)  : Ct l G yX3_hasPlace cX3_hasPlace 3 (some .boolean) 1 0 0 [.ref (lay G 55), .int (I32 d), .int (I32 c)] σ (some (.int (I32 (b2i (hasPl σ d c))))) (σ) := by
  refine Ct.of (by decide +kernel) (Nat.le_of_ble_eq_true rfl) (fun f => ?_)
  show AW _ _ _ _ _ _ _ _ _ _ [(0, _), (1, _), (2, _)] _ _
  refine A_aload_n dX3_hasPlace_0 rfl 0 rfl ?_
  refine A_iload_n dX3_hasPlace_1 rfl 1 rfl ?_
  refine A_Va1 mv_X3_49 lk_55 rfl rfl (c_X3_hasDay _ _) (Nat.le_of_ble_eq_true rfl) (by omega) (by omega) dX3_hasPlace_2 ?_
  refine A_ifeq_b (tgt := 23) dX3_hasPlace_5 (by decide) (fun h5 => ?_) (fun h5 => ?_)
  · refine A_iconst dX3_hasPlace_23 ?_
    exact A_zret2 dX3_hasPlace_24 (by decide) (by simp only [hasPl]; first | (rw [decide_eq_true (by simp_all), b2i_t]; done) | (rw [decide_eq_false (by simp_all), b2i_f]; done)) (by rfl)
  · refine A_aload_n dX3_hasPlace_8 rfl 0 rfl ?_
    refine A_getr fl_X3_29 lk_55 rfl dX3_hasPlace_9 ?_
    refine A_iload_n dX3_hasPlace_12 rfl 2 rfl ?_
    refine A_Va1 mv_X3_53 lk_9 rfl rfl (c_X6_hasChoice _ _) (Nat.le_of_ble_eq_true rfl) (by omega) (by omega) dX3_hasPlace_13 ?_
    refine A_ifeq_b (tgt := 23) dX3_hasPlace_16 (by decide) (fun h16 => ?_) (fun h16 => ?_)
    · refine A_iconst dX3_hasPlace_23 ?_
      exact A_zret2 dX3_hasPlace_24 (by decide) (by simp only [hasPl]; first | (rw [decide_eq_true (by simp_all), b2i_t]; done) | (rw [decide_eq_false (by simp_all), b2i_f]; done)) (by rfl)
    · refine A_iconst dX3_hasPlace_19 ?_
      refine A_goto (tgt := 24) dX3_hasPlace_20 (by decide) ?_
      exact A_zret2 dX3_hasPlace_24 (by decide) (by simp only [hasPl]; first | (rw [decide_eq_true (by simp_all), b2i_t]; done) | (rw [decide_eq_false (by simp_all), b2i_f]; done)) (by rfl)
set_option maxRecDepth 100000 in
set_option maxHeartbeats 4000000 in
theorem c_X3_dishOn (σ : Sg) (d c : Int)  : Ct l G yX3_dishOn cX3_dishOn 3 (some .int) 2 0 0 [.ref (lay G 55), .int (I32 d), .int (I32 c)] σ (some (.int (I32 (dOn σ d c)))) (σ) := by
  refine Ct.of (by decide +kernel) (Nat.le_of_ble_eq_true rfl) (fun f => ?_)
  show AW _ _ _ _ _ _ _ _ _ _ [(0, _), (1, _), (2, _)] _ _
  refine A_aload_n dX3_dishOn_0 rfl 0 rfl ?_
  refine A_iload_n dX3_dishOn_1 rfl 1 rfl ?_
  refine A_iload_n dX3_dishOn_2 rfl 2 rfl ?_
  refine A_Va2 mv_X3_56 lk_55 rfl rfl (c_X3_hasPlace _ _ _) (Nat.le_of_ble_eq_true rfl) (by omega) (by omega) dX3_dishOn_3 ?_
  refine A_ifeq_b (tgt := 20) dX3_dishOn_6 (by decide) (fun h6 => ?_) (fun h6 => ?_)
  · refine A_iconst dX3_dishOn_20 ?_
    exact A_iret dX3_dishOn_21 (by simp only [dOn]; (repeat' split) <;> first | rfl | contradiction | simp_all) (by rfl)
  · have hh := hasPl_t h6
    refine A_aload_n dX3_dishOn_9 rfl 0 rfl ?_
    refine A_getr fl_X3_11 lk_55 rfl dX3_dishOn_10 ?_
    refine A_iload_n dX3_dishOn_13 rfl 1 rfl ?_
    refine J_aald lk_56 (by first | exact i32_eq (by assumption) | exact i32_eq ⟨by omega, by omega⟩ | with_reducible exact i32_i32 _ | with_reducible exact i32_eq (b2i_inr _) | rfl) (by omega) (by omega) (by decide) dX3_dishOn_14 ?_
    refine A_iload_n dX3_dishOn_15 rfl 2 rfl ?_
    refine J_iald (lk_row61 (by omega)) (by first | exact i32_eq (by assumption) | exact i32_eq ⟨by omega, by omega⟩ | with_reducible exact i32_i32 _ | with_reducible exact i32_eq (b2i_inr _) | rfl) (by omega) (by omega) (by decide) dX3_dishOn_16 ?_
    try simp (disch := omega) only [up_k, up_j, up_s]
    refine A_goto (tgt := 21) dX3_dishOn_17 (by decide) ?_
    exact A_iret dX3_dishOn_21 (by simp only [dOn]; (repeat' split) <;> first | rfl | contradiction | simp_all) (by rfl)
set_option maxRecDepth 100000 in
set_option maxHeartbeats 4000000 in
theorem c_X3_meaning (σ : Sg) (r x : Int) (hr : 0 ≤ r ∧ r < 8) : Ct l G yX3_meaning cX3_meaning 3 (some .int) 1 0 0 [.ref (lay G 55), .int (I32 r), .int (I32 x)] σ (some (.int (I32 (mnC σ r x)))) (σ) := by
  refine Ct.of (by decide +kernel) (Nat.le_of_ble_eq_true rfl) (fun f => ?_)
  show AW _ _ _ _ _ _ _ _ _ _ [(0, _), (1, _), (2, _)] _ _
  refine A_aload_n dX3_meaning_0 rfl 0 rfl ?_
  refine A_getr fl_X3_29 lk_55 rfl dX3_meaning_1 ?_
  refine A_getr fl_X3_83 lk_9 rfl dX3_meaning_4 ?_
  refine A_iload_n dX3_meaning_7 rfl 2 rfl ?_
  refine A_Va1 mv_X3_87 lk_12 rfl rfl (c_X4_has_12 _ _) (Nat.le_of_ble_eq_true rfl) (by omega) (by omega) dX3_meaning_8 ?_
  refine A_ifeq_b (tgt := 33) dX3_meaning_11 (by decide) (fun h11 => ?_) (fun h11 => ?_)
  · refine A_iconst dX3_meaning_33 ?_
    exact A_iret dX3_meaning_34 (by simp only [mnC]; (repeat' split) <;> first | rfl | contradiction | simp_all) (by rfl)
  · refine A_aload_n dX3_meaning_14 rfl 0 rfl ?_
    refine A_getr fl_X3_29 lk_55 rfl dX3_meaning_15 ?_
    refine A_getr fl_X3_64 lk_9 rfl dX3_meaning_18 ?_
    refine A_getr fl_X3_104 lk_18 rfl dX3_meaning_21 ?_
    refine A_iload_n dX3_meaning_24 rfl 1 rfl ?_
    refine J_iald lk_22 (by first | exact i32_eq (by assumption) | exact i32_eq ⟨by omega, by omega⟩ | with_reducible exact i32_i32 _ | with_reducible exact i32_eq (b2i_inr _) | rfl) (by omega) (by omega) (by decide) dX3_meaning_25 ?_
    try simp (disch := omega) only [up_k, up_j, up_s]
    refine A_iload_n dX3_meaning_26 rfl 2 rfl ?_
    refine A_ishr dX3_meaning_27 ?_
    refine A_iconst dX3_meaning_28 ?_
    refine A_iand dX3_meaning_29 ?_
    refine A_goto (tgt := 34) dX3_meaning_30 (by decide) ?_
    exact A_iret dX3_meaning_34 (by simp only [mnC]; (repeat' split) <;> first | rfl | contradiction | simp_all) (by rfl)
set_option maxRecDepth 100000 in
set_option maxHeartbeats 4000000 in
theorem c_X3_tally (σ : Sg) (d x m : Int) (hd : 0 ≤ i32 d ∧ i32 d < 14) : Ct l G yX3_tally cX3_tally 4 none 1 0 0 [.ref (lay G 55), .int (I32 d), .int (I32 x), .int (I32 m)] σ (none) (taC σ d x m) := by
  refine Ct.of (by decide +kernel) (Nat.le_of_ble_eq_true rfl) (fun f => ?_)
  show AW _ _ _ _ _ _ _ _ _ _ [(0, _), (1, _), (2, _), (3, _)] _ _
  refine A_aload_n dX3_tally_0 rfl 0 rfl ?_
  refine A_getr fl_X3_29 lk_55 rfl dX3_tally_1 ?_
  refine A_getr fl_X3_83 lk_9 rfl dX3_tally_4 ?_
  refine A_iload_n dX3_tally_7 rfl 2 rfl ?_
  refine A_Va1 mv_X3_87 lk_12 rfl rfl (c_X4_has_12 _ _) (Nat.le_of_ble_eq_true rfl) (by omega) (by omega) dX3_tally_8 ?_
  refine A_ifeq_b (tgt := 47) dX3_tally_11 (by decide) (fun h11 => ?_) (fun h11 => ?_)
  · refine A_aload_n dX3_tally_47 rfl 0 rfl ?_
    refine A_dup dX3_tally_48 rfl ?_
    refine A_geti fl_X3_42 lk_55 rfl dX3_tally_49 ?_
    try simp (disch := omega) only [up_k, up_j, up_s]
    refine A_iload_n dX3_tally_52 rfl 3 rfl ?_
    refine A_iadd dX3_tally_53 ?_
    refine A_puti fl_X3_42 lk_55 rfl dX3_tally_54 ?_
    exact A_vret dX3_tally_57 (by rfl) (by simp only [taC]; (repeat' split) <;> first | rfl | contradiction | simp_all)
  · have hh := hasC_t h11
    refine A_aload_n dX3_tally_14 rfl 0 rfl ?_
    refine A_getr fl_X3_23 lk_55 rfl dX3_tally_15 ?_
    refine A_iload_n dX3_tally_18 rfl 2 rfl ?_
    refine A_dup2 dX3_tally_19 rfl rfl ?_
    refine J_iald lk_59 (by first | exact i32_eq (by assumption) | exact i32_eq ⟨by omega, by omega⟩ | with_reducible exact i32_i32 _ | with_reducible exact i32_eq (b2i_inr _) | rfl) (by omega) (by omega) (by decide) dX3_tally_20 ?_
    try simp (disch := omega) only [up_k, up_j, up_s]
    refine A_iload_n dX3_tally_21 rfl 3 rfl ?_
    refine A_iadd dX3_tally_22 ?_
    refine J_iast lk_59 (by first | exact i32_eq (by assumption) | exact i32_eq ⟨by omega, by omega⟩ | with_reducible exact i32_i32 _ | with_reducible exact i32_eq (b2i_inr _) | rfl) (by omega) (by omega) (by decide) dX3_tally_23 ?_
    refine A_aload_n dX3_tally_24 rfl 0 rfl ?_
    refine A_getr fl_X3_19 lk_55 rfl dX3_tally_25 ?_
    refine A_iload_n dX3_tally_28 rfl 1 rfl ?_
    refine A_dup2 dX3_tally_29 rfl rfl ?_
    refine J_iald lk_58 (by first | exact i32_eq (by assumption) | exact i32_eq ⟨by omega, by omega⟩ | with_reducible exact i32_i32 _ | with_reducible exact i32_eq (b2i_inr _) | rfl) (by omega) (by omega) (by decide) dX3_tally_30 ?_
    try simp (disch := omega) only [up_k, up_j, up_s]
    refine A_iload_n dX3_tally_31 rfl 3 rfl ?_
    refine A_aload_n dX3_tally_32 rfl 0 rfl ?_
    refine A_getr fl_X3_29 lk_55 rfl dX3_tally_33 ?_
    refine A_getr fl_X3_101 lk_9 rfl dX3_tally_36 ?_
    refine A_iload_n dX3_tally_39 rfl 2 rfl ?_
    refine J_iald lk_27 (by first | exact i32_eq (by assumption) | exact i32_eq ⟨by omega, by omega⟩ | with_reducible exact i32_i32 _ | with_reducible exact i32_eq (b2i_inr _) | rfl) (by omega) (by omega) (by decide) dX3_tally_40 ?_
    try simp (disch := omega) only [up_k, up_j, up_s]
    refine A_imul dX3_tally_41 ?_
    refine A_iadd dX3_tally_42 ?_
    refine J_iast lk_58 (by first | exact i32_eq (by assumption) | exact i32_eq ⟨by omega, by omega⟩ | with_reducible exact i32_i32 _ | with_reducible exact i32_eq (b2i_inr _) | rfl) (by omega) (by omega) (by decide) dX3_tally_43 ?_
    refine A_goto (tgt := 57) dX3_tally_44 (by decide) ?_
    exact A_vret dX3_tally_57 (by rfl) (by simp only [taC]; (repeat' split) <;> first | rfl | contradiction | simp_all)
set_option maxRecDepth 100000 in
set_option maxHeartbeats 4000000 in
theorem w_X3_spansOutside {f : Fm} {Q : State → Prop} {xs : va_W} {kk nn rc rs : Nat} (σ : Sg) (r lo hi span : Int) (hr : 0 ≤ r ∧ r < 8) (hsp : inr span) (hm : kk ≤ rc ∧ nn ≤ rs) : ∀ (n : Nat) (i : Int) (s1 s2 : Int), 0 ≤ i → inr i → i + n = 14 → AW l G f (RX3, cX3_spansOutside, 8, (some .int)) (0, rc, rs) Q xs kk nn 98 [(5, .int (I32 (fW (min (i32 (σ 55 6)) 14) (spG σ r lo hi span) n i (s1, s2)).1)), (6, .int (I32 (fW (min (i32 (σ 55 6)) 14) (spG σ r lo hi span) n i (s1, s2)).2)), (0, .ref (lay G 55)), (1, .int (I32 r)), (2, .int (I32 lo)), (3, .int (I32 hi)), (4, .int (I32 span))] [] (σ) → AW l G f (RX3, cX3_spansOutside, 8, (some .int)) (0, rc, rs) Q xs kk nn 9 [(7, .int (I32 i)), (5, .int (I32 s1)), (6, .int (I32 s2)), (0, .ref (lay G 55)), (1, .int (I32 r)), (2, .int (I32 lo)), (3, .int (I32 hi)), (4, .int (I32 span))] [] (σ) := by
  intro n
  induction n using Nat.strongRecOn with | _ n ih =>
  intro i s1 s2 h0 hii hn  hK
  obtain ⟨hi1, hi2⟩ := hii
  refine A_iload dX3_spansOutside_9 0 rfl ?_
  refine A_aload_n dX3_spansOutside_11 rfl 3 rfl ?_
  refine A_geti fl_X3_33 lk_55 rfl dX3_spansOutside_12 ?_
  refine J_icmp_ge (tgt := 98) dX3_spansOutside_15 (by decide) (by first | exact i32_eq (by assumption) | (show i32 (span - 1) = _; rfl) | exact i32_eq ⟨by omega, by omega⟩ | with_reducible exact i32_i32 _ | rfl) (by first | exact i32_eq (by assumption) | (show i32 (span - 1) = _; rfl) | exact i32_eq ⟨by omega, by omega⟩ | with_reducible exact i32_i32 _ | rfl) (fun h15 => ?_) (fun h15 => ?_)
  · refine A_lv [1, 2, 3, 4, 5, 6, 7] rfl ?_
    clear ih
    rcases n with _ | n <;> simp only [fW] at hK <;> (repeat' split at hK) <;> first | contradiction | (exfalso; omega) | exact hK | (simp_all; done)
  · refine A_iload dX3_spansOutside_18 0 rfl ?_
    refine A_bipush dX3_spansOutside_20 (by decide +kernel) ?_
    refine J_icmp_ge (tgt := 98) dX3_spansOutside_22 (by decide) (by first | exact i32_eq (by assumption) | (show i32 (span - 1) = _; rfl) | exact i32_eq ⟨by omega, by omega⟩ | with_reducible exact i32_i32 _ | rfl) (by first | exact i32_eq (by assumption) | (show i32 (span - 1) = _; rfl) | exact i32_eq ⟨by omega, by omega⟩ | with_reducible exact i32_i32 _ | rfl) (fun h22 => ?_) (fun h22 => ?_)
    · refine A_lv [1, 2, 3, 4, 5, 6, 7] rfl ?_
      clear ih
      rcases n with _ | n <;> simp only [fW] at hK <;> (repeat' split at hK) <;> first | contradiction | (exfalso; omega) | exact hK | (simp_all; done)
    · refine A_iload dX3_spansOutside_25 2 rfl ?_
      refine A_aload_n dX3_spansOutside_27 rfl 3 rfl ?_
      refine A_getr fl_X3_16 lk_55 rfl dX3_spansOutside_28 ?_
      refine A_iload_n dX3_spansOutside_31 rfl 4 rfl ?_
      refine J_aald lk_57 (by first | exact i32_eq (by assumption) | (show i32 (span - 1) = _; rfl) | exact i32_eq ⟨by omega, by omega⟩ | with_reducible exact i32_i32 _ | rfl) (by omega) (by omega) (by decide) dX3_spansOutside_32 ?_
      refine A_iload dX3_spansOutside_33 0 rfl ?_
      refine J_iald (lk_row75 (by omega)) (by first | exact i32_eq (by assumption) | (show i32 (span - 1) = _; rfl) | exact i32_eq ⟨by omega, by omega⟩ | with_reducible exact i32_i32 _ | rfl) (by omega) (by omega) (by decide) dX3_spansOutside_35 ?_
      refine A_iadd dX3_spansOutside_36 ?_
      refine A_istore (lv2 := [(6, _), (7, _), (5, _), (0, _), (1, _), (2, _), (3, _), (4, _)]) dX3_spansOutside_37 (by decide) rfl ?_
      refine A_iload dX3_spansOutside_39 1 rfl ?_
      refine A_iload dX3_spansOutside_41 7 rfl ?_
      refine J_icmp_lt (tgt := 68) dX3_spansOutside_43 (by decide) (by first | exact i32_eq (by assumption) | (show i32 (span - 1) = _; rfl) | exact i32_eq ⟨by omega, by omega⟩ | with_reducible exact i32_i32 _ | rfl) (by first | exact i32_eq (by assumption) | (show i32 (span - 1) = _; rfl) | exact i32_eq ⟨by omega, by omega⟩ | with_reducible exact i32_i32 _ | rfl) (fun h43 => ?_) (fun h43 => ?_)
      · refine A_iload dX3_spansOutside_68 1 rfl ?_
        refine A_iload dX3_spansOutside_70 7 rfl ?_
        refine A_iconst dX3_spansOutside_72 ?_
        refine A_isub dX3_spansOutside_73 ?_
        refine J_icmp_lt (tgt := 92) dX3_spansOutside_74 (by decide) (by first | exact i32_eq (by assumption) | (show i32 (span - 1) = _; rfl) | exact i32_eq ⟨by omega, by omega⟩ | with_reducible exact i32_i32 _ | rfl) (by first | exact i32_eq (by assumption) | (show i32 (span - 1) = _; rfl) | exact i32_eq ⟨by omega, by omega⟩ | with_reducible exact i32_i32 _ | rfl) (fun h74 => ?_) (fun h74 => ?_)
        · refine A_iinc (lv2 := [(7, _), (6, _), (5, _), (0, _), (1, _), (2, _), (3, _), (4, _)]) dX3_spansOutside_92 1 rfl (by decide) rfl ?_
          refine A_goto (tgt := 9) dX3_spansOutside_95 (by decide) ?_
          refine A_lv [0, 2, 1, 3, 4, 5, 6, 7] rfl ?_
          refine ih (n - 1) (by omega) (i + 1) _ _ (by omega) ⟨by omega, by omega⟩ (by omega) ?_
          obtain ⟨n, rfl⟩ : ∃ q, n = q + 1 := ⟨n - 1, by omega⟩
          clear ih
          rw [fW_s] at hK
          simp only [Nat.add_sub_cancel]
          simp only [spG, spH] at hK
          (repeat' split at hK) <;> first | contradiction | (exfalso; omega) | exact hK | (simp_all; done)
        · refine A_iload dX3_spansOutside_77 0 rfl ?_
          refine A_iload_n dX3_spansOutside_79 rfl 5 rfl ?_
          refine J_icmp_lt (tgt := 89) dX3_spansOutside_80 (by decide) (by first | exact i32_eq (by assumption) | (show i32 (span - 1) = _; rfl) | exact i32_eq ⟨by omega, by omega⟩ | with_reducible exact i32_i32 _ | rfl) (by first | exact i32_eq (by assumption) | (show i32 (span - 1) = _; rfl) | exact i32_eq ⟨by omega, by omega⟩ | with_reducible exact i32_i32 _ | rfl) (fun h80 => ?_) (fun h80 => ?_)
          · refine A_iinc (lv2 := [(5, _), (6, _), (7, _), (0, _), (1, _), (2, _), (3, _), (4, _)]) dX3_spansOutside_89 2 rfl (by decide) rfl ?_
            refine A_iinc (lv2 := [(7, _), (5, _), (6, _), (0, _), (1, _), (2, _), (3, _), (4, _)]) dX3_spansOutside_92 2 rfl (by decide) rfl ?_
            refine A_goto (tgt := 9) dX3_spansOutside_95 (by decide) ?_
            refine A_lv [0, 1, 2, 3, 4, 5, 6, 7] rfl ?_
            refine ih (n - 1) (by omega) (i + 1) _ _ (by omega) ⟨by omega, by omega⟩ (by omega) ?_
            obtain ⟨n, rfl⟩ : ∃ q, n = q + 1 := ⟨n - 1, by omega⟩
            clear ih
            rw [fW_s] at hK
            simp only [Nat.add_sub_cancel]
            simp only [spG, spH] at hK
            (repeat' split at hK) <;> first | contradiction | (exfalso; omega) | exact hK | (simp_all; done)
          · refine A_iload dX3_spansOutside_83 0 rfl ?_
            refine A_iload_n dX3_spansOutside_85 rfl 6 rfl ?_
            refine J_icmp_le (tgt := 92) dX3_spansOutside_86 (by decide) (by first | exact i32_eq (by assumption) | (show i32 (span - 1) = _; rfl) | exact i32_eq ⟨by omega, by omega⟩ | with_reducible exact i32_i32 _ | rfl) (by first | exact i32_eq (by assumption) | (show i32 (span - 1) = _; rfl) | exact i32_eq ⟨by omega, by omega⟩ | with_reducible exact i32_i32 _ | rfl) (fun h86 => ?_) (fun h86 => ?_)
            · refine A_iinc (lv2 := [(7, _), (6, _), (5, _), (0, _), (1, _), (2, _), (3, _), (4, _)]) dX3_spansOutside_92 1 rfl (by decide) rfl ?_
              refine A_goto (tgt := 9) dX3_spansOutside_95 (by decide) ?_
              refine A_lv [0, 2, 1, 3, 4, 5, 6, 7] rfl ?_
              refine ih (n - 1) (by omega) (i + 1) _ _ (by omega) ⟨by omega, by omega⟩ (by omega) ?_
              obtain ⟨n, rfl⟩ : ∃ q, n = q + 1 := ⟨n - 1, by omega⟩
              clear ih
              rw [fW_s] at hK
              simp only [Nat.add_sub_cancel]
              simp only [spG, spH] at hK
              (repeat' split at hK) <;> first | contradiction | (exfalso; omega) | exact hK | (simp_all; done)
            · refine A_iinc (lv2 := [(5, _), (6, _), (7, _), (0, _), (1, _), (2, _), (3, _), (4, _)]) dX3_spansOutside_89 2 rfl (by decide) rfl ?_
              refine A_iinc (lv2 := [(7, _), (5, _), (6, _), (0, _), (1, _), (2, _), (3, _), (4, _)]) dX3_spansOutside_92 2 rfl (by decide) rfl ?_
              refine A_goto (tgt := 9) dX3_spansOutside_95 (by decide) ?_
              refine A_lv [0, 1, 2, 3, 4, 5, 6, 7] rfl ?_
              refine ih (n - 1) (by omega) (i + 1) _ _ (by omega) ⟨by omega, by omega⟩ (by omega) ?_
              obtain ⟨n, rfl⟩ : ∃ q, n = q + 1 := ⟨n - 1, by omega⟩
              clear ih
              rw [fW_s] at hK
              simp only [Nat.add_sub_cancel]
              simp only [spG, spH] at hK
              (repeat' split at hK) <;> first | contradiction | (exfalso; omega) | exact hK | (simp_all; done)
      · refine A_iload dX3_spansOutside_46 7 rfl ?_
        refine J_if_lt (tgt := 68) dX3_spansOutside_48 (by decide) (by first | exact i32_eq (by assumption) | (show i32 (span - 1) = _; rfl) | exact i32_eq ⟨by omega, by omega⟩ | with_reducible exact i32_i32 _ | rfl) (fun h48 => ?_) (fun h48 => ?_)
        · refine A_iload dX3_spansOutside_68 1 rfl ?_
          refine A_iload dX3_spansOutside_70 7 rfl ?_
          refine A_iconst dX3_spansOutside_72 ?_
          refine A_isub dX3_spansOutside_73 ?_
          refine J_icmp_lt (tgt := 92) dX3_spansOutside_74 (by decide) (by first | exact i32_eq (by assumption) | (show i32 (span - 1) = _; rfl) | exact i32_eq ⟨by omega, by omega⟩ | with_reducible exact i32_i32 _ | rfl) (by first | exact i32_eq (by assumption) | (show i32 (span - 1) = _; rfl) | exact i32_eq ⟨by omega, by omega⟩ | with_reducible exact i32_i32 _ | rfl) (fun h74 => ?_) (fun h74 => ?_)
          · refine A_iinc (lv2 := [(7, _), (6, _), (5, _), (0, _), (1, _), (2, _), (3, _), (4, _)]) dX3_spansOutside_92 1 rfl (by decide) rfl ?_
            refine A_goto (tgt := 9) dX3_spansOutside_95 (by decide) ?_
            refine A_lv [0, 2, 1, 3, 4, 5, 6, 7] rfl ?_
            refine ih (n - 1) (by omega) (i + 1) _ _ (by omega) ⟨by omega, by omega⟩ (by omega) ?_
            obtain ⟨n, rfl⟩ : ∃ q, n = q + 1 := ⟨n - 1, by omega⟩
            clear ih
            rw [fW_s] at hK
            simp only [Nat.add_sub_cancel]
            simp only [spG, spH] at hK
            (repeat' split at hK) <;> first | contradiction | (exfalso; omega) | exact hK | (simp_all; done)
          · refine A_iload dX3_spansOutside_77 0 rfl ?_
            refine A_iload_n dX3_spansOutside_79 rfl 5 rfl ?_
            refine J_icmp_lt (tgt := 89) dX3_spansOutside_80 (by decide) (by first | exact i32_eq (by assumption) | (show i32 (span - 1) = _; rfl) | exact i32_eq ⟨by omega, by omega⟩ | with_reducible exact i32_i32 _ | rfl) (by first | exact i32_eq (by assumption) | (show i32 (span - 1) = _; rfl) | exact i32_eq ⟨by omega, by omega⟩ | with_reducible exact i32_i32 _ | rfl) (fun h80 => ?_) (fun h80 => ?_)
            · refine A_iinc (lv2 := [(5, _), (6, _), (7, _), (0, _), (1, _), (2, _), (3, _), (4, _)]) dX3_spansOutside_89 2 rfl (by decide) rfl ?_
              refine A_iinc (lv2 := [(7, _), (5, _), (6, _), (0, _), (1, _), (2, _), (3, _), (4, _)]) dX3_spansOutside_92 2 rfl (by decide) rfl ?_
              refine A_goto (tgt := 9) dX3_spansOutside_95 (by decide) ?_
              refine A_lv [0, 1, 2, 3, 4, 5, 6, 7] rfl ?_
              refine ih (n - 1) (by omega) (i + 1) _ _ (by omega) ⟨by omega, by omega⟩ (by omega) ?_
              obtain ⟨n, rfl⟩ : ∃ q, n = q + 1 := ⟨n - 1, by omega⟩
              clear ih
              rw [fW_s] at hK
              simp only [Nat.add_sub_cancel]
              simp only [spG, spH] at hK
              (repeat' split at hK) <;> first | contradiction | (exfalso; omega) | exact hK | (simp_all; done)
            · refine A_iload dX3_spansOutside_83 0 rfl ?_
              refine A_iload_n dX3_spansOutside_85 rfl 6 rfl ?_
              refine J_icmp_le (tgt := 92) dX3_spansOutside_86 (by decide) (by first | exact i32_eq (by assumption) | (show i32 (span - 1) = _; rfl) | exact i32_eq ⟨by omega, by omega⟩ | with_reducible exact i32_i32 _ | rfl) (by first | exact i32_eq (by assumption) | (show i32 (span - 1) = _; rfl) | exact i32_eq ⟨by omega, by omega⟩ | with_reducible exact i32_i32 _ | rfl) (fun h86 => ?_) (fun h86 => ?_)
              · refine A_iinc (lv2 := [(7, _), (6, _), (5, _), (0, _), (1, _), (2, _), (3, _), (4, _)]) dX3_spansOutside_92 1 rfl (by decide) rfl ?_
                refine A_goto (tgt := 9) dX3_spansOutside_95 (by decide) ?_
                refine A_lv [0, 2, 1, 3, 4, 5, 6, 7] rfl ?_
                refine ih (n - 1) (by omega) (i + 1) _ _ (by omega) ⟨by omega, by omega⟩ (by omega) ?_
                obtain ⟨n, rfl⟩ : ∃ q, n = q + 1 := ⟨n - 1, by omega⟩
                clear ih
                rw [fW_s] at hK
                simp only [Nat.add_sub_cancel]
                simp only [spG, spH] at hK
                (repeat' split at hK) <;> first | contradiction | (exfalso; omega) | exact hK | (simp_all; done)
              · refine A_iinc (lv2 := [(5, _), (6, _), (7, _), (0, _), (1, _), (2, _), (3, _), (4, _)]) dX3_spansOutside_89 2 rfl (by decide) rfl ?_
                refine A_iinc (lv2 := [(7, _), (5, _), (6, _), (0, _), (1, _), (2, _), (3, _), (4, _)]) dX3_spansOutside_92 2 rfl (by decide) rfl ?_
                refine A_goto (tgt := 9) dX3_spansOutside_95 (by decide) ?_
                refine A_lv [0, 1, 2, 3, 4, 5, 6, 7] rfl ?_
                refine ih (n - 1) (by omega) (i + 1) _ _ (by omega) ⟨by omega, by omega⟩ (by omega) ?_
                obtain ⟨n, rfl⟩ : ∃ q, n = q + 1 := ⟨n - 1, by omega⟩
                clear ih
                rw [fW_s] at hK
                simp only [Nat.add_sub_cancel]
                simp only [spG, spH] at hK
                (repeat' split at hK) <;> first | contradiction | (exfalso; omega) | exact hK | (simp_all; done)
        · refine A_iload dX3_spansOutside_51 0 rfl ?_
          refine A_aload_n dX3_spansOutside_53 rfl 3 rfl ?_
          refine A_getr fl_X3_16 lk_55 rfl dX3_spansOutside_54 ?_
          refine A_iload_n dX3_spansOutside_57 rfl 4 rfl ?_
          refine J_aald lk_57 (by first | exact i32_eq (by assumption) | (show i32 (span - 1) = _; rfl) | exact i32_eq ⟨by omega, by omega⟩ | with_reducible exact i32_i32 _ | rfl) (by omega) (by omega) (by decide) dX3_spansOutside_58 ?_
          refine A_iload dX3_spansOutside_59 1 rfl ?_
          refine A_iload dX3_spansOutside_61 7 rfl ?_
          refine A_isub dX3_spansOutside_63 ?_
          refine J_iald (lk_row75 (by omega)) (by first | exact i32_eq (by assumption) | (show i32 (span - 1) = _; rfl) | exact i32_eq ⟨by omega, by omega⟩ | with_reducible exact i32_i32 _ | rfl) (by omega) (by omega) (by decide) dX3_spansOutside_64 ?_
          refine A_isub dX3_spansOutside_65 ?_
          refine A_istore (lv2 := [(6, _), (7, _), (5, _), (0, _), (1, _), (2, _), (3, _), (4, _)]) dX3_spansOutside_66 (by decide) rfl ?_
          refine A_iload dX3_spansOutside_68 1 rfl ?_
          refine A_iload dX3_spansOutside_70 7 rfl ?_
          refine A_iconst dX3_spansOutside_72 ?_
          refine A_isub dX3_spansOutside_73 ?_
          refine J_icmp_lt (tgt := 92) dX3_spansOutside_74 (by decide) (by first | exact i32_eq (by assumption) | (show i32 (span - 1) = _; rfl) | exact i32_eq ⟨by omega, by omega⟩ | with_reducible exact i32_i32 _ | rfl) (by first | exact i32_eq (by assumption) | (show i32 (span - 1) = _; rfl) | exact i32_eq ⟨by omega, by omega⟩ | with_reducible exact i32_i32 _ | rfl) (fun h74 => ?_) (fun h74 => ?_)
          · refine A_iinc (lv2 := [(7, _), (6, _), (5, _), (0, _), (1, _), (2, _), (3, _), (4, _)]) dX3_spansOutside_92 1 rfl (by decide) rfl ?_
            refine A_goto (tgt := 9) dX3_spansOutside_95 (by decide) ?_
            refine A_lv [0, 2, 1, 3, 4, 5, 6, 7] rfl ?_
            refine ih (n - 1) (by omega) (i + 1) _ _ (by omega) ⟨by omega, by omega⟩ (by omega) ?_
            obtain ⟨n, rfl⟩ : ∃ q, n = q + 1 := ⟨n - 1, by omega⟩
            clear ih
            rw [fW_s] at hK
            simp only [Nat.add_sub_cancel]
            simp only [spG, spH] at hK
            (repeat' split at hK) <;> first | contradiction | (exfalso; omega) | exact hK | (simp_all; done)
          · refine A_iload dX3_spansOutside_77 0 rfl ?_
            refine A_iload_n dX3_spansOutside_79 rfl 5 rfl ?_
            refine J_icmp_lt (tgt := 89) dX3_spansOutside_80 (by decide) (by first | exact i32_eq (by assumption) | (show i32 (span - 1) = _; rfl) | exact i32_eq ⟨by omega, by omega⟩ | with_reducible exact i32_i32 _ | rfl) (by first | exact i32_eq (by assumption) | (show i32 (span - 1) = _; rfl) | exact i32_eq ⟨by omega, by omega⟩ | with_reducible exact i32_i32 _ | rfl) (fun h80 => ?_) (fun h80 => ?_)
            · refine A_iinc (lv2 := [(5, _), (6, _), (7, _), (0, _), (1, _), (2, _), (3, _), (4, _)]) dX3_spansOutside_89 2 rfl (by decide) rfl ?_
              refine A_iinc (lv2 := [(7, _), (5, _), (6, _), (0, _), (1, _), (2, _), (3, _), (4, _)]) dX3_spansOutside_92 2 rfl (by decide) rfl ?_
              refine A_goto (tgt := 9) dX3_spansOutside_95 (by decide) ?_
              refine A_lv [0, 1, 2, 3, 4, 5, 6, 7] rfl ?_
              refine ih (n - 1) (by omega) (i + 1) _ _ (by omega) ⟨by omega, by omega⟩ (by omega) ?_
              obtain ⟨n, rfl⟩ : ∃ q, n = q + 1 := ⟨n - 1, by omega⟩
              clear ih
              rw [fW_s] at hK
              simp only [Nat.add_sub_cancel]
              simp only [spG, spH] at hK
              (repeat' split at hK) <;> first | contradiction | (exfalso; omega) | exact hK | (simp_all; done)
            · refine A_iload dX3_spansOutside_83 0 rfl ?_
              refine A_iload_n dX3_spansOutside_85 rfl 6 rfl ?_
              refine J_icmp_le (tgt := 92) dX3_spansOutside_86 (by decide) (by first | exact i32_eq (by assumption) | (show i32 (span - 1) = _; rfl) | exact i32_eq ⟨by omega, by omega⟩ | with_reducible exact i32_i32 _ | rfl) (by first | exact i32_eq (by assumption) | (show i32 (span - 1) = _; rfl) | exact i32_eq ⟨by omega, by omega⟩ | with_reducible exact i32_i32 _ | rfl) (fun h86 => ?_) (fun h86 => ?_)
              · refine A_iinc (lv2 := [(7, _), (6, _), (5, _), (0, _), (1, _), (2, _), (3, _), (4, _)]) dX3_spansOutside_92 1 rfl (by decide) rfl ?_
                refine A_goto (tgt := 9) dX3_spansOutside_95 (by decide) ?_
                refine A_lv [0, 2, 1, 3, 4, 5, 6, 7] rfl ?_
                refine ih (n - 1) (by omega) (i + 1) _ _ (by omega) ⟨by omega, by omega⟩ (by omega) ?_
                obtain ⟨n, rfl⟩ : ∃ q, n = q + 1 := ⟨n - 1, by omega⟩
                clear ih
                rw [fW_s] at hK
                simp only [Nat.add_sub_cancel]
                simp only [spG, spH] at hK
                (repeat' split at hK) <;> first | contradiction | (exfalso; omega) | exact hK | (simp_all; done)
              · refine A_iinc (lv2 := [(5, _), (6, _), (7, _), (0, _), (1, _), (2, _), (3, _), (4, _)]) dX3_spansOutside_89 2 rfl (by decide) rfl ?_
                refine A_iinc (lv2 := [(7, _), (5, _), (6, _), (0, _), (1, _), (2, _), (3, _), (4, _)]) dX3_spansOutside_92 2 rfl (by decide) rfl ?_
                refine A_goto (tgt := 9) dX3_spansOutside_95 (by decide) ?_
                refine A_lv [0, 1, 2, 3, 4, 5, 6, 7] rfl ?_
                refine ih (n - 1) (by omega) (i + 1) _ _ (by omega) ⟨by omega, by omega⟩ (by omega) ?_
                obtain ⟨n, rfl⟩ : ∃ q, n = q + 1 := ⟨n - 1, by omega⟩
                clear ih
                rw [fW_s] at hK
                simp only [Nat.add_sub_cancel]
                simp only [spG, spH] at hK
                (repeat' split at hK) <;> first | contradiction | (exfalso; omega) | exact hK | (simp_all; done)
set_option maxRecDepth 100000 in
set_option maxHeartbeats 4000000 in
theorem c_X3_spansOutside (σ : Sg) (r lo hi span : Int) (hr : 0 ≤ r ∧ r < 8) (hsp : inr span) : Ct l G yX3_spansOutside cX3_spansOutside 8 (some .int) 0 0 0 [.ref (lay G 55), .int (I32 r), .int (I32 lo), .int (I32 hi), .int (I32 span)] σ (some (.int (I32 (spC σ r lo hi span)))) (σ) := by
  refine Ct.of (by decide +kernel) (Nat.le_of_ble_eq_true rfl) (fun f => ?_)
  show AW _ _ _ _ _ _ _ _ _ _ [(0, _), (1, _), (2, _), (3, _), (4, _)] _ _
  refine A_iconst dX3_spansOutside_0 ?_
  refine A_istore (lv2 := [(5, _), (0, _), (1, _), (2, _), (3, _), (4, _)]) dX3_spansOutside_1 (by decide) rfl ?_
  refine A_iconst dX3_spansOutside_3 ?_
  refine A_istore (lv2 := [(6, _), (5, _), (0, _), (1, _), (2, _), (3, _), (4, _)]) dX3_spansOutside_4 (by decide) rfl ?_
  refine A_iconst dX3_spansOutside_6 ?_
  refine A_istore (lv2 := [(7, _), (6, _), (5, _), (0, _), (1, _), (2, _), (3, _), (4, _)]) dX3_spansOutside_7 (by decide) rfl ?_
  refine A_lv [0, 2, 1, 3, 4, 5, 6, 7] rfl ?_
  refine w_X3_spansOutside σ r lo hi span hr hsp (by omega) 14 0 0 0 (by omega) ⟨by omega, by omega⟩ (by omega) ?_
  refine A_iload dX3_spansOutside_98 0 rfl ?_
  exact A_iret dX3_spansOutside_100 rfl rfl
set_option maxRecDepth 100000 in
set_option maxHeartbeats 4000000 in
theorem w_X3_daysOutside {f : Fm} {Q : State → Prop} {xs : va_W} {kk nn rc rs : Nat} (σ : Sg) (lo hi : Int) (hm : kk ≤ rc ∧ nn ≤ rs) : ∀ (n : Nat) (i : Int) (s : Int), 0 ≤ i → inr i → i + n = 14 → AW l G f (RX3, cX3_daysOutside, 5, (some .int)) (0, rc, rs) Q xs kk nn 52 [(3, .int (I32 (fW (min (i32 (σ 55 6)) 14) (doG σ lo hi) n i s))), (0, .ref (lay G 55)), (1, .int (I32 lo)), (2, .int (I32 hi))] [] (σ) → AW l G f (RX3, cX3_daysOutside, 5, (some .int)) (0, rc, rs) Q xs kk nn 5 [(4, .int (I32 i)), (3, .int (I32 s)), (0, .ref (lay G 55)), (1, .int (I32 lo)), (2, .int (I32 hi))] [] (σ) := by
  intro n
  induction n using Nat.strongRecOn with | _ n ih =>
  intro i s h0 hii hn  hK
  obtain ⟨hi1, hi2⟩ := hii
  refine A_iload dX3_daysOutside_5 0 rfl ?_
  refine A_aload_n dX3_daysOutside_7 rfl 2 rfl ?_
  refine A_geti fl_X3_33 lk_55 rfl dX3_daysOutside_8 ?_
  refine J_icmp_ge (tgt := 52) dX3_daysOutside_11 (by decide) (by first | exact i32_eq (by assumption) | exact i32_eq ⟨by omega, by omega⟩ | with_reducible exact i32_i32 _ | with_reducible exact i32_eq (b2i_inr _) | rfl) (by first | exact i32_eq (by assumption) | exact i32_eq ⟨by omega, by omega⟩ | with_reducible exact i32_i32 _ | with_reducible exact i32_eq (b2i_inr _) | rfl) (fun h11 => ?_) (fun h11 => ?_)
  · refine A_lv [1, 2, 3, 4] rfl ?_
    clear ih
    rcases n with _ | n <;> simp only [fW] at hK <;> (repeat' split at hK) <;> first | contradiction | (exfalso; omega) | exact hK | (simp_all; done)
  · refine A_iload dX3_daysOutside_14 0 rfl ?_
    refine A_bipush dX3_daysOutside_16 (by decide +kernel) ?_
    refine J_icmp_ge (tgt := 52) dX3_daysOutside_18 (by decide) (by first | exact i32_eq (by assumption) | exact i32_eq ⟨by omega, by omega⟩ | with_reducible exact i32_i32 _ | with_reducible exact i32_eq (b2i_inr _) | rfl) (by first | exact i32_eq (by assumption) | exact i32_eq ⟨by omega, by omega⟩ | with_reducible exact i32_i32 _ | with_reducible exact i32_eq (b2i_inr _) | rfl) (fun h18 => ?_) (fun h18 => ?_)
    · refine A_lv [1, 2, 3, 4] rfl ?_
      clear ih
      rcases n with _ | n <;> simp only [fW] at hK <;> (repeat' split at hK) <;> first | contradiction | (exfalso; omega) | exact hK | (simp_all; done)
    · refine A_aload_n dX3_daysOutside_21 rfl 2 rfl ?_
      refine A_getr fl_X3_19 lk_55 rfl dX3_daysOutside_22 ?_
      refine A_iload dX3_daysOutside_25 0 rfl ?_
      refine J_iald lk_58 (by first | exact i32_eq (by assumption) | exact i32_eq ⟨by omega, by omega⟩ | with_reducible exact i32_i32 _ | with_reducible exact i32_eq (b2i_inr _) | rfl) (by omega) (by omega) (by decide) dX3_daysOutside_27 ?_
      refine A_iload_n dX3_daysOutside_28 rfl 3 rfl ?_
      refine J_icmp_lt (tgt := 43) dX3_daysOutside_29 (by decide) (by first | exact i32_eq (by assumption) | exact i32_eq ⟨by omega, by omega⟩ | with_reducible exact i32_i32 _ | with_reducible exact i32_eq (b2i_inr _) | rfl) (by first | exact i32_eq (by assumption) | exact i32_eq ⟨by omega, by omega⟩ | with_reducible exact i32_i32 _ | with_reducible exact i32_eq (b2i_inr _) | rfl) (fun h29 => ?_) (fun h29 => ?_)
      · refine A_iinc (lv2 := [(3, _), (4, _), (0, _), (1, _), (2, _)]) dX3_daysOutside_43 1 rfl (by decide) rfl ?_
        refine A_iinc (lv2 := [(4, _), (3, _), (0, _), (1, _), (2, _)]) dX3_daysOutside_46 1 rfl (by decide) rfl ?_
        refine A_goto (tgt := 5) dX3_daysOutside_49 (by decide) ?_
        refine A_lv [0, 1, 2, 3, 4] rfl ?_
        refine ih (n - 1) (by omega) (i + 1) _ (by omega) ⟨by omega, by omega⟩ (by omega) ?_
        obtain ⟨n, rfl⟩ : ∃ q, n = q + 1 := ⟨n - 1, by omega⟩
        clear ih
        rw [fW_s] at hK
        simp only [Nat.add_sub_cancel]
        simp only [doG] at hK
        (repeat' split at hK) <;> first | contradiction | (exfalso; omega) | exact hK | (simp_all; done)
      · refine A_aload_n dX3_daysOutside_32 rfl 2 rfl ?_
        refine A_getr fl_X3_19 lk_55 rfl dX3_daysOutside_33 ?_
        refine A_iload dX3_daysOutside_36 0 rfl ?_
        refine J_iald lk_58 (by first | exact i32_eq (by assumption) | exact i32_eq ⟨by omega, by omega⟩ | with_reducible exact i32_i32 _ | with_reducible exact i32_eq (b2i_inr _) | rfl) (by omega) (by omega) (by decide) dX3_daysOutside_38 ?_
        refine A_iload_n dX3_daysOutside_39 rfl 4 rfl ?_
        refine J_icmp_le (tgt := 46) dX3_daysOutside_40 (by decide) (by first | exact i32_eq (by assumption) | exact i32_eq ⟨by omega, by omega⟩ | with_reducible exact i32_i32 _ | with_reducible exact i32_eq (b2i_inr _) | rfl) (by first | exact i32_eq (by assumption) | exact i32_eq ⟨by omega, by omega⟩ | with_reducible exact i32_i32 _ | with_reducible exact i32_eq (b2i_inr _) | rfl) (fun h40 => ?_) (fun h40 => ?_)
        · refine A_iinc (lv2 := [(4, _), (3, _), (0, _), (1, _), (2, _)]) dX3_daysOutside_46 0 rfl (by decide) rfl ?_
          refine A_goto (tgt := 5) dX3_daysOutside_49 (by decide) ?_
          refine A_lv [0, 1, 2, 3, 4] rfl ?_
          refine ih (n - 1) (by omega) (i + 1) _ (by omega) ⟨by omega, by omega⟩ (by omega) ?_
          obtain ⟨n, rfl⟩ : ∃ q, n = q + 1 := ⟨n - 1, by omega⟩
          clear ih
          rw [fW_s] at hK
          simp only [Nat.add_sub_cancel]
          simp only [doG] at hK
          (repeat' split at hK) <;> first | contradiction | (exfalso; omega) | exact hK | (simp_all; done)
        · refine A_iinc (lv2 := [(3, _), (4, _), (0, _), (1, _), (2, _)]) dX3_daysOutside_43 1 rfl (by decide) rfl ?_
          refine A_iinc (lv2 := [(4, _), (3, _), (0, _), (1, _), (2, _)]) dX3_daysOutside_46 1 rfl (by decide) rfl ?_
          refine A_goto (tgt := 5) dX3_daysOutside_49 (by decide) ?_
          refine A_lv [0, 1, 2, 3, 4] rfl ?_
          refine ih (n - 1) (by omega) (i + 1) _ (by omega) ⟨by omega, by omega⟩ (by omega) ?_
          obtain ⟨n, rfl⟩ : ∃ q, n = q + 1 := ⟨n - 1, by omega⟩
          clear ih
          rw [fW_s] at hK
          simp only [Nat.add_sub_cancel]
          simp only [doG] at hK
          (repeat' split at hK) <;> first | contradiction | (exfalso; omega) | exact hK | (simp_all; done)
set_option maxRecDepth 100000 in
set_option maxHeartbeats 4000000 in
theorem c_X3_daysOutside (σ : Sg) (lo hi : Int)  : Ct l G yX3_daysOutside cX3_daysOutside 5 (some .int) 0 0 0 [.ref (lay G 55), .int (I32 lo), .int (I32 hi)] σ (some (.int (I32 (doC σ lo hi)))) (σ) := by
  refine Ct.of (by decide +kernel) (Nat.le_of_ble_eq_true rfl) (fun f => ?_)
  show AW _ _ _ _ _ _ _ _ _ _ [(0, _), (1, _), (2, _)] _ _
  refine A_iconst dX3_daysOutside_0 ?_
  refine A_istore_n (lv2 := [(3, _), (0, _), (1, _), (2, _)]) dX3_daysOutside_1 rfl (by decide) rfl ?_
  refine A_iconst dX3_daysOutside_2 ?_
  refine A_istore (lv2 := [(4, _), (3, _), (0, _), (1, _), (2, _)]) dX3_daysOutside_3 (by decide) rfl ?_
  refine A_lv [0, 1, 2, 3, 4] rfl ?_
  refine w_X3_daysOutside σ lo hi (by omega) 14 0 0 (by omega) ⟨by omega, by omega⟩ (by omega) ?_
  refine A_iload_n dX3_daysOutside_52 rfl 0 rfl ?_
  exact A_iret dX3_daysOutside_53 rfl rfl
set_option maxRecDepth 100000 in
set_option maxHeartbeats 4000000 in
theorem w_X3_closePairs {f : Fm} {Q : State → Prop} {xs : va_W} {kk nn rc rs : Nat} (σ : Sg) (r dist : Int) (hr : 0 ≤ r ∧ r < 8) (hdi : inr dist) (hm : kk ≤ rc ∧ nn ≤ rs) : ∀ (n : Nat) (i : Int) (s1 s2 : Int), 0 ≤ i → inr i → i + n = 14 → AW l G f (RX3, cX3_closePairs, 7, (some .int)) (0, rc, rs) Q xs kk nn 92 [(3, .int (I32 (fW (min (i32 (σ 55 6)) 14) (cpG σ r dist) n i (s1, s2)).1)), (4, .int (I32 (fW (min (i32 (σ 55 6)) 14) (cpG σ r dist) n i (s1, s2)).2)), (0, .ref (lay G 55)), (1, .int (I32 r)), (2, .int (I32 dist))] [] (σ) → AW l G f (RX3, cX3_closePairs, 7, (some .int)) (0, rc, rs) Q xs kk nn 8 [(5, .int (I32 i)), (3, .int (I32 s1)), (4, .int (I32 s2)), (0, .ref (lay G 55)), (1, .int (I32 r)), (2, .int (I32 dist))] [] (σ) := by
  intro n
  induction n using Nat.strongRecOn with | _ n ih =>
  intro i s1 s2 h0 hii hn  hK
  obtain ⟨hi1, hi2⟩ := hii
  refine A_iload dX3_closePairs_8 0 rfl ?_
  refine A_aload_n dX3_closePairs_10 rfl 3 rfl ?_
  refine A_geti fl_X3_33 lk_55 rfl dX3_closePairs_11 ?_
  refine J_icmp_ge (tgt := 92) dX3_closePairs_14 (by decide) (by first | exact i32_eq (by assumption) | exact i32_eq ⟨by omega, by omega⟩ | rfl) (by first | exact i32_eq (by assumption) | exact i32_eq ⟨by omega, by omega⟩ | rfl) (fun h14 => ?_) (fun h14 => ?_)
  · refine A_lv [1, 2, 3, 4, 5] rfl ?_
    clear ih
    rcases n with _ | n <;> simp only [fW] at hK <;> (repeat' split at hK) <;> first | contradiction | (exfalso; omega) | exact hK | (simp_all; done)
  · refine A_iload dX3_closePairs_17 0 rfl ?_
    refine A_bipush dX3_closePairs_19 (by decide +kernel) ?_
    refine J_icmp_ge (tgt := 92) dX3_closePairs_21 (by decide) (by first | exact i32_eq (by assumption) | exact i32_eq ⟨by omega, by omega⟩ | rfl) (by first | exact i32_eq (by assumption) | exact i32_eq ⟨by omega, by omega⟩ | rfl) (fun h21 => ?_) (fun h21 => ?_)
    · refine A_lv [1, 2, 3, 4, 5] rfl ?_
      clear ih
      rcases n with _ | n <;> simp only [fW] at hK <;> (repeat' split at hK) <;> first | contradiction | (exfalso; omega) | exact hK | (simp_all; done)
    · refine A_aload_n dX3_closePairs_24 rfl 3 rfl ?_
      refine A_getr fl_X3_16 lk_55 rfl dX3_closePairs_25 ?_
      refine A_iload_n dX3_closePairs_28 rfl 4 rfl ?_
      refine J_aald lk_57 (by first | exact i32_eq (by assumption) | exact i32_eq ⟨by omega, by omega⟩ | rfl) (by omega) (by omega) (by decide) dX3_closePairs_29 ?_
      refine A_iload dX3_closePairs_30 0 rfl ?_
      refine J_iald (lk_row75 (by omega)) (by first | exact i32_eq (by assumption) | exact i32_eq ⟨by omega, by omega⟩ | rfl) (by omega) (by omega) (by decide) dX3_closePairs_32 ?_
      refine A_istore (lv2 := [(6, _), (5, _), (3, _), (4, _), (0, _), (1, _), (2, _)]) dX3_closePairs_33 (by decide) rfl ?_
      refine A_iload dX3_closePairs_35 1 rfl ?_
      refine A_iload_n dX3_closePairs_37 rfl 6 rfl ?_
      refine J_icmp_lt (tgt := 61) dX3_closePairs_38 (by decide) (by first | exact i32_eq (by assumption) | exact i32_eq ⟨by omega, by omega⟩ | rfl) (by first | exact i32_eq (by assumption) | exact i32_eq ⟨by omega, by omega⟩ | rfl) (fun h38 => ?_) (fun h38 => ?_)
      · refine A_iload_n dX3_closePairs_61 rfl 2 rfl ?_
        refine A_iload dX3_closePairs_62 0 rfl ?_
        refine A_iload dX3_closePairs_64 3 rfl ?_
        refine A_imul dX3_closePairs_66 ?_
        refine A_iload dX3_closePairs_67 0 rfl ?_
        refine A_iload dX3_closePairs_69 0 rfl ?_
        refine A_iconst dX3_closePairs_71 ?_
        refine A_isub dX3_closePairs_72 ?_
        refine A_imul dX3_closePairs_73 ?_
        refine A_iconst dX3_closePairs_74 ?_
        refine J_idiv dX3_closePairs_75 (by first | exact i32_eq (by assumption) | exact i32_eq ⟨by omega, by omega⟩ | rfl) (by first | exact i32_eq (by assumption) | exact i32_eq ⟨by omega, by omega⟩ | rfl) (by omega) ?_
        refine A_iadd dX3_closePairs_76 ?_
        refine A_iadd dX3_closePairs_77 ?_
        refine A_istore_n (lv2 := [(3, _), (6, _), (5, _), (4, _), (0, _), (1, _), (2, _)]) dX3_closePairs_78 rfl (by decide) rfl ?_
        refine A_iload dX3_closePairs_79 3 rfl ?_
        refine A_iload dX3_closePairs_81 1 rfl ?_
        refine A_iadd dX3_closePairs_83 ?_
        refine A_istore (lv2 := [(4, _), (3, _), (6, _), (5, _), (0, _), (1, _), (2, _)]) dX3_closePairs_84 (by decide) rfl ?_
        refine A_iinc (lv2 := [(5, _), (4, _), (3, _), (6, _), (0, _), (1, _), (2, _)]) dX3_closePairs_86 3 rfl (by decide) rfl ?_
        refine A_goto (tgt := 8) dX3_closePairs_89 (by decide) ?_
        refine A_lv [0, 2, 1, 4, 5, 6] rfl ?_
        refine ih (n - 1) (by omega) (i + 1) _ _ (by omega) ⟨by omega, by omega⟩ (by omega) ?_
        obtain ⟨n, rfl⟩ : ∃ q, n = q + 1 := ⟨n - 1, by omega⟩
        clear ih
        rw [fW_s] at hK
        simp only [Nat.add_sub_cancel]
        simp only [cpG, cpN] at hK
        (repeat' split at hK) <;> first | contradiction | (exfalso; omega) | exact hK | (simp_all; done)
      · refine A_iload_n dX3_closePairs_41 rfl 6 rfl ?_
        refine J_if_lt (tgt := 61) dX3_closePairs_42 (by decide) (by first | exact i32_eq (by assumption) | exact i32_eq ⟨by omega, by omega⟩ | rfl) (fun h42 => ?_) (fun h42 => ?_)
        · refine A_iload_n dX3_closePairs_61 rfl 2 rfl ?_
          refine A_iload dX3_closePairs_62 0 rfl ?_
          refine A_iload dX3_closePairs_64 3 rfl ?_
          refine A_imul dX3_closePairs_66 ?_
          refine A_iload dX3_closePairs_67 0 rfl ?_
          refine A_iload dX3_closePairs_69 0 rfl ?_
          refine A_iconst dX3_closePairs_71 ?_
          refine A_isub dX3_closePairs_72 ?_
          refine A_imul dX3_closePairs_73 ?_
          refine A_iconst dX3_closePairs_74 ?_
          refine J_idiv dX3_closePairs_75 (by first | exact i32_eq (by assumption) | exact i32_eq ⟨by omega, by omega⟩ | rfl) (by first | exact i32_eq (by assumption) | exact i32_eq ⟨by omega, by omega⟩ | rfl) (by omega) ?_
          refine A_iadd dX3_closePairs_76 ?_
          refine A_iadd dX3_closePairs_77 ?_
          refine A_istore_n (lv2 := [(3, _), (6, _), (5, _), (4, _), (0, _), (1, _), (2, _)]) dX3_closePairs_78 rfl (by decide) rfl ?_
          refine A_iload dX3_closePairs_79 3 rfl ?_
          refine A_iload dX3_closePairs_81 1 rfl ?_
          refine A_iadd dX3_closePairs_83 ?_
          refine A_istore (lv2 := [(4, _), (3, _), (6, _), (5, _), (0, _), (1, _), (2, _)]) dX3_closePairs_84 (by decide) rfl ?_
          refine A_iinc (lv2 := [(5, _), (4, _), (3, _), (6, _), (0, _), (1, _), (2, _)]) dX3_closePairs_86 3 rfl (by decide) rfl ?_
          refine A_goto (tgt := 8) dX3_closePairs_89 (by decide) ?_
          refine A_lv [0, 2, 1, 4, 5, 6] rfl ?_
          refine ih (n - 1) (by omega) (i + 1) _ _ (by omega) ⟨by omega, by omega⟩ (by omega) ?_
          obtain ⟨n, rfl⟩ : ∃ q, n = q + 1 := ⟨n - 1, by omega⟩
          clear ih
          rw [fW_s] at hK
          simp only [Nat.add_sub_cancel]
          simp only [cpG, cpN] at hK
          (repeat' split at hK) <;> first | contradiction | (exfalso; omega) | exact hK | (simp_all; done)
        · refine A_iload dX3_closePairs_45 3 rfl ?_
          refine A_aload_n dX3_closePairs_47 rfl 4 rfl ?_
          refine A_getr fl_X3_16 lk_55 rfl dX3_closePairs_48 ?_
          refine A_iload_n dX3_closePairs_51 rfl 5 rfl ?_
          refine J_aald lk_57 (by first | exact i32_eq (by assumption) | exact i32_eq ⟨by omega, by omega⟩ | rfl) (by omega) (by omega) (by decide) dX3_closePairs_52 ?_
          refine A_iload dX3_closePairs_53 1 rfl ?_
          refine A_iload_n dX3_closePairs_55 rfl 6 rfl ?_
          refine A_isub dX3_closePairs_56 ?_
          refine J_iald (lk_row75 (by omega)) (by first | exact i32_eq (by assumption) | exact i32_eq ⟨by omega, by omega⟩ | rfl) (by omega) (by omega) (by decide) dX3_closePairs_57 ?_
          refine A_isub dX3_closePairs_58 ?_
          refine A_istore (lv2 := [(4, _), (6, _), (5, _), (3, _), (0, _), (1, _), (2, _)]) dX3_closePairs_59 (by decide) rfl ?_
          refine A_iload_n dX3_closePairs_61 rfl 3 rfl ?_
          refine A_iload dX3_closePairs_62 1 rfl ?_
          refine A_iload dX3_closePairs_64 0 rfl ?_
          refine A_imul dX3_closePairs_66 ?_
          refine A_iload dX3_closePairs_67 1 rfl ?_
          refine A_iload dX3_closePairs_69 1 rfl ?_
          refine A_iconst dX3_closePairs_71 ?_
          refine A_isub dX3_closePairs_72 ?_
          refine A_imul dX3_closePairs_73 ?_
          refine A_iconst dX3_closePairs_74 ?_
          refine J_idiv dX3_closePairs_75 (by first | exact i32_eq (by assumption) | exact i32_eq ⟨by omega, by omega⟩ | rfl) (by first | exact i32_eq (by assumption) | exact i32_eq ⟨by omega, by omega⟩ | rfl) (by omega) ?_
          refine A_iadd dX3_closePairs_76 ?_
          refine A_iadd dX3_closePairs_77 ?_
          refine A_istore_n (lv2 := [(3, _), (4, _), (6, _), (5, _), (0, _), (1, _), (2, _)]) dX3_closePairs_78 rfl (by decide) rfl ?_
          refine A_iload dX3_closePairs_79 1 rfl ?_
          refine A_iload dX3_closePairs_81 2 rfl ?_
          refine A_iadd dX3_closePairs_83 ?_
          refine A_istore (lv2 := [(4, _), (3, _), (6, _), (5, _), (0, _), (1, _), (2, _)]) dX3_closePairs_84 (by decide) rfl ?_
          refine A_iinc (lv2 := [(5, _), (4, _), (3, _), (6, _), (0, _), (1, _), (2, _)]) dX3_closePairs_86 3 rfl (by decide) rfl ?_
          refine A_goto (tgt := 8) dX3_closePairs_89 (by decide) ?_
          refine A_lv [0, 2, 1, 4, 5, 6] rfl ?_
          refine ih (n - 1) (by omega) (i + 1) _ _ (by omega) ⟨by omega, by omega⟩ (by omega) ?_
          obtain ⟨n, rfl⟩ : ∃ q, n = q + 1 := ⟨n - 1, by omega⟩
          clear ih
          rw [fW_s] at hK
          simp only [Nat.add_sub_cancel]
          simp only [cpG, cpN] at hK
          (repeat' split at hK) <;> first | contradiction | (exfalso; omega) | exact hK | (simp_all; done)
set_option maxRecDepth 100000 in
set_option maxHeartbeats 4000000 in
theorem c_X3_closePairs (σ : Sg) (r dist : Int) (hr : 0 ≤ r ∧ r < 8) (hdi : inr dist) : Ct l G yX3_closePairs cX3_closePairs 7 (some .int) 0 0 0 [.ref (lay G 55), .int (I32 r), .int (I32 dist)] σ (some (.int (I32 (cpC σ r dist)))) (σ) := by
  refine Ct.of (by decide +kernel) (Nat.le_of_ble_eq_true rfl) (fun f => ?_)
  show AW _ _ _ _ _ _ _ _ _ _ [(0, _), (1, _), (2, _)] _ _
  refine A_iconst dX3_closePairs_0 ?_
  refine A_istore_n (lv2 := [(3, _), (0, _), (1, _), (2, _)]) dX3_closePairs_1 rfl (by decide) rfl ?_
  refine A_iconst dX3_closePairs_2 ?_
  refine A_istore (lv2 := [(4, _), (3, _), (0, _), (1, _), (2, _)]) dX3_closePairs_3 (by decide) rfl ?_
  refine A_iconst dX3_closePairs_5 ?_
  refine A_istore (lv2 := [(5, _), (4, _), (3, _), (0, _), (1, _), (2, _)]) dX3_closePairs_6 (by decide) rfl ?_
  refine A_lv [0, 2, 1, 3, 4, 5] rfl ?_
  refine w_X3_closePairs σ r dist hr hdi (by omega) 14 0 0 0 (by omega) ⟨by omega, by omega⟩ (by omega) ?_
  refine A_iload_n dX3_closePairs_92 rfl 0 rfl ?_
  exact A_iret dX3_closePairs_93 rfl rfl
set_option maxRecDepth 100000 in
set_option maxHeartbeats 4000000 in
theorem c_X3_recount (σ : Sg) (r : Int) (hr : 0 ≤ r ∧ r < 8) : Ct l G yX3_recount cX3_recount 4 none 2 0 0 [.ref (lay G 55), .int (I32 r)] σ (none) (rcC σ r) := by
  refine Ct.of (by decide +kernel) (Nat.le_of_ble_eq_true rfl) (fun f => ?_)
  show AW _ _ _ _ _ _ _ _ _ _ [(0, _), (1, _)] _ _
  refine A_aload_n dX3_recount_0 rfl 0 rfl ?_
  refine A_getr fl_X3_29 lk_55 rfl dX3_recount_1 ?_
  refine A_getr fl_X3_64 lk_9 rfl dX3_recount_4 ?_
  refine A_iload_n dX3_recount_7 rfl 1 rfl ?_
  refine A_Va1 mv_X3_107 lk_18 rfl rfl (c_X7_has _ _) (Nat.le_of_ble_eq_true rfl) (by omega) (by omega) dX3_recount_8 ?_
  refine A_ifne_b (tgt := 15) dX3_recount_11 (by decide) (fun h11 => ?_) (fun h11 => ?_)
  · have hh := rHas_t h11
    refine A_aload_n dX3_recount_15 rfl 0 rfl ?_
    refine A_getr fl_X3_29 lk_55 rfl dX3_recount_16 ?_
    refine A_getr fl_X3_64 lk_9 rfl dX3_recount_19 ?_
    refine A_getr fl_X3_108 lk_18 rfl dX3_recount_22 ?_
    refine A_iload_n dX3_recount_25 rfl 1 rfl ?_
    refine J_iald lk_20 (by first | exact i32_eq (by assumption) | exact i32_eq ⟨by omega, by omega⟩ | with_reducible exact i32_i32 _ | with_reducible exact i32_eq (b2i_inr _) | rfl) (by omega) (by omega) (by decide) dX3_recount_26 ?_
    try simp (disch := omega) only [up_k, up_j, up_s]
    rw [← I32_i32 (σ 20 r.toNat)]
    refine A_istore_n (lv2 := [(2, _), (0, _), (1, _)]) dX3_recount_27 rfl (by decide) rfl ?_
    refine A_aload_n dX3_recount_28 rfl 1 rfl ?_
    refine A_getr fl_X3_29 lk_55 rfl dX3_recount_29 ?_
    refine A_getr fl_X3_64 lk_9 rfl dX3_recount_32 ?_
    refine A_getr fl_X3_111 lk_18 rfl dX3_recount_35 ?_
    refine A_iload_n dX3_recount_38 rfl 2 rfl ?_
    refine J_iald lk_21 (by first | exact i32_eq (by assumption) | exact i32_eq ⟨by omega, by omega⟩ | with_reducible exact i32_i32 _ | with_reducible exact i32_eq (b2i_inr _) | rfl) (by omega) (by omega) (by decide) dX3_recount_39 ?_
    try simp (disch := omega) only [up_k, up_j, up_s]
    refine A_istore_n (lv2 := [(3, _), (2, _), (0, _), (1, _)]) dX3_recount_40 rfl (by decide) rfl ?_
    refine A_aload_n dX3_recount_41 rfl 2 rfl ?_
    refine A_getr fl_X3_29 lk_55 rfl dX3_recount_42 ?_
    refine A_getr fl_X3_64 lk_9 rfl dX3_recount_45 ?_
    refine A_getr fl_X3_77 lk_18 rfl dX3_recount_48 ?_
    refine A_iload_n dX3_recount_51 rfl 3 rfl ?_
    refine J_iald lk_19 (by first | exact i32_eq (by assumption) | exact i32_eq ⟨by omega, by omega⟩ | with_reducible exact i32_i32 _ | with_reducible exact i32_eq (b2i_inr _) | rfl) (by omega) (by omega) (by decide) dX3_recount_52 ?_
    try simp (disch := omega) only [up_k, up_j, up_s]
    by_cases h53_0 : i32 (σ 19 r.toNat) = 0
    · refine J_tsIn (tgt := 80) dX3_recount_53 h53_0 ⟨by decide, by decide⟩ (by decide) (by decide) rfl (by decide) ?_
      refine A_aload_n dX3_recount_80 rfl 2 rfl ?_
      refine A_getr fl_X3_26 lk_55 rfl dX3_recount_81 ?_
      refine A_iload_n dX3_recount_84 rfl 3 rfl ?_
      refine A_aload_n dX3_recount_85 rfl 2 rfl ?_
      refine A_iload_n dX3_recount_86 rfl 3 rfl ?_
      refine A_iload_n dX3_recount_87 rfl 1 rfl ?_
      refine A_Va2 mv_X3_114 lk_55 rfl rfl (c_X3_closePairs _ _ _ (by omega) (i32_inr _)) (Nat.le_of_ble_eq_true rfl) (by omega) (by omega) dX3_recount_88 ?_
      refine J_iast lk_60 (by first | exact i32_eq (by assumption) | exact i32_eq ⟨by omega, by omega⟩ | with_reducible exact i32_i32 _ | with_reducible exact i32_eq (b2i_inr _) | rfl) (by omega) (by omega) (by decide) dX3_recount_91 ?_
      refine A_goto (tgt := 149) dX3_recount_92 (by decide) ?_
      exact A_vret dX3_recount_149 (by rfl) (by simp only [rcC, rcV]; (repeat' split) <;> first | rfl | contradiction | (exfalso; omega) | simp_all)
    by_cases h53_1 : i32 (σ 19 r.toNat) = 1
    · refine J_tsIn (tgt := 95) dX3_recount_53 h53_1 ⟨by decide, by decide⟩ (by decide) (by decide) rfl (by decide) ?_
      refine A_aload_n dX3_recount_95 rfl 2 rfl ?_
      refine A_getr fl_X3_26 lk_55 rfl dX3_recount_96 ?_
      refine A_iload_n dX3_recount_99 rfl 3 rfl ?_
      refine A_aload_n dX3_recount_100 rfl 2 rfl ?_
      refine A_iload_n dX3_recount_101 rfl 3 rfl ?_
      refine A_iconst dX3_recount_102 ?_
      refine A_iload_n dX3_recount_103 rfl 1 rfl ?_
      refine A_iload_n dX3_recount_104 rfl 0 rfl ?_
      refine A_aload_n dX3_recount_105 rfl 2 rfl ?_
      refine A_geti fl_X3_33 lk_55 rfl dX3_recount_106 ?_
      try simp (disch := omega) only [up_k, up_j, up_s]
      refine A_min mm_X3_117 (by first | exact i32_eq (by assumption) | exact i32_eq ⟨by omega, by omega⟩ | with_reducible exact i32_i32 _ | with_reducible exact i32_eq (b2i_inr _) | rfl) (by first | exact i32_eq (by assumption) | exact i32_eq ⟨by omega, by omega⟩ | with_reducible exact i32_i32 _ | with_reducible exact i32_eq (b2i_inr _) | rfl) (Nat.le_of_ble_eq_true rfl) (by omega) (by omega) dX3_recount_109 ?_
      refine A_Va4 mv_X3_122 lk_55 rfl rfl (c_X3_spansOutside _ _ _ _ _ (by omega) (by first | exact i32_inr _ | exact min_inr _ _)) (Nat.le_of_ble_eq_true rfl) (by omega) (by omega) dX3_recount_112 ?_
      refine J_iast lk_60 (by first | exact i32_eq (by assumption) | exact i32_eq ⟨by omega, by omega⟩ | with_reducible exact i32_i32 _ | with_reducible exact i32_eq (b2i_inr _) | rfl) (by omega) (by omega) (by decide) dX3_recount_115 ?_
      refine A_goto (tgt := 149) dX3_recount_116 (by decide) ?_
      exact A_vret dX3_recount_149 (by rfl) (by simp only [rcC, rcV]; (repeat' split) <;> first | rfl | contradiction | (exfalso; omega) | simp_all)
    by_cases h53_2 : i32 (σ 19 r.toNat) = 2
    · refine J_tsIn (tgt := 119) dX3_recount_53 h53_2 ⟨by decide, by decide⟩ (by decide) (by decide) rfl (by decide) ?_
      refine A_aload_n dX3_recount_119 rfl 2 rfl ?_
      refine A_getr fl_X3_26 lk_55 rfl dX3_recount_120 ?_
      refine A_iload_n dX3_recount_123 rfl 3 rfl ?_
      refine A_aload_n dX3_recount_124 rfl 2 rfl ?_
      refine A_iload_n dX3_recount_125 rfl 3 rfl ?_
      refine A_iload_n dX3_recount_126 rfl 1 rfl ?_
      refine A_bipush dX3_recount_127 (by decide +kernel) ?_
      refine A_iload_n dX3_recount_129 rfl 0 rfl ?_
      rw [← I32_i32 (σ 21 r.toNat)]
      refine A_Va4 mv_X3_122 lk_55 rfl rfl (c_X3_spansOutside _ _ _ _ _ (by omega) (by first | exact i32_inr _ | exact min_inr _ _)) (Nat.le_of_ble_eq_true rfl) (by omega) (by omega) dX3_recount_130 ?_
      refine J_iast lk_60 (by first | exact i32_eq (by assumption) | exact i32_eq ⟨by omega, by omega⟩ | with_reducible exact i32_i32 _ | with_reducible exact i32_eq (b2i_inr _) | rfl) (by omega) (by omega) (by decide) dX3_recount_133 ?_
      refine A_goto (tgt := 149) dX3_recount_134 (by decide) ?_
      exact A_vret dX3_recount_149 (by rfl) (by simp only [rcC, rcV]; (repeat' split) <;> first | rfl | contradiction | (exfalso; omega) | simp_all)
    refine J_tsOut (tgt := 137) dX3_recount_53 (by omega) (by decide) ?_
    refine A_aload_n dX3_recount_137 rfl 2 rfl ?_
    refine A_getr fl_X3_26 lk_55 rfl dX3_recount_138 ?_
    refine A_iload_n dX3_recount_141 rfl 3 rfl ?_
    refine A_aload_n dX3_recount_142 rfl 2 rfl ?_
    refine A_iload_n dX3_recount_143 rfl 1 rfl ?_
    refine A_iload_n dX3_recount_144 rfl 0 rfl ?_
    refine A_Va2 mv_X3_126 lk_55 rfl rfl (c_X3_daysOutside _ _ _) (Nat.le_of_ble_eq_true rfl) (by omega) (by omega) dX3_recount_145 ?_
    refine J_iast lk_60 (by first | exact i32_eq (by assumption) | exact i32_eq ⟨by omega, by omega⟩ | with_reducible exact i32_i32 _ | with_reducible exact i32_eq (b2i_inr _) | rfl) (by omega) (by omega) (by decide) dX3_recount_148 ?_
    exact A_vret dX3_recount_149 (by rfl) (by simp only [rcC, rcV]; (repeat' split) <;> first | rfl | contradiction | (exfalso; omega) | simp_all)
  · exact A_vret dX3_recount_14 (by rfl) (by simp only [rcC, rcV]; (repeat' split) <;> first | rfl | contradiction | (exfalso; omega) | simp_all)
end S13
