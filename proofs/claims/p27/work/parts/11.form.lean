/-! FormReader: recognizers on a position and a count of tokens -/
section S11
variable {l : Launch} {G : Gx}
abbrev Pp : Type := Int × Int
abbrev Ps : Type := Pp → Bool × Pp
def stF (σ : Sg) (s : Pp) : Sg := up (up σ 8 2 s.2) 8 1 s.1
def pT (K : Int → Int) (k : Int) (s : Pp) : Bool × Pp := if K s.1 = k then (true, (s.1 + 1, s.2)) else (false, s)
def pC (K : Int → Int) (k : Int) (s : Pp) : Bool × Pp := if 30 ≤ i32 s.2 ∨ K s.1 ≠ k then (false, s) else (true, (s.1 + 1, s.2 + 1))
def pA (p q : Ps) (s : Pp) : Bool × Pp := if (p s).1 = true then q (p s).2 else (false, (p s).2)
def pO (K : Int → Int) (k : Int) (p : Ps) (s : Pp) : Bool × Pp := if K s.1 = k then p s else (true, s)
def pR (K : Int → Int) (k : Int) (q : Ps) : Nat → Pp → Bool × Pp
  | 0, s => (true, s)
  | n + 1, s => if K s.1 = k then (if (q s).1 = true then pR K k q n (q s).2 else (false, (q s).2)) else (true, s)
def lp (p : Bool) (K : Int → Int) (k : Int) (q : Ps) (n : Nat) (s : Pp) : Bool × Pp := if p = true then pR K k q n s else (false, s)
def andP (x : Bool × Pp) (q : Ps) : Bool × Pp := if x.1 = true then q x.2 else (false, x.2)
def pTags (K : Int → Int) : Ps := pO K 3 (pA (pA (pT K 3) (pT K 22)) (pR K 19 (pA (pT K 19) (pT K 22)) 1500))
def pPart (K : Int → Int) : Ps := pA (pT K 23) (pA (pO K 4 (pT K 4)) (pT K 22))
def pFood (K : Int → Int) : Ps := pA (pT K 0) (pA (pT K 22) (pA (pT K 23) (pA (pO K 16 (pA (pT K 16) (pT K 23))) (pA (pTags K) (pT K 17)))))
def pDish (K : Int → Int) : Ps := pA (pA (pT K 1) (pA (pT K 22) (pA (pT K 2) (pA (pT K 23) (pA (pT K 18) (pPart K)))))) (pA (pR K 19 (pA (pT K 19) (pPart K)) 1500) (pA (pTags K) (pT K 17)))
def pSpan (K : Int → Int) : Ps := pA (pT K 23) (pA (pT K 22) (pA (pT K 10) (pA (pT K 23) (pT K 17))))
def pRule (K : Int → Int) (s : Pp) : Bool × Pp := pA (pT K 6) (fun s => if K s.1 = 7 then pA (pT K 7) (pA (pT K 23) (pA (pT K 22) (pT K 17))) s else if K s.1 = 8 then pA (pT K 8) (pSpan K) s else if K s.1 = 9 then pA (pT K 9) (pSpan K) s else pA (pT K 11) (pA (pT K 23) (pA (pT K 12) (pA (pT K 23) (pT K 17)))) s) s
/-- behind the first of a choice: "and" or "or", and the next -/
def pJ (K : Int → Int) (one : Ps) : Nat → Pp → Bool × Pp
  | 0, s => (true, s)
  | n + 1, s => if K s.1 = 13 ∨ K s.1 = 14 then (if (pA (pC K (K s.1)) one s).1 = true then pJ K one n (pA (pC K (K s.1)) one s).2 else (false, (pA (pC K (K s.1)) one s).2)) else (true, s)
def pE (K : Int → Int) (one : Ps) : Ps := pA one (pJ K one 30)
def pOne (K : Int → Int) : Nat → Pp → Bool × Pp
  | 0, s => if K s.1 = 22 then pC K 22 s else (false, s)
  | m + 1, s => if K s.1 = 22 then pC K 22 s else if K s.1 = 15 then pA (pC K 15) (pOne K m) s else pA (pC K 20) (pA (pE K (pOne K m)) (pC K 21)) s
def pEx (K : Int → Int) : Ps := fun s => pE K (pOne K 8) (s.1, 0)
def pMeal (K : Int → Int) : Ps := pA (pA (pT K 5) (pA (pT K 22) (pA (pT K 18) (pEx K)))) (pA (pR K 19 (pA (pT K 19) (pEx K)) 1500) (pT K 17))
def lj (p : Bool) (K : Int → Int) (one : Ps) (n : Nat) (s : Pp) : Bool × Pp := if p = true then pJ K one n s else (false, s)
theorem KC_stF (σ : Sg) (s : Pp) : KC (stF σ s) = KC σ := rfl
theorem SC_stF (σ : Sg) (s : Pp) : SC (stF σ s) = SC σ := rfl
theorem stF_1 (σ : Sg) (s : Pp) : stF σ s 8 1 = s.1 := rfl
theorem stF_2 (σ : Sg) (s : Pp) : stF σ s 8 2 = s.2 := rfl
theorem stF_s (σ : Sg) (s : Pp) : stF σ s 3 4 = σ 3 4 := rfl
theorem stF_at (σ : Sg) (s : Pp) (a : Int) : up (stF σ s) 8 1 a = stF σ (a, s.2) := by simp only [stF, up_up]
theorem stF_n (σ : Sg) (s : Pp) (n : Int) : up (stF σ s) 8 2 n = stF σ (s.1, n) := by
  simp only [stF]
  rw [up_swap (up σ 8 2 s.2) s.1 n (by decide), up_up]
theorem stF_I (σ : Sg) : stF σ (σ 8 1, σ 8 2) = σ := by
  show up (up σ 8 2 (σ 8 2)) 8 1 (σ 8 1) = σ
  rw [up_self, up_self]

set_option maxRecDepth 100000 in
set_option maxHeartbeats 4000000 in
theorem c_X1_isKind (σ : Sg) (s : Pp) (k : Int) (hk : inr k) : Ct l G yX1_isKind cX1_isKind 2 (some .boolean) 1 0 0 [.ref (lay G 8), .int (I32 k)] (stF σ s) (some (.int (I32 (b2i (decide (KC σ s.1 = k)))))) (stF σ s) := by
  refine Ct.of (by decide +kernel) (Nat.le_of_ble_eq_true rfl) (fun f => ?_)
  show AW _ _ _ _ _ _ _ _ _ _ [(0, _), (1, _)] _ _
  refine A_aload_n dX1_isKind_0 rfl 0 rfl ?_
  refine A_getr fl_X1_9 lk_8 rfl dX1_isKind_1 ?_
  refine A_aload_n dX1_isKind_4 rfl 0 rfl ?_
  refine A_geti fl_X1_15 lk_8 rfl dX1_isKind_5 ?_
  try simp (disch := decide) only [up_k, up_j, up_s, KC_stF, SC_stF, stF_1, stF_2, stF_s, stF_at, stF_n]
  refine A_Va1 mv_X1_27 lk_3 rfl rfl (c_X9_kindOf _ _) (Nat.le_of_ble_eq_true rfl) (by omega) (by omega) dX1_isKind_8 ?_
  try simp only [KC_stF, SC_stF, stF_1, stF_2, stF_s, stF_at, stF_n]
  refine A_iload_n dX1_isKind_11 rfl 1 rfl ?_
  refine J_icmp_ne (tgt := 19) dX1_isKind_12 (by decide) (by first | with_reducible exact i32_eq (KC_inr _ _) | exact i32_eq (by assumption) | exact i32_eq ⟨by omega, by omega⟩ | with_reducible exact i32_i32 _ | rfl) (by first | with_reducible exact i32_eq (KC_inr _ _) | exact i32_eq (by assumption) | exact i32_eq ⟨by omega, by omega⟩ | with_reducible exact i32_i32 _ | rfl) (fun h12 => ?_) (fun h12 => ?_)
  · refine A_iconst dX1_isKind_19 ?_
    exact A_zret2 dX1_isKind_20 (by decide) (by first | (rw [decide_eq_true (by assumption), b2i_t]; done) | (rw [decide_eq_false (by assumption), b2i_f]; done)) (by rfl)
  · refine A_iconst dX1_isKind_15 ?_
    refine A_goto (tgt := 20) dX1_isKind_16 (by decide) ?_
    exact A_zret2 dX1_isKind_20 (by decide) (by first | (rw [decide_eq_true (by assumption), b2i_t]; done) | (rw [decide_eq_false (by assumption), b2i_f]; done)) (by rfl)
set_option maxRecDepth 100000 in
set_option maxHeartbeats 4000000 in
theorem c_X1_take (σ : Sg) (s : Pp) (k : Int) (hk : inr k) : Ct l G yX1_take cX1_take 2 (some .boolean) 1 0 0 [.ref (lay G 8), .int (I32 k)] (stF σ s) (some (.int (I32 (b2i (pT (KC σ) k s).1)))) (stF σ (pT (KC σ) k s).2) := by
  refine Ct.of (by decide +kernel) (Nat.le_of_ble_eq_true rfl) (fun f => ?_)
  show AW _ _ _ _ _ _ _ _ _ _ [(0, _), (1, _)] _ _
  refine A_aload_n dX1_take_0 rfl 0 rfl ?_
  refine A_getr fl_X1_9 lk_8 rfl dX1_take_1 ?_
  refine A_aload_n dX1_take_4 rfl 0 rfl ?_
  refine A_geti fl_X1_15 lk_8 rfl dX1_take_5 ?_
  try simp (disch := decide) only [up_k, up_j, up_s, KC_stF, SC_stF, stF_1, stF_2, stF_s, stF_at, stF_n]
  refine A_Va1 mv_X1_27 lk_3 rfl rfl (c_X9_kindOf _ _) (Nat.le_of_ble_eq_true rfl) (by omega) (by omega) dX1_take_8 ?_
  try simp only [KC_stF, SC_stF, stF_1, stF_2, stF_s, stF_at, stF_n]
  refine A_iload_n dX1_take_11 rfl 1 rfl ?_
  refine J_icmp_eq (tgt := 17) dX1_take_12 (by decide) (by first | with_reducible exact i32_eq (KC_inr _ _) | exact i32_eq (by assumption) | exact i32_eq ⟨by omega, by omega⟩ | with_reducible exact i32_i32 _ | rfl) (by first | with_reducible exact i32_eq (KC_inr _ _) | exact i32_eq (by assumption) | exact i32_eq ⟨by omega, by omega⟩ | with_reducible exact i32_i32 _ | rfl) (fun h12 => ?_) (fun h12 => ?_)
  · refine A_aload_n dX1_take_17 rfl 0 rfl ?_
    refine A_dup dX1_take_18 rfl ?_
    refine A_geti fl_X1_15 lk_8 rfl dX1_take_19 ?_
    try simp (disch := decide) only [up_k, up_j, up_s, KC_stF, SC_stF, stF_1, stF_2, stF_s, stF_at, stF_n]
    refine A_iconst dX1_take_22 ?_
    refine A_iadd dX1_take_23 ?_
    refine A_puti fl_X1_15 lk_8 rfl dX1_take_24 ?_
    refine A_iconst dX1_take_27 ?_
    exact A_zret2 dX1_take_28 (by decide) (by first | (simp [pT, b2i_t, b2i_f, *]; done) | (simp_all [pT, b2i_t, b2i_f]; done)) (by simp [pT, stF_at, stF_1, *])
  · refine A_iconst dX1_take_15 ?_
    exact A_zret2 dX1_take_16 (by decide) (by first | (simp [pT, b2i_t, b2i_f, *]; done) | (simp_all [pT, b2i_t, b2i_f]; done)) (by simp [pT, stF_at, stF_1, *])
set_option maxRecDepth 100000 in
set_option maxHeartbeats 4000000 in
theorem c_X1_takeOfChoice (σ : Sg) (s : Pp) (k : Int) (hk : inr k) : Ct l G yX1_takeOfChoice cX1_takeOfChoice 2 (some .boolean) 1 0 0 [.ref (lay G 8), .int (I32 k)] (stF σ s) (some (.int (I32 (b2i (pC (KC σ) k s).1)))) (stF σ (pC (KC σ) k s).2) := by
  refine Ct.of (by decide +kernel) (Nat.le_of_ble_eq_true rfl) (fun f => ?_)
  show AW _ _ _ _ _ _ _ _ _ _ [(0, _), (1, _)] _ _
  refine A_aload_n dX1_takeOfChoice_0 rfl 0 rfl ?_
  refine A_geti fl_X1_62 lk_8 rfl dX1_takeOfChoice_1 ?_
  try simp (disch := decide) only [up_k, up_j, up_s, KC_stF, SC_stF, stF_1, stF_2, stF_s, stF_at, stF_n]
  refine A_bipush dX1_takeOfChoice_4 (by decide +kernel) ?_
  refine J_icmp_ge (tgt := 24) dX1_takeOfChoice_6 (by decide) (by first | with_reducible exact i32_eq (KC_inr _ _) | exact i32_eq (by assumption) | exact i32_eq ⟨by omega, by omega⟩ | with_reducible exact i32_i32 _ | rfl) (by first | with_reducible exact i32_eq (KC_inr _ _) | exact i32_eq (by assumption) | exact i32_eq ⟨by omega, by omega⟩ | with_reducible exact i32_i32 _ | rfl) (fun h6 => ?_) (fun h6 => ?_)
  · refine A_iconst dX1_takeOfChoice_24 ?_
    exact A_zret2 dX1_takeOfChoice_25 (by decide) (by simp only [pC]; (repeat' split) <;> first | rfl | omega | (exfalso; omega)) (by simp only [pC, stF_at, stF_1, stF_n, stF_2]; (repeat' split) <;> first | rfl | omega | (exfalso; omega))
  · refine A_aload_n dX1_takeOfChoice_9 rfl 0 rfl ?_
    refine A_getr fl_X1_9 lk_8 rfl dX1_takeOfChoice_10 ?_
    refine A_aload_n dX1_takeOfChoice_13 rfl 0 rfl ?_
    refine A_geti fl_X1_15 lk_8 rfl dX1_takeOfChoice_14 ?_
    try simp (disch := decide) only [up_k, up_j, up_s, KC_stF, SC_stF, stF_1, stF_2, stF_s, stF_at, stF_n]
    refine A_Va1 mv_X1_27 lk_3 rfl rfl (c_X9_kindOf _ _) (Nat.le_of_ble_eq_true rfl) (by omega) (by omega) dX1_takeOfChoice_17 ?_
    try simp only [KC_stF, SC_stF, stF_1, stF_2, stF_s, stF_at, stF_n]
    refine A_iload_n dX1_takeOfChoice_20 rfl 1 rfl ?_
    refine J_icmp_eq (tgt := 26) dX1_takeOfChoice_21 (by decide) (by first | with_reducible exact i32_eq (KC_inr _ _) | exact i32_eq (by assumption) | exact i32_eq ⟨by omega, by omega⟩ | with_reducible exact i32_i32 _ | rfl) (by first | with_reducible exact i32_eq (KC_inr _ _) | exact i32_eq (by assumption) | exact i32_eq ⟨by omega, by omega⟩ | with_reducible exact i32_i32 _ | rfl) (fun h21 => ?_) (fun h21 => ?_)
    · refine A_aload_n dX1_takeOfChoice_26 rfl 0 rfl ?_
      refine A_dup dX1_takeOfChoice_27 rfl ?_
      refine A_geti fl_X1_62 lk_8 rfl dX1_takeOfChoice_28 ?_
      try simp (disch := decide) only [up_k, up_j, up_s, KC_stF, SC_stF, stF_1, stF_2, stF_s, stF_at, stF_n]
      refine A_iconst dX1_takeOfChoice_31 ?_
      refine A_iadd dX1_takeOfChoice_32 ?_
      refine A_puti fl_X1_62 lk_8 rfl dX1_takeOfChoice_33 ?_
      refine A_aload_n dX1_takeOfChoice_36 rfl 0 rfl ?_
      refine A_dup dX1_takeOfChoice_37 rfl ?_
      refine A_geti fl_X1_15 lk_8 rfl dX1_takeOfChoice_38 ?_
      try simp (disch := decide) only [up_k, up_j, up_s, KC_stF, SC_stF, stF_1, stF_2, stF_s, stF_at, stF_n]
      refine A_iconst dX1_takeOfChoice_41 ?_
      refine A_iadd dX1_takeOfChoice_42 ?_
      refine A_puti fl_X1_15 lk_8 rfl dX1_takeOfChoice_43 ?_
      refine A_iconst dX1_takeOfChoice_46 ?_
      exact A_zret2 dX1_takeOfChoice_47 (by decide) (by simp only [pC]; (repeat' split) <;> first | rfl | omega | (exfalso; omega)) (by simp only [pC, stF_at, stF_1, stF_n, stF_2]; (repeat' split) <;> first | rfl | omega | (exfalso; omega))
    · refine A_iconst dX1_takeOfChoice_24 ?_
      exact A_zret2 dX1_takeOfChoice_25 (by decide) (by simp only [pC]; (repeat' split) <;> first | rfl | omega | (exfalso; omega)) (by simp only [pC, stF_at, stF_1, stF_n, stF_2]; (repeat' split) <;> first | rfl | omega | (exfalso; omega))
set_option maxRecDepth 100000 in
set_option maxHeartbeats 4000000 in
theorem c_X1_readPart (σ : Sg) (s : Pp)  : Ct l G yX1_readPart cX1_readPart 2 (some .boolean) 2 0 0 [.ref (lay G 8)] (stF σ s) (some (.int (I32 (b2i (pPart (KC σ) s).1)))) (stF σ (pPart (KC σ) s).2) := by
  refine Ct.of (by decide +kernel) (Nat.le_of_ble_eq_true rfl) (fun f => ?_)
  show AW _ _ _ _ _ _ _ _ _ _ [(0, _)] _ _
  refine A_aload_n dX1_readPart_0 rfl 0 rfl ?_
  refine A_bipush dX1_readPart_1 (by decide +kernel) ?_
  refine A_Va1 mv_X1_50 lk_8 rfl rfl (c_X1_take _ _ _ ⟨by decide, by decide⟩) (Nat.le_of_ble_eq_true rfl) (by omega) (by omega) dX1_readPart_3 ?_
  try simp only [KC_stF, SC_stF, stF_1, stF_2, stF_s, stF_at, stF_n]
  refine A_istore_n (lv2 := [(1, _), (0, _)]) dX1_readPart_6 rfl (by decide) rfl ?_
  refine A_iload_n dX1_readPart_7 rfl 0 rfl ?_
  refine A_ifeq_b (tgt := 25) dX1_readPart_8 (by decide) (fun h8 => ?_) (fun h8 => ?_)
  · refine A_iload_n dX1_readPart_25 rfl 0 rfl ?_
    refine A_ifeq_b (tgt := 42) dX1_readPart_26 (by decide) (fun h26 => ?_) (fun h26 => ?_)
    · refine A_iconst dX1_readPart_42 ?_
      exact A_zret2 dX1_readPart_43 (by decide) (by first | (simp [pPart, pA, pO, b2i_t, b2i_f, *]; done) | (simp_all [pPart, pA, pO, b2i_t, b2i_f]; done)) (by first | (simp [pPart, pA, pO, *]; done) | (simp_all [pPart, pA, pO]; done))
    · refine A_aload_n dX1_readPart_29 rfl 1 rfl ?_
      refine A_bipush dX1_readPart_30 (by decide +kernel) ?_
      refine A_Va1 mv_X1_50 lk_8 rfl rfl (c_X1_take _ _ _ ⟨by decide, by decide⟩) (Nat.le_of_ble_eq_true rfl) (by omega) (by omega) dX1_readPart_32 ?_
      try simp only [KC_stF, SC_stF, stF_1, stF_2, stF_s, stF_at, stF_n]
      refine A_ifeq_b (tgt := 42) dX1_readPart_35 (by decide) (fun h35 => ?_) (fun h35 => ?_)
      · refine A_iconst dX1_readPart_42 ?_
        exact A_zret2 dX1_readPart_43 (by decide) (by first | (simp [pPart, pA, pO, b2i_t, b2i_f, *]; done) | (simp_all [pPart, pA, pO, b2i_t, b2i_f]; done)) (by first | (simp [pPart, pA, pO, *]; done) | (simp_all [pPart, pA, pO]; done))
      · refine A_iconst dX1_readPart_38 ?_
        refine A_goto (tgt := 43) dX1_readPart_39 (by decide) ?_
        exact A_zret2 dX1_readPart_43 (by decide) (by first | (simp [pPart, pA, pO, b2i_t, b2i_f, *]; done) | (simp_all [pPart, pA, pO, b2i_t, b2i_f]; done)) (by first | (simp [pPart, pA, pO, *]; done) | (simp_all [pPart, pA, pO]; done))
  · refine A_aload_n dX1_readPart_11 rfl 1 rfl ?_
    refine A_iconst dX1_readPart_12 ?_
    refine A_Va1 mv_X1_23 lk_8 rfl rfl (c_X1_isKind _ _ _ ⟨by decide, by decide⟩) (Nat.le_of_ble_eq_true rfl) (by omega) (by omega) dX1_readPart_13 ?_
    try simp only [KC_stF, SC_stF, stF_1, stF_2, stF_s, stF_at, stF_n]
    refine A_ifeq_b (tgt := 25) dX1_readPart_16 (by decide) (fun h16 => ?_) (fun h16 => ?_)
    · refine A_iload_n dX1_readPart_25 rfl 0 rfl ?_
      refine A_ifeq_b (tgt := 42) dX1_readPart_26 (by decide) (fun h26 => ?_) (fun h26 => ?_)
      · refine A_iconst dX1_readPart_42 ?_
        exact A_zret2 dX1_readPart_43 (by decide) (by first | (simp [pPart, pA, pO, b2i_t, b2i_f, *]; done) | (simp_all [pPart, pA, pO, b2i_t, b2i_f]; done)) (by first | (simp [pPart, pA, pO, *]; done) | (simp_all [pPart, pA, pO]; done))
      · refine A_aload_n dX1_readPart_29 rfl 1 rfl ?_
        refine A_bipush dX1_readPart_30 (by decide +kernel) ?_
        refine A_Va1 mv_X1_50 lk_8 rfl rfl (c_X1_take _ _ _ ⟨by decide, by decide⟩) (Nat.le_of_ble_eq_true rfl) (by omega) (by omega) dX1_readPart_32 ?_
        try simp only [KC_stF, SC_stF, stF_1, stF_2, stF_s, stF_at, stF_n]
        refine A_ifeq_b (tgt := 42) dX1_readPart_35 (by decide) (fun h35 => ?_) (fun h35 => ?_)
        · refine A_iconst dX1_readPart_42 ?_
          exact A_zret2 dX1_readPart_43 (by decide) (by first | (simp [pPart, pA, pO, b2i_t, b2i_f, *]; done) | (simp_all [pPart, pA, pO, b2i_t, b2i_f]; done)) (by first | (simp [pPart, pA, pO, *]; done) | (simp_all [pPart, pA, pO]; done))
        · refine A_iconst dX1_readPart_38 ?_
          refine A_goto (tgt := 43) dX1_readPart_39 (by decide) ?_
          exact A_zret2 dX1_readPart_43 (by decide) (by first | (simp [pPart, pA, pO, b2i_t, b2i_f, *]; done) | (simp_all [pPart, pA, pO, b2i_t, b2i_f]; done)) (by first | (simp [pPart, pA, pO, *]; done) | (simp_all [pPart, pA, pO]; done))
    · refine A_aload_n dX1_readPart_19 rfl 1 rfl ?_
      refine A_iconst dX1_readPart_20 ?_
      refine A_Va1 mv_X1_50 lk_8 rfl rfl (c_X1_take _ _ _ ⟨by decide, by decide⟩) (Nat.le_of_ble_eq_true rfl) (by omega) (by omega) dX1_readPart_21 ?_
      try simp only [KC_stF, SC_stF, stF_1, stF_2, stF_s, stF_at, stF_n]
      refine A_istore_n (lv2 := [(1, _), (0, _)]) dX1_readPart_24 rfl (by decide) rfl ?_
      refine A_iload_n dX1_readPart_25 rfl 0 rfl ?_
      refine A_ifeq_b (tgt := 42) dX1_readPart_26 (by decide) (fun h26 => ?_) (fun h26 => ?_)
      · refine A_iconst dX1_readPart_42 ?_
        exact A_zret2 dX1_readPart_43 (by decide) (by first | (simp [pPart, pA, pO, b2i_t, b2i_f, *]; done) | (simp_all [pPart, pA, pO, b2i_t, b2i_f]; done)) (by first | (simp [pPart, pA, pO, *]; done) | (simp_all [pPart, pA, pO]; done))
      · refine A_aload_n dX1_readPart_29 rfl 1 rfl ?_
        refine A_bipush dX1_readPart_30 (by decide +kernel) ?_
        refine A_Va1 mv_X1_50 lk_8 rfl rfl (c_X1_take _ _ _ ⟨by decide, by decide⟩) (Nat.le_of_ble_eq_true rfl) (by omega) (by omega) dX1_readPart_32 ?_
        try simp only [KC_stF, SC_stF, stF_1, stF_2, stF_s, stF_at, stF_n]
        refine A_ifeq_b (tgt := 42) dX1_readPart_35 (by decide) (fun h35 => ?_) (fun h35 => ?_)
        · refine A_iconst dX1_readPart_42 ?_
          exact A_zret2 dX1_readPart_43 (by decide) (by first | (simp [pPart, pA, pO, b2i_t, b2i_f, *]; done) | (simp_all [pPart, pA, pO, b2i_t, b2i_f]; done)) (by first | (simp [pPart, pA, pO, *]; done) | (simp_all [pPart, pA, pO]; done))
        · refine A_iconst dX1_readPart_38 ?_
          refine A_goto (tgt := 43) dX1_readPart_39 (by decide) ?_
          exact A_zret2 dX1_readPart_43 (by decide) (by first | (simp [pPart, pA, pO, b2i_t, b2i_f, *]; done) | (simp_all [pPart, pA, pO, b2i_t, b2i_f]; done)) (by first | (simp [pPart, pA, pO, *]; done) | (simp_all [pPart, pA, pO]; done))
set_option maxRecDepth 100000 in
set_option maxHeartbeats 4000000 in
theorem c_X1_readSpan (σ : Sg) (s : Pp)  : Ct l G yX1_readSpan cX1_readSpan 1 (some .boolean) 2 0 0 [.ref (lay G 8)] (stF σ s) (some (.int (I32 (b2i (pSpan (KC σ) s).1)))) (stF σ (pSpan (KC σ) s).2) := by
  refine Ct.of (by decide +kernel) (Nat.le_of_ble_eq_true rfl) (fun f => ?_)
  show AW _ _ _ _ _ _ _ _ _ _ [(0, _)] _ _
  refine A_aload_n dX1_readSpan_0 rfl 0 rfl ?_
  refine A_bipush dX1_readSpan_1 (by decide +kernel) ?_
  refine A_Va1 mv_X1_50 lk_8 rfl rfl (c_X1_take _ _ _ ⟨by decide, by decide⟩) (Nat.le_of_ble_eq_true rfl) (by omega) (by omega) dX1_readSpan_3 ?_
  try simp only [KC_stF, SC_stF, stF_1, stF_2, stF_s, stF_at, stF_n]
  refine A_ifeq_b (tgt := 49) dX1_readSpan_6 (by decide) (fun h6 => ?_) (fun h6 => ?_)
  · refine A_iconst dX1_readSpan_49 ?_
    exact A_zret2 dX1_readSpan_50 (by decide) (by first | (simp [pSpan, pA, pO, b2i_t, b2i_f, *]; done) | (simp_all [pSpan, pA, pO, b2i_t, b2i_f]; done)) (by first | (simp [pSpan, pA, pO, *]; done) | (simp_all [pSpan, pA, pO]; done))
  · refine A_aload_n dX1_readSpan_9 rfl 0 rfl ?_
    refine A_bipush dX1_readSpan_10 (by decide +kernel) ?_
    refine A_Va1 mv_X1_50 lk_8 rfl rfl (c_X1_take _ _ _ ⟨by decide, by decide⟩) (Nat.le_of_ble_eq_true rfl) (by omega) (by omega) dX1_readSpan_12 ?_
    try simp only [KC_stF, SC_stF, stF_1, stF_2, stF_s, stF_at, stF_n]
    refine A_ifeq_b (tgt := 49) dX1_readSpan_15 (by decide) (fun h15 => ?_) (fun h15 => ?_)
    · refine A_iconst dX1_readSpan_49 ?_
      exact A_zret2 dX1_readSpan_50 (by decide) (by first | (simp [pSpan, pA, pO, b2i_t, b2i_f, *]; done) | (simp_all [pSpan, pA, pO, b2i_t, b2i_f]; done)) (by first | (simp [pSpan, pA, pO, *]; done) | (simp_all [pSpan, pA, pO]; done))
    · refine A_aload_n dX1_readSpan_18 rfl 0 rfl ?_
      refine A_bipush dX1_readSpan_19 (by decide +kernel) ?_
      refine A_Va1 mv_X1_50 lk_8 rfl rfl (c_X1_take _ _ _ ⟨by decide, by decide⟩) (Nat.le_of_ble_eq_true rfl) (by omega) (by omega) dX1_readSpan_21 ?_
      try simp only [KC_stF, SC_stF, stF_1, stF_2, stF_s, stF_at, stF_n]
      refine A_ifeq_b (tgt := 49) dX1_readSpan_24 (by decide) (fun h24 => ?_) (fun h24 => ?_)
      · refine A_iconst dX1_readSpan_49 ?_
        exact A_zret2 dX1_readSpan_50 (by decide) (by first | (simp [pSpan, pA, pO, b2i_t, b2i_f, *]; done) | (simp_all [pSpan, pA, pO, b2i_t, b2i_f]; done)) (by first | (simp [pSpan, pA, pO, *]; done) | (simp_all [pSpan, pA, pO]; done))
      · refine A_aload_n dX1_readSpan_27 rfl 0 rfl ?_
        refine A_bipush dX1_readSpan_28 (by decide +kernel) ?_
        refine A_Va1 mv_X1_50 lk_8 rfl rfl (c_X1_take _ _ _ ⟨by decide, by decide⟩) (Nat.le_of_ble_eq_true rfl) (by omega) (by omega) dX1_readSpan_30 ?_
        try simp only [KC_stF, SC_stF, stF_1, stF_2, stF_s, stF_at, stF_n]
        refine A_ifeq_b (tgt := 49) dX1_readSpan_33 (by decide) (fun h33 => ?_) (fun h33 => ?_)
        · refine A_iconst dX1_readSpan_49 ?_
          exact A_zret2 dX1_readSpan_50 (by decide) (by first | (simp [pSpan, pA, pO, b2i_t, b2i_f, *]; done) | (simp_all [pSpan, pA, pO, b2i_t, b2i_f]; done)) (by first | (simp [pSpan, pA, pO, *]; done) | (simp_all [pSpan, pA, pO]; done))
        · refine A_aload_n dX1_readSpan_36 rfl 0 rfl ?_
          refine A_bipush dX1_readSpan_37 (by decide +kernel) ?_
          refine A_Va1 mv_X1_50 lk_8 rfl rfl (c_X1_take _ _ _ ⟨by decide, by decide⟩) (Nat.le_of_ble_eq_true rfl) (by omega) (by omega) dX1_readSpan_39 ?_
          try simp only [KC_stF, SC_stF, stF_1, stF_2, stF_s, stF_at, stF_n]
          refine A_ifeq_b (tgt := 49) dX1_readSpan_42 (by decide) (fun h42 => ?_) (fun h42 => ?_)
          · refine A_iconst dX1_readSpan_49 ?_
            exact A_zret2 dX1_readSpan_50 (by decide) (by first | (simp [pSpan, pA, pO, b2i_t, b2i_f, *]; done) | (simp_all [pSpan, pA, pO, b2i_t, b2i_f]; done)) (by first | (simp [pSpan, pA, pO, *]; done) | (simp_all [pSpan, pA, pO]; done))
          · refine A_iconst dX1_readSpan_45 ?_
            refine A_goto (tgt := 50) dX1_readSpan_46 (by decide) ?_
            exact A_zret2 dX1_readSpan_50 (by decide) (by first | (simp [pSpan, pA, pO, b2i_t, b2i_f, *]; done) | (simp_all [pSpan, pA, pO, b2i_t, b2i_f]; done)) (by first | (simp [pSpan, pA, pO, *]; done) | (simp_all [pSpan, pA, pO]; done))
set_option maxRecDepth 100000 in
set_option maxHeartbeats 4000000 in
theorem w_X1_readTags {f : Fm} (σ : Sg)  : ∀ (n : Nat) (i : Int) (p : Bool) (s : Pp) (r : Option Value) (σ1 : Sg), 0 ≤ i → i + n = 1500 → r = some (.int (I32 (b2i (lp p (KC σ) 19 (pA (pT (KC σ) 19) (pT (KC σ) 22)) n s).1))) → σ1 = stF σ (lp p (KC σ) 19 (pA (pT (KC σ) 19) (pT (KC σ) 22)) n s).2 → AW l G f (RX1, cX1_readTags, 3, (some .boolean)) (2, 0, 0) (QT G f 0 0 r σ1) [] 0 0 35 [(2, .int (I32 i)), (1, .int (I32 (b2i p))), (0, .ref (lay G 8))] [] (stF σ s) := by
  intro n
  induction n using Nat.strongRecOn with | _ n ih =>
  intro i p s r σ1 h0 hn hr hs
  refine A_iload_n dX1_readTags_35 rfl 0 rfl ?_
  refine A_sipush dX1_readTags_36 (by decide +kernel) ?_
  refine J_icmp_ge (tgt := 85) dX1_readTags_39 (by decide) (by first | with_reducible exact i32_eq (KC_inr _ _) | exact i32_eq (by assumption) | exact i32_eq ⟨by omega, by omega⟩ | with_reducible exact i32_i32 _ | rfl) (by first | with_reducible exact i32_eq (KC_inr _ _) | exact i32_eq (by assumption) | exact i32_eq ⟨by omega, by omega⟩ | with_reducible exact i32_i32 _ | rfl) (fun h39 => ?_) (fun h39 => ?_)
  · refine A_iload_n dX1_readTags_85 rfl 1 rfl ?_
    exact A_zret dX1_readTags_86 (by rw [hr]; clear ih; rcases n with _ | n <;> cases p <;> simp_all [lp, pR, pA, andP, b2i_t, b2i_f] <;> omega) (by rw [hs]; clear ih; rcases n with _ | n <;> cases p <;> simp_all [lp, pR, pA, andP, b2i_t, b2i_f] <;> omega)
  · refine A_iload_n dX1_readTags_42 rfl 1 rfl ?_
    refine A_ifeq_b (tgt := 85) dX1_readTags_43 (by decide) (fun h43 => ?_) (fun h43 => ?_)
    · refine A_iload_n dX1_readTags_85 rfl 1 rfl ?_
      exact A_zret dX1_readTags_86 (by rw [hr]; clear ih; rcases n with _ | n <;> cases p <;> simp_all [lp, pR, pA, andP, b2i_t, b2i_f] <;> omega) (by rw [hs]; clear ih; rcases n with _ | n <;> cases p <;> simp_all [lp, pR, pA, andP, b2i_t, b2i_f] <;> omega)
    · refine A_aload_n dX1_readTags_46 rfl 2 rfl ?_
      refine A_bipush dX1_readTags_47 (by decide +kernel) ?_
      refine A_Va1 mv_X1_23 lk_8 rfl rfl (c_X1_isKind _ _ _ ⟨by decide, by decide⟩) (Nat.le_of_ble_eq_true rfl) (by omega) (by omega) dX1_readTags_49 ?_
      try simp only [KC_stF, SC_stF, stF_1, stF_2, stF_s, stF_at, stF_n]
      refine A_ifeq_b (tgt := 85) dX1_readTags_52 (by decide) (fun h52 => ?_) (fun h52 => ?_)
      · refine A_iload_n dX1_readTags_85 rfl 1 rfl ?_
        exact A_zret dX1_readTags_86 (by rw [hr]; clear ih; rcases n with _ | n <;> cases p <;> simp_all [lp, pR, pA, andP, b2i_t, b2i_f] <;> omega) (by rw [hs]; clear ih; rcases n with _ | n <;> cases p <;> simp_all [lp, pR, pA, andP, b2i_t, b2i_f] <;> omega)
      · refine A_aload_n dX1_readTags_55 rfl 2 rfl ?_
        refine A_bipush dX1_readTags_56 (by decide +kernel) ?_
        refine A_Va1 mv_X1_50 lk_8 rfl rfl (c_X1_take _ _ _ ⟨by decide, by decide⟩) (Nat.le_of_ble_eq_true rfl) (by omega) (by omega) dX1_readTags_58 ?_
        try simp only [KC_stF, SC_stF, stF_1, stF_2, stF_s, stF_at, stF_n]
        refine A_ifeq_b (tgt := 77) dX1_readTags_61 (by decide) (fun h61 => ?_) (fun h61 => ?_)
        · refine A_iconst dX1_readTags_77 ?_
          refine A_istore_n (lv2 := [(1, _), (2, _), (0, _)]) dX1_readTags_78 rfl (by decide) rfl ?_
          refine A_iinc (lv2 := [(2, _), (1, _), (0, _)]) dX1_readTags_79 1 rfl (by decide) rfl ?_
          refine A_goto (tgt := 35) dX1_readTags_82 (by decide) ?_
          refine A_lv [0, 1, 2] rfl ?_
          exact ih (n - 1) (by omega) (i + 1) false _ r σ1 (by omega) (by omega) (by rw [hr]; obtain ⟨n, rfl⟩ : ∃ q, n = q + 1 := ⟨n - 1, by omega⟩; first | (simp [lp, pR, pA, *]; done) | (clear ih; simp_all [lp, pR, pA]; done)) (by rw [hs]; obtain ⟨n, rfl⟩ : ∃ q, n = q + 1 := ⟨n - 1, by omega⟩; first | (simp [lp, pR, pA, *]; done) | (clear ih; simp_all [lp, pR, pA]; done))
        · refine A_aload_n dX1_readTags_64 rfl 2 rfl ?_
          refine A_bipush dX1_readTags_65 (by decide +kernel) ?_
          refine A_Va1 mv_X1_50 lk_8 rfl rfl (c_X1_take _ _ _ ⟨by decide, by decide⟩) (Nat.le_of_ble_eq_true rfl) (by omega) (by omega) dX1_readTags_67 ?_
          try simp only [KC_stF, SC_stF, stF_1, stF_2, stF_s, stF_at, stF_n]
          refine A_ifeq_b (tgt := 77) dX1_readTags_70 (by decide) (fun h70 => ?_) (fun h70 => ?_)
          · refine A_iconst dX1_readTags_77 ?_
            refine A_istore_n (lv2 := [(1, _), (2, _), (0, _)]) dX1_readTags_78 rfl (by decide) rfl ?_
            refine A_iinc (lv2 := [(2, _), (1, _), (0, _)]) dX1_readTags_79 1 rfl (by decide) rfl ?_
            refine A_goto (tgt := 35) dX1_readTags_82 (by decide) ?_
            refine A_lv [0, 1, 2] rfl ?_
            exact ih (n - 1) (by omega) (i + 1) false _ r σ1 (by omega) (by omega) (by rw [hr]; obtain ⟨n, rfl⟩ : ∃ q, n = q + 1 := ⟨n - 1, by omega⟩; first | (simp [lp, pR, pA, *]; done) | (clear ih; simp_all [lp, pR, pA]; done)) (by rw [hs]; obtain ⟨n, rfl⟩ : ∃ q, n = q + 1 := ⟨n - 1, by omega⟩; first | (simp [lp, pR, pA, *]; done) | (clear ih; simp_all [lp, pR, pA]; done))
          · refine A_iconst dX1_readTags_73 ?_
            refine A_goto (tgt := 78) dX1_readTags_74 (by decide) ?_
            refine A_istore_n (lv2 := [(1, _), (2, _), (0, _)]) dX1_readTags_78 rfl (by decide) rfl ?_
            refine A_iinc (lv2 := [(2, _), (1, _), (0, _)]) dX1_readTags_79 1 rfl (by decide) rfl ?_
            refine A_goto (tgt := 35) dX1_readTags_82 (by decide) ?_
            refine A_lv [0, 1, 2] rfl ?_
            exact ih (n - 1) (by omega) (i + 1) true _ r σ1 (by omega) (by omega) (by rw [hr]; obtain ⟨n, rfl⟩ : ∃ q, n = q + 1 := ⟨n - 1, by omega⟩; first | (simp [lp, pR, pA, *]; done) | (clear ih; simp_all [lp, pR, pA]; done)) (by rw [hs]; obtain ⟨n, rfl⟩ : ∃ q, n = q + 1 := ⟨n - 1, by omega⟩; first | (simp [lp, pR, pA, *]; done) | (clear ih; simp_all [lp, pR, pA]; done))
set_option maxRecDepth 100000 in
set_option maxHeartbeats 4000000 in
theorem c_X1_readTags (σ : Sg) (s : Pp)  : Ct l G yX1_readTags cX1_readTags 3 (some .boolean) 2 0 0 [.ref (lay G 8)] (stF σ s) (some (.int (I32 (b2i (pTags (KC σ) s).1)))) (stF σ (pTags (KC σ) s).2) := by
  refine Ct.of (by decide +kernel) (Nat.le_of_ble_eq_true rfl) (fun f => ?_)
  show AW _ _ _ _ _ _ _ _ _ _ [(0, _)] _ _
  refine A_aload_n dX1_readTags_0 rfl 0 rfl ?_
  refine A_iconst dX1_readTags_1 ?_
  refine A_Va1 mv_X1_23 lk_8 rfl rfl (c_X1_isKind _ _ _ ⟨by decide, by decide⟩) (Nat.le_of_ble_eq_true rfl) (by omega) (by omega) dX1_readTags_2 ?_
  try simp only [KC_stF, SC_stF, stF_1, stF_2, stF_s, stF_at, stF_n]
  refine A_ifne_b (tgt := 10) dX1_readTags_5 (by decide) (fun h5 => ?_) (fun h5 => ?_)
  · refine A_aload_n dX1_readTags_10 rfl 0 rfl ?_
    refine A_iconst dX1_readTags_11 ?_
    refine A_Va1 mv_X1_50 lk_8 rfl rfl (c_X1_take _ _ _ ⟨by decide, by decide⟩) (Nat.le_of_ble_eq_true rfl) (by omega) (by omega) dX1_readTags_12 ?_
    try simp only [KC_stF, SC_stF, stF_1, stF_2, stF_s, stF_at, stF_n]
    refine A_ifeq_b (tgt := 31) dX1_readTags_15 (by decide) (fun h15 => ?_) (fun h15 => ?_)
    · refine A_iconst dX1_readTags_31 ?_
      refine A_istore_n (lv2 := [(1, _), (0, _)]) dX1_readTags_32 rfl (by decide) rfl ?_
      refine A_iconst dX1_readTags_33 ?_
      refine A_istore_n (lv2 := [(2, _), (1, _), (0, _)]) dX1_readTags_34 rfl (by decide) rfl ?_
      refine A_lv [0, 1, 2] rfl ?_
      exact w_X1_readTags σ 1500 0 false _ _ _ (by omega) (by omega) (by first | (simp [pTags, lp, pA, pO, andP, *]; done) | (simp_all [pTags, lp, pA, pO, andP]; done)) (by first | (simp [pTags, lp, pA, pO, andP, *]; done) | (simp_all [pTags, lp, pA, pO, andP]; done))
    · refine A_aload_n dX1_readTags_18 rfl 0 rfl ?_
      refine A_bipush dX1_readTags_19 (by decide +kernel) ?_
      refine A_Va1 mv_X1_50 lk_8 rfl rfl (c_X1_take _ _ _ ⟨by decide, by decide⟩) (Nat.le_of_ble_eq_true rfl) (by omega) (by omega) dX1_readTags_21 ?_
      try simp only [KC_stF, SC_stF, stF_1, stF_2, stF_s, stF_at, stF_n]
      refine A_ifeq_b (tgt := 31) dX1_readTags_24 (by decide) (fun h24 => ?_) (fun h24 => ?_)
      · refine A_iconst dX1_readTags_31 ?_
        refine A_istore_n (lv2 := [(1, _), (0, _)]) dX1_readTags_32 rfl (by decide) rfl ?_
        refine A_iconst dX1_readTags_33 ?_
        refine A_istore_n (lv2 := [(2, _), (1, _), (0, _)]) dX1_readTags_34 rfl (by decide) rfl ?_
        refine A_lv [0, 1, 2] rfl ?_
        exact w_X1_readTags σ 1500 0 false _ _ _ (by omega) (by omega) (by first | (simp [pTags, lp, pA, pO, andP, *]; done) | (simp_all [pTags, lp, pA, pO, andP]; done)) (by first | (simp [pTags, lp, pA, pO, andP, *]; done) | (simp_all [pTags, lp, pA, pO, andP]; done))
      · refine A_iconst dX1_readTags_27 ?_
        refine A_goto (tgt := 32) dX1_readTags_28 (by decide) ?_
        refine A_istore_n (lv2 := [(1, _), (0, _)]) dX1_readTags_32 rfl (by decide) rfl ?_
        refine A_iconst dX1_readTags_33 ?_
        refine A_istore_n (lv2 := [(2, _), (1, _), (0, _)]) dX1_readTags_34 rfl (by decide) rfl ?_
        refine A_lv [0, 1, 2] rfl ?_
        exact w_X1_readTags σ 1500 0 true _ _ _ (by omega) (by omega) (by first | (simp [pTags, lp, pA, pO, andP, *]; done) | (simp_all [pTags, lp, pA, pO, andP]; done)) (by first | (simp [pTags, lp, pA, pO, andP, *]; done) | (simp_all [pTags, lp, pA, pO, andP]; done))
  · refine A_iconst dX1_readTags_8 ?_
    exact A_zret2 dX1_readTags_9 (by decide) (by first | (simp [pTags, pA, pO, b2i_t, b2i_f, lp, *]; done) | (simp_all [pTags, pA, pO, b2i_t, b2i_f, lp]; done)) (by first | (simp [pTags, pA, pO, lp, *]; done) | (simp_all [pTags, pA, pO, lp]; done))
set_option maxRecDepth 100000 in
set_option maxHeartbeats 4000000 in
theorem c_X1_readFood (σ : Sg) (s : Pp)  : Ct l G yX1_readFood cX1_readFood 2 (some .boolean) 3 0 0 [.ref (lay G 8)] (stF σ s) (some (.int (I32 (b2i (pFood (KC σ) s).1)))) (stF σ (pFood (KC σ) s).2) := by
  refine Ct.of (by decide +kernel) (Nat.le_of_ble_eq_true rfl) (fun f => ?_)
  show AW _ _ _ _ _ _ _ _ _ _ [(0, _)] _ _
  refine A_aload_n dX1_readFood_0 rfl 0 rfl ?_
  refine A_iconst dX1_readFood_1 ?_
  refine A_Va1 mv_X1_50 lk_8 rfl rfl (c_X1_take _ _ _ ⟨by decide, by decide⟩) (Nat.le_of_ble_eq_true rfl) (by omega) (by omega) dX1_readFood_2 ?_
  try simp only [KC_stF, SC_stF, stF_1, stF_2, stF_s, stF_at, stF_n]
  refine A_ifeq_b (tgt := 30) dX1_readFood_5 (by decide) (fun h5 => ?_) (fun h5 => ?_)
  · refine A_iconst dX1_readFood_30 ?_
    refine A_istore_n (lv2 := [(1, _), (0, _)]) dX1_readFood_31 rfl (by decide) rfl ?_
    refine A_iload_n dX1_readFood_32 rfl 0 rfl ?_
    refine A_if_eq (tgt := 69) dX1_readFood_33 (by decide) ⟨by decide, by decide⟩ (fun _ => ?_) (fun h => absurd h (by decide))
    refine A_iload_n dX1_readFood_69 rfl 0 rfl ?_
    refine A_if_eq (tgt := 93) dX1_readFood_70 (by decide) ⟨by decide, by decide⟩ (fun _ => ?_) (fun h => absurd h (by decide))
    refine A_iconst dX1_readFood_93 ?_
    exact A_zret2 dX1_readFood_94 (by decide) (by first | (simp [pFood, pA, pO, b2i_t, b2i_f, *]; done) | (simp_all [pFood, pA, pO, b2i_t, b2i_f]; done)) (by first | (simp [pFood, pA, pO, *]; done) | (simp_all [pFood, pA, pO]; done))
  · refine A_aload_n dX1_readFood_8 rfl 0 rfl ?_
    refine A_bipush dX1_readFood_9 (by decide +kernel) ?_
    refine A_Va1 mv_X1_50 lk_8 rfl rfl (c_X1_take _ _ _ ⟨by decide, by decide⟩) (Nat.le_of_ble_eq_true rfl) (by omega) (by omega) dX1_readFood_11 ?_
    try simp only [KC_stF, SC_stF, stF_1, stF_2, stF_s, stF_at, stF_n]
    refine A_ifeq_b (tgt := 30) dX1_readFood_14 (by decide) (fun h14 => ?_) (fun h14 => ?_)
    · refine A_iconst dX1_readFood_30 ?_
      refine A_istore_n (lv2 := [(1, _), (0, _)]) dX1_readFood_31 rfl (by decide) rfl ?_
      refine A_iload_n dX1_readFood_32 rfl 0 rfl ?_
      refine A_if_eq (tgt := 69) dX1_readFood_33 (by decide) ⟨by decide, by decide⟩ (fun _ => ?_) (fun h => absurd h (by decide))
      refine A_iload_n dX1_readFood_69 rfl 0 rfl ?_
      refine A_if_eq (tgt := 93) dX1_readFood_70 (by decide) ⟨by decide, by decide⟩ (fun _ => ?_) (fun h => absurd h (by decide))
      refine A_iconst dX1_readFood_93 ?_
      exact A_zret2 dX1_readFood_94 (by decide) (by first | (simp [pFood, pA, pO, b2i_t, b2i_f, *]; done) | (simp_all [pFood, pA, pO, b2i_t, b2i_f]; done)) (by first | (simp [pFood, pA, pO, *]; done) | (simp_all [pFood, pA, pO]; done))
    · refine A_aload_n dX1_readFood_17 rfl 0 rfl ?_
      refine A_bipush dX1_readFood_18 (by decide +kernel) ?_
      refine A_Va1 mv_X1_50 lk_8 rfl rfl (c_X1_take _ _ _ ⟨by decide, by decide⟩) (Nat.le_of_ble_eq_true rfl) (by omega) (by omega) dX1_readFood_20 ?_
      try simp only [KC_stF, SC_stF, stF_1, stF_2, stF_s, stF_at, stF_n]
      refine A_ifeq_b (tgt := 30) dX1_readFood_23 (by decide) (fun h23 => ?_) (fun h23 => ?_)
      · refine A_iconst dX1_readFood_30 ?_
        refine A_istore_n (lv2 := [(1, _), (0, _)]) dX1_readFood_31 rfl (by decide) rfl ?_
        refine A_iload_n dX1_readFood_32 rfl 0 rfl ?_
        refine A_if_eq (tgt := 69) dX1_readFood_33 (by decide) ⟨by decide, by decide⟩ (fun _ => ?_) (fun h => absurd h (by decide))
        refine A_iload_n dX1_readFood_69 rfl 0 rfl ?_
        refine A_if_eq (tgt := 93) dX1_readFood_70 (by decide) ⟨by decide, by decide⟩ (fun _ => ?_) (fun h => absurd h (by decide))
        refine A_iconst dX1_readFood_93 ?_
        exact A_zret2 dX1_readFood_94 (by decide) (by first | (simp [pFood, pA, pO, b2i_t, b2i_f, *]; done) | (simp_all [pFood, pA, pO, b2i_t, b2i_f]; done)) (by first | (simp [pFood, pA, pO, *]; done) | (simp_all [pFood, pA, pO]; done))
      · refine A_iconst dX1_readFood_26 ?_
        refine A_goto (tgt := 31) dX1_readFood_27 (by decide) ?_
        refine A_istore_n (lv2 := [(1, _), (0, _)]) dX1_readFood_31 rfl (by decide) rfl ?_
        refine A_iload_n dX1_readFood_32 rfl 0 rfl ?_
        refine A_if_eq (tgt := 69) dX1_readFood_33 (by decide) ⟨by decide, by decide⟩ (fun h => absurd h (by decide)) (fun _ => ?_)
        refine A_aload_n dX1_readFood_36 rfl 1 rfl ?_
        refine A_bipush dX1_readFood_37 (by decide +kernel) ?_
        refine A_Va1 mv_X1_23 lk_8 rfl rfl (c_X1_isKind _ _ _ ⟨by decide, by decide⟩) (Nat.le_of_ble_eq_true rfl) (by omega) (by omega) dX1_readFood_39 ?_
        try simp only [KC_stF, SC_stF, stF_1, stF_2, stF_s, stF_at, stF_n]
        refine A_ifeq_b (tgt := 69) dX1_readFood_42 (by decide) (fun h42 => ?_) (fun h42 => ?_)
        · refine A_iload_n dX1_readFood_69 rfl 0 rfl ?_
          refine A_if_eq (tgt := 93) dX1_readFood_70 (by decide) ⟨by decide, by decide⟩ (fun h => absurd h (by decide)) (fun _ => ?_)
          refine A_aload_n dX1_readFood_73 rfl 1 rfl ?_
          refine A_Va0 mv_X1_53 lk_8 rfl rfl (c_X1_readTags _ _) (Nat.le_of_ble_eq_true rfl) (by omega) (by omega) dX1_readFood_74 ?_
          try simp only [KC_stF, SC_stF, stF_1, stF_2, stF_s, stF_at, stF_n]
          refine A_ifeq_b (tgt := 93) dX1_readFood_77 (by decide) (fun h77 => ?_) (fun h77 => ?_)
          · refine A_iconst dX1_readFood_93 ?_
            exact A_zret2 dX1_readFood_94 (by decide) (by first | (simp [pFood, pA, pO, b2i_t, b2i_f, *]; done) | (simp_all [pFood, pA, pO, b2i_t, b2i_f]; done)) (by first | (simp [pFood, pA, pO, *]; done) | (simp_all [pFood, pA, pO]; done))
          · refine A_aload_n dX1_readFood_80 rfl 1 rfl ?_
            refine A_bipush dX1_readFood_81 (by decide +kernel) ?_
            refine A_Va1 mv_X1_50 lk_8 rfl rfl (c_X1_take _ _ _ ⟨by decide, by decide⟩) (Nat.le_of_ble_eq_true rfl) (by omega) (by omega) dX1_readFood_83 ?_
            try simp only [KC_stF, SC_stF, stF_1, stF_2, stF_s, stF_at, stF_n]
            refine A_ifeq_b (tgt := 93) dX1_readFood_86 (by decide) (fun h86 => ?_) (fun h86 => ?_)
            · refine A_iconst dX1_readFood_93 ?_
              exact A_zret2 dX1_readFood_94 (by decide) (by first | (simp [pFood, pA, pO, b2i_t, b2i_f, *]; done) | (simp_all [pFood, pA, pO, b2i_t, b2i_f]; done)) (by first | (simp [pFood, pA, pO, *]; done) | (simp_all [pFood, pA, pO]; done))
            · refine A_iconst dX1_readFood_89 ?_
              refine A_goto (tgt := 94) dX1_readFood_90 (by decide) ?_
              exact A_zret2 dX1_readFood_94 (by decide) (by first | (simp [pFood, pA, pO, b2i_t, b2i_f, *]; done) | (simp_all [pFood, pA, pO, b2i_t, b2i_f]; done)) (by first | (simp [pFood, pA, pO, *]; done) | (simp_all [pFood, pA, pO]; done))
        · refine A_aload_n dX1_readFood_45 rfl 1 rfl ?_
          refine A_bipush dX1_readFood_46 (by decide +kernel) ?_
          refine A_Va1 mv_X1_50 lk_8 rfl rfl (c_X1_take _ _ _ ⟨by decide, by decide⟩) (Nat.le_of_ble_eq_true rfl) (by omega) (by omega) dX1_readFood_48 ?_
          try simp only [KC_stF, SC_stF, stF_1, stF_2, stF_s, stF_at, stF_n]
          refine A_ifeq_b (tgt := 67) dX1_readFood_51 (by decide) (fun h51 => ?_) (fun h51 => ?_)
          · refine A_iconst dX1_readFood_67 ?_
            refine A_istore_n (lv2 := [(1, _), (0, _)]) dX1_readFood_68 rfl (by decide) rfl ?_
            refine A_iload_n dX1_readFood_69 rfl 0 rfl ?_
            refine A_if_eq (tgt := 93) dX1_readFood_70 (by decide) ⟨by decide, by decide⟩ (fun _ => ?_) (fun h => absurd h (by decide))
            refine A_iconst dX1_readFood_93 ?_
            exact A_zret2 dX1_readFood_94 (by decide) (by first | (simp [pFood, pA, pO, b2i_t, b2i_f, *]; done) | (simp_all [pFood, pA, pO, b2i_t, b2i_f]; done)) (by first | (simp [pFood, pA, pO, *]; done) | (simp_all [pFood, pA, pO]; done))
          · refine A_aload_n dX1_readFood_54 rfl 1 rfl ?_
            refine A_bipush dX1_readFood_55 (by decide +kernel) ?_
            refine A_Va1 mv_X1_50 lk_8 rfl rfl (c_X1_take _ _ _ ⟨by decide, by decide⟩) (Nat.le_of_ble_eq_true rfl) (by omega) (by omega) dX1_readFood_57 ?_
            try simp only [KC_stF, SC_stF, stF_1, stF_2, stF_s, stF_at, stF_n]
            refine A_ifeq_b (tgt := 67) dX1_readFood_60 (by decide) (fun h60 => ?_) (fun h60 => ?_)
            · refine A_iconst dX1_readFood_67 ?_
              refine A_istore_n (lv2 := [(1, _), (0, _)]) dX1_readFood_68 rfl (by decide) rfl ?_
              refine A_iload_n dX1_readFood_69 rfl 0 rfl ?_
              refine A_if_eq (tgt := 93) dX1_readFood_70 (by decide) ⟨by decide, by decide⟩ (fun _ => ?_) (fun h => absurd h (by decide))
              refine A_iconst dX1_readFood_93 ?_
              exact A_zret2 dX1_readFood_94 (by decide) (by first | (simp [pFood, pA, pO, b2i_t, b2i_f, *]; done) | (simp_all [pFood, pA, pO, b2i_t, b2i_f]; done)) (by first | (simp [pFood, pA, pO, *]; done) | (simp_all [pFood, pA, pO]; done))
            · refine A_iconst dX1_readFood_63 ?_
              refine A_goto (tgt := 68) dX1_readFood_64 (by decide) ?_
              refine A_istore_n (lv2 := [(1, _), (0, _)]) dX1_readFood_68 rfl (by decide) rfl ?_
              refine A_iload_n dX1_readFood_69 rfl 0 rfl ?_
              refine A_if_eq (tgt := 93) dX1_readFood_70 (by decide) ⟨by decide, by decide⟩ (fun h => absurd h (by decide)) (fun _ => ?_)
              refine A_aload_n dX1_readFood_73 rfl 1 rfl ?_
              refine A_Va0 mv_X1_53 lk_8 rfl rfl (c_X1_readTags _ _) (Nat.le_of_ble_eq_true rfl) (by omega) (by omega) dX1_readFood_74 ?_
              try simp only [KC_stF, SC_stF, stF_1, stF_2, stF_s, stF_at, stF_n]
              refine A_ifeq_b (tgt := 93) dX1_readFood_77 (by decide) (fun h77 => ?_) (fun h77 => ?_)
              · refine A_iconst dX1_readFood_93 ?_
                exact A_zret2 dX1_readFood_94 (by decide) (by first | (simp [pFood, pA, pO, b2i_t, b2i_f, *]; done) | (simp_all [pFood, pA, pO, b2i_t, b2i_f]; done)) (by first | (simp [pFood, pA, pO, *]; done) | (simp_all [pFood, pA, pO]; done))
              · refine A_aload_n dX1_readFood_80 rfl 1 rfl ?_
                refine A_bipush dX1_readFood_81 (by decide +kernel) ?_
                refine A_Va1 mv_X1_50 lk_8 rfl rfl (c_X1_take _ _ _ ⟨by decide, by decide⟩) (Nat.le_of_ble_eq_true rfl) (by omega) (by omega) dX1_readFood_83 ?_
                try simp only [KC_stF, SC_stF, stF_1, stF_2, stF_s, stF_at, stF_n]
                refine A_ifeq_b (tgt := 93) dX1_readFood_86 (by decide) (fun h86 => ?_) (fun h86 => ?_)
                · refine A_iconst dX1_readFood_93 ?_
                  exact A_zret2 dX1_readFood_94 (by decide) (by first | (simp [pFood, pA, pO, b2i_t, b2i_f, *]; done) | (simp_all [pFood, pA, pO, b2i_t, b2i_f]; done)) (by first | (simp [pFood, pA, pO, *]; done) | (simp_all [pFood, pA, pO]; done))
                · refine A_iconst dX1_readFood_89 ?_
                  refine A_goto (tgt := 94) dX1_readFood_90 (by decide) ?_
                  exact A_zret2 dX1_readFood_94 (by decide) (by first | (simp [pFood, pA, pO, b2i_t, b2i_f, *]; done) | (simp_all [pFood, pA, pO, b2i_t, b2i_f]; done)) (by first | (simp [pFood, pA, pO, *]; done) | (simp_all [pFood, pA, pO]; done))
set_option maxRecDepth 100000 in
set_option maxHeartbeats 4000000 in
theorem w_X1_readDish {f : Fm} (σ : Sg)  : ∀ (n : Nat) (i : Int) (p : Bool) (s : Pp) (r : Option Value) (σ1 : Sg), 0 ≤ i → i + n = 1500 → r = some (.int (I32 (b2i (andP (lp p (KC σ) 19 (pA (pT (KC σ) 19) (pPart (KC σ))) n s) (pA (pTags (KC σ)) (pT (KC σ) 17))).1))) → σ1 = stF σ (andP (lp p (KC σ) 19 (pA (pT (KC σ) 19) (pPart (KC σ))) n s) (pA (pTags (KC σ)) (pT (KC σ) 17))).2 → AW l G f (RX1, cX1_readDish, 3, (some .boolean)) (3, 0, 0) (QT G f 0 0 r σ1) [] 0 0 58 [(2, .int (I32 i)), (1, .int (I32 (b2i p))), (0, .ref (lay G 8))] [] (stF σ s) := by
  intro n
  induction n using Nat.strongRecOn with | _ n ih =>
  intro i p s r σ1 h0 hn hr hs
  refine A_iload_n dX1_readDish_58 rfl 0 rfl ?_
  refine A_sipush dX1_readDish_59 (by decide +kernel) ?_
  refine J_icmp_ge (tgt := 106) dX1_readDish_62 (by decide) (by first | with_reducible exact i32_eq (KC_inr _ _) | exact i32_eq (by assumption) | exact i32_eq ⟨by omega, by omega⟩ | with_reducible exact i32_i32 _ | rfl) (by first | with_reducible exact i32_eq (KC_inr _ _) | exact i32_eq (by assumption) | exact i32_eq ⟨by omega, by omega⟩ | with_reducible exact i32_i32 _ | rfl) (fun h62 => ?_) (fun h62 => ?_)
  · refine A_iload_n dX1_readDish_106 rfl 1 rfl ?_
    refine A_ifeq_b (tgt := 130) dX1_readDish_107 (by decide) (fun h107 => ?_) (fun h107 => ?_)
    · refine A_iconst dX1_readDish_130 ?_
      exact A_zret2 dX1_readDish_131 (by decide) (by rw [hr]; clear ih; rcases n with _ | n <;> cases p <;> simp_all [lp, pR, pA, andP, b2i_t, b2i_f] <;> omega) (by rw [hs]; clear ih; rcases n with _ | n <;> cases p <;> simp_all [lp, pR, pA, andP, b2i_t, b2i_f] <;> omega)
    · refine A_aload_n dX1_readDish_110 rfl 2 rfl ?_
      refine A_Va0 mv_X1_53 lk_8 rfl rfl (c_X1_readTags _ _) (Nat.le_of_ble_eq_true rfl) (by omega) (by omega) dX1_readDish_111 ?_
      try simp only [KC_stF, SC_stF, stF_1, stF_2, stF_s, stF_at, stF_n]
      refine A_ifeq_b (tgt := 130) dX1_readDish_114 (by decide) (fun h114 => ?_) (fun h114 => ?_)
      · refine A_iconst dX1_readDish_130 ?_
        exact A_zret2 dX1_readDish_131 (by decide) (by rw [hr]; clear ih; rcases n with _ | n <;> cases p <;> simp_all [lp, pR, pA, andP, b2i_t, b2i_f] <;> omega) (by rw [hs]; clear ih; rcases n with _ | n <;> cases p <;> simp_all [lp, pR, pA, andP, b2i_t, b2i_f] <;> omega)
      · refine A_aload_n dX1_readDish_117 rfl 2 rfl ?_
        refine A_bipush dX1_readDish_118 (by decide +kernel) ?_
        refine A_Va1 mv_X1_50 lk_8 rfl rfl (c_X1_take _ _ _ ⟨by decide, by decide⟩) (Nat.le_of_ble_eq_true rfl) (by omega) (by omega) dX1_readDish_120 ?_
        try simp only [KC_stF, SC_stF, stF_1, stF_2, stF_s, stF_at, stF_n]
        refine A_ifeq_b (tgt := 130) dX1_readDish_123 (by decide) (fun h123 => ?_) (fun h123 => ?_)
        · refine A_iconst dX1_readDish_130 ?_
          exact A_zret2 dX1_readDish_131 (by decide) (by rw [hr]; clear ih; rcases n with _ | n <;> cases p <;> simp_all [lp, pR, pA, andP, b2i_t, b2i_f] <;> omega) (by rw [hs]; clear ih; rcases n with _ | n <;> cases p <;> simp_all [lp, pR, pA, andP, b2i_t, b2i_f] <;> omega)
        · refine A_iconst dX1_readDish_126 ?_
          refine A_goto (tgt := 131) dX1_readDish_127 (by decide) ?_
          exact A_zret2 dX1_readDish_131 (by decide) (by rw [hr]; clear ih; rcases n with _ | n <;> cases p <;> simp_all [lp, pR, pA, andP, b2i_t, b2i_f] <;> omega) (by rw [hs]; clear ih; rcases n with _ | n <;> cases p <;> simp_all [lp, pR, pA, andP, b2i_t, b2i_f] <;> omega)
  · refine A_iload_n dX1_readDish_65 rfl 1 rfl ?_
    refine A_ifeq_b (tgt := 106) dX1_readDish_66 (by decide) (fun h66 => ?_) (fun h66 => ?_)
    · refine A_iload_n dX1_readDish_106 rfl 1 rfl ?_
      refine A_ifeq_b (tgt := 130) dX1_readDish_107 (by decide) (fun h107 => ?_) (fun h107 => ?_)
      · refine A_iconst dX1_readDish_130 ?_
        exact A_zret2 dX1_readDish_131 (by decide) (by rw [hr]; clear ih; rcases n with _ | n <;> cases p <;> simp_all [lp, pR, pA, andP, b2i_t, b2i_f] <;> omega) (by rw [hs]; clear ih; rcases n with _ | n <;> cases p <;> simp_all [lp, pR, pA, andP, b2i_t, b2i_f] <;> omega)
      · refine A_aload_n dX1_readDish_110 rfl 2 rfl ?_
        refine A_Va0 mv_X1_53 lk_8 rfl rfl (c_X1_readTags _ _) (Nat.le_of_ble_eq_true rfl) (by omega) (by omega) dX1_readDish_111 ?_
        try simp only [KC_stF, SC_stF, stF_1, stF_2, stF_s, stF_at, stF_n]
        refine A_ifeq_b (tgt := 130) dX1_readDish_114 (by decide) (fun h114 => ?_) (fun h114 => ?_)
        · refine A_iconst dX1_readDish_130 ?_
          exact A_zret2 dX1_readDish_131 (by decide) (by rw [hr]; clear ih; rcases n with _ | n <;> cases p <;> simp_all [lp, pR, pA, andP, b2i_t, b2i_f] <;> omega) (by rw [hs]; clear ih; rcases n with _ | n <;> cases p <;> simp_all [lp, pR, pA, andP, b2i_t, b2i_f] <;> omega)
        · refine A_aload_n dX1_readDish_117 rfl 2 rfl ?_
          refine A_bipush dX1_readDish_118 (by decide +kernel) ?_
          refine A_Va1 mv_X1_50 lk_8 rfl rfl (c_X1_take _ _ _ ⟨by decide, by decide⟩) (Nat.le_of_ble_eq_true rfl) (by omega) (by omega) dX1_readDish_120 ?_
          try simp only [KC_stF, SC_stF, stF_1, stF_2, stF_s, stF_at, stF_n]
          refine A_ifeq_b (tgt := 130) dX1_readDish_123 (by decide) (fun h123 => ?_) (fun h123 => ?_)
          · refine A_iconst dX1_readDish_130 ?_
            exact A_zret2 dX1_readDish_131 (by decide) (by rw [hr]; clear ih; rcases n with _ | n <;> cases p <;> simp_all [lp, pR, pA, andP, b2i_t, b2i_f] <;> omega) (by rw [hs]; clear ih; rcases n with _ | n <;> cases p <;> simp_all [lp, pR, pA, andP, b2i_t, b2i_f] <;> omega)
          · refine A_iconst dX1_readDish_126 ?_
            refine A_goto (tgt := 131) dX1_readDish_127 (by decide) ?_
            exact A_zret2 dX1_readDish_131 (by decide) (by rw [hr]; clear ih; rcases n with _ | n <;> cases p <;> simp_all [lp, pR, pA, andP, b2i_t, b2i_f] <;> omega) (by rw [hs]; clear ih; rcases n with _ | n <;> cases p <;> simp_all [lp, pR, pA, andP, b2i_t, b2i_f] <;> omega)
    · refine A_aload_n dX1_readDish_69 rfl 2 rfl ?_
      refine A_bipush dX1_readDish_70 (by decide +kernel) ?_
      refine A_Va1 mv_X1_23 lk_8 rfl rfl (c_X1_isKind _ _ _ ⟨by decide, by decide⟩) (Nat.le_of_ble_eq_true rfl) (by omega) (by omega) dX1_readDish_72 ?_
      try simp only [KC_stF, SC_stF, stF_1, stF_2, stF_s, stF_at, stF_n]
      refine A_ifeq_b (tgt := 106) dX1_readDish_75 (by decide) (fun h75 => ?_) (fun h75 => ?_)
      · refine A_iload_n dX1_readDish_106 rfl 1 rfl ?_
        refine A_ifeq_b (tgt := 130) dX1_readDish_107 (by decide) (fun h107 => ?_) (fun h107 => ?_)
        · refine A_iconst dX1_readDish_130 ?_
          exact A_zret2 dX1_readDish_131 (by decide) (by rw [hr]; clear ih; rcases n with _ | n <;> cases p <;> simp_all [lp, pR, pA, andP, b2i_t, b2i_f] <;> omega) (by rw [hs]; clear ih; rcases n with _ | n <;> cases p <;> simp_all [lp, pR, pA, andP, b2i_t, b2i_f] <;> omega)
        · refine A_aload_n dX1_readDish_110 rfl 2 rfl ?_
          refine A_Va0 mv_X1_53 lk_8 rfl rfl (c_X1_readTags _ _) (Nat.le_of_ble_eq_true rfl) (by omega) (by omega) dX1_readDish_111 ?_
          try simp only [KC_stF, SC_stF, stF_1, stF_2, stF_s, stF_at, stF_n]
          refine A_ifeq_b (tgt := 130) dX1_readDish_114 (by decide) (fun h114 => ?_) (fun h114 => ?_)
          · refine A_iconst dX1_readDish_130 ?_
            exact A_zret2 dX1_readDish_131 (by decide) (by rw [hr]; clear ih; rcases n with _ | n <;> cases p <;> simp_all [lp, pR, pA, andP, b2i_t, b2i_f] <;> omega) (by rw [hs]; clear ih; rcases n with _ | n <;> cases p <;> simp_all [lp, pR, pA, andP, b2i_t, b2i_f] <;> omega)
          · refine A_aload_n dX1_readDish_117 rfl 2 rfl ?_
            refine A_bipush dX1_readDish_118 (by decide +kernel) ?_
            refine A_Va1 mv_X1_50 lk_8 rfl rfl (c_X1_take _ _ _ ⟨by decide, by decide⟩) (Nat.le_of_ble_eq_true rfl) (by omega) (by omega) dX1_readDish_120 ?_
            try simp only [KC_stF, SC_stF, stF_1, stF_2, stF_s, stF_at, stF_n]
            refine A_ifeq_b (tgt := 130) dX1_readDish_123 (by decide) (fun h123 => ?_) (fun h123 => ?_)
            · refine A_iconst dX1_readDish_130 ?_
              exact A_zret2 dX1_readDish_131 (by decide) (by rw [hr]; clear ih; rcases n with _ | n <;> cases p <;> simp_all [lp, pR, pA, andP, b2i_t, b2i_f] <;> omega) (by rw [hs]; clear ih; rcases n with _ | n <;> cases p <;> simp_all [lp, pR, pA, andP, b2i_t, b2i_f] <;> omega)
            · refine A_iconst dX1_readDish_126 ?_
              refine A_goto (tgt := 131) dX1_readDish_127 (by decide) ?_
              exact A_zret2 dX1_readDish_131 (by decide) (by rw [hr]; clear ih; rcases n with _ | n <;> cases p <;> simp_all [lp, pR, pA, andP, b2i_t, b2i_f] <;> omega) (by rw [hs]; clear ih; rcases n with _ | n <;> cases p <;> simp_all [lp, pR, pA, andP, b2i_t, b2i_f] <;> omega)
      · refine A_aload_n dX1_readDish_78 rfl 2 rfl ?_
        refine A_bipush dX1_readDish_79 (by decide +kernel) ?_
        refine A_Va1 mv_X1_50 lk_8 rfl rfl (c_X1_take _ _ _ ⟨by decide, by decide⟩) (Nat.le_of_ble_eq_true rfl) (by omega) (by omega) dX1_readDish_81 ?_
        try simp only [KC_stF, SC_stF, stF_1, stF_2, stF_s, stF_at, stF_n]
        refine A_ifeq_b (tgt := 98) dX1_readDish_84 (by decide) (fun h84 => ?_) (fun h84 => ?_)
        · refine A_iconst dX1_readDish_98 ?_
          refine A_istore_n (lv2 := [(1, _), (2, _), (0, _)]) dX1_readDish_99 rfl (by decide) rfl ?_
          refine A_iinc (lv2 := [(2, _), (1, _), (0, _)]) dX1_readDish_100 1 rfl (by decide) rfl ?_
          refine A_goto (tgt := 58) dX1_readDish_103 (by decide) ?_
          refine A_lv [0, 1, 2] rfl ?_
          exact ih (n - 1) (by omega) (i + 1) false _ r σ1 (by omega) (by omega) (by rw [hr]; obtain ⟨n, rfl⟩ : ∃ q, n = q + 1 := ⟨n - 1, by omega⟩; first | (simp [lp, pR, pA, *]; done) | (clear ih; simp_all [lp, pR, pA]; done)) (by rw [hs]; obtain ⟨n, rfl⟩ : ∃ q, n = q + 1 := ⟨n - 1, by omega⟩; first | (simp [lp, pR, pA, *]; done) | (clear ih; simp_all [lp, pR, pA]; done))
        · refine A_aload_n dX1_readDish_87 rfl 2 rfl ?_
          refine A_Va0 mv_X1_56 lk_8 rfl rfl (c_X1_readPart _ _) (Nat.le_of_ble_eq_true rfl) (by omega) (by omega) dX1_readDish_88 ?_
          try simp only [KC_stF, SC_stF, stF_1, stF_2, stF_s, stF_at, stF_n]
          refine A_ifeq_b (tgt := 98) dX1_readDish_91 (by decide) (fun h91 => ?_) (fun h91 => ?_)
          · refine A_iconst dX1_readDish_98 ?_
            refine A_istore_n (lv2 := [(1, _), (2, _), (0, _)]) dX1_readDish_99 rfl (by decide) rfl ?_
            refine A_iinc (lv2 := [(2, _), (1, _), (0, _)]) dX1_readDish_100 1 rfl (by decide) rfl ?_
            refine A_goto (tgt := 58) dX1_readDish_103 (by decide) ?_
            refine A_lv [0, 1, 2] rfl ?_
            exact ih (n - 1) (by omega) (i + 1) false _ r σ1 (by omega) (by omega) (by rw [hr]; obtain ⟨n, rfl⟩ : ∃ q, n = q + 1 := ⟨n - 1, by omega⟩; first | (simp [lp, pR, pA, *]; done) | (clear ih; simp_all [lp, pR, pA]; done)) (by rw [hs]; obtain ⟨n, rfl⟩ : ∃ q, n = q + 1 := ⟨n - 1, by omega⟩; first | (simp [lp, pR, pA, *]; done) | (clear ih; simp_all [lp, pR, pA]; done))
          · refine A_iconst dX1_readDish_94 ?_
            refine A_goto (tgt := 99) dX1_readDish_95 (by decide) ?_
            refine A_istore_n (lv2 := [(1, _), (2, _), (0, _)]) dX1_readDish_99 rfl (by decide) rfl ?_
            refine A_iinc (lv2 := [(2, _), (1, _), (0, _)]) dX1_readDish_100 1 rfl (by decide) rfl ?_
            refine A_goto (tgt := 58) dX1_readDish_103 (by decide) ?_
            refine A_lv [0, 1, 2] rfl ?_
            exact ih (n - 1) (by omega) (i + 1) true _ r σ1 (by omega) (by omega) (by rw [hr]; obtain ⟨n, rfl⟩ : ∃ q, n = q + 1 := ⟨n - 1, by omega⟩; first | (simp [lp, pR, pA, *]; done) | (clear ih; simp_all [lp, pR, pA]; done)) (by rw [hs]; obtain ⟨n, rfl⟩ : ∃ q, n = q + 1 := ⟨n - 1, by omega⟩; first | (simp [lp, pR, pA, *]; done) | (clear ih; simp_all [lp, pR, pA]; done))
set_option maxRecDepth 100000 in
set_option maxHeartbeats 4000000 in
theorem c_X1_readDish (σ : Sg) (s : Pp)  : Ct l G yX1_readDish cX1_readDish 3 (some .boolean) 3 0 0 [.ref (lay G 8)] (stF σ s) (some (.int (I32 (b2i (pDish (KC σ) s).1)))) (stF σ (pDish (KC σ) s).2) := by
  refine Ct.of (by decide +kernel) (Nat.le_of_ble_eq_true rfl) (fun f => ?_)
  show AW _ _ _ _ _ _ _ _ _ _ [(0, _)] _ _
  refine A_aload_n dX1_readDish_0 rfl 0 rfl ?_
  refine A_iconst dX1_readDish_1 ?_
  refine A_Va1 mv_X1_50 lk_8 rfl rfl (c_X1_take _ _ _ ⟨by decide, by decide⟩) (Nat.le_of_ble_eq_true rfl) (by omega) (by omega) dX1_readDish_2 ?_
  try simp only [KC_stF, SC_stF, stF_1, stF_2, stF_s, stF_at, stF_n]
  refine A_ifeq_b (tgt := 54) dX1_readDish_5 (by decide) (fun h5 => ?_) (fun h5 => ?_)
  · refine A_iconst dX1_readDish_54 ?_
    refine A_istore_n (lv2 := [(1, _), (0, _)]) dX1_readDish_55 rfl (by decide) rfl ?_
    refine A_iconst dX1_readDish_56 ?_
    refine A_istore_n (lv2 := [(2, _), (1, _), (0, _)]) dX1_readDish_57 rfl (by decide) rfl ?_
    refine A_lv [0, 1, 2] rfl ?_
    exact w_X1_readDish σ 1500 0 false _ _ _ (by omega) (by omega) (by first | (simp [pDish, lp, pA, pO, andP, *]; done) | (simp_all [pDish, lp, pA, pO, andP]; done)) (by first | (simp [pDish, lp, pA, pO, andP, *]; done) | (simp_all [pDish, lp, pA, pO, andP]; done))
  · refine A_aload_n dX1_readDish_8 rfl 0 rfl ?_
    refine A_bipush dX1_readDish_9 (by decide +kernel) ?_
    refine A_Va1 mv_X1_50 lk_8 rfl rfl (c_X1_take _ _ _ ⟨by decide, by decide⟩) (Nat.le_of_ble_eq_true rfl) (by omega) (by omega) dX1_readDish_11 ?_
    try simp only [KC_stF, SC_stF, stF_1, stF_2, stF_s, stF_at, stF_n]
    refine A_ifeq_b (tgt := 54) dX1_readDish_14 (by decide) (fun h14 => ?_) (fun h14 => ?_)
    · refine A_iconst dX1_readDish_54 ?_
      refine A_istore_n (lv2 := [(1, _), (0, _)]) dX1_readDish_55 rfl (by decide) rfl ?_
      refine A_iconst dX1_readDish_56 ?_
      refine A_istore_n (lv2 := [(2, _), (1, _), (0, _)]) dX1_readDish_57 rfl (by decide) rfl ?_
      refine A_lv [0, 1, 2] rfl ?_
      exact w_X1_readDish σ 1500 0 false _ _ _ (by omega) (by omega) (by first | (simp [pDish, lp, pA, pO, andP, *]; done) | (simp_all [pDish, lp, pA, pO, andP]; done)) (by first | (simp [pDish, lp, pA, pO, andP, *]; done) | (simp_all [pDish, lp, pA, pO, andP]; done))
    · refine A_aload_n dX1_readDish_17 rfl 0 rfl ?_
      refine A_iconst dX1_readDish_18 ?_
      refine A_Va1 mv_X1_50 lk_8 rfl rfl (c_X1_take _ _ _ ⟨by decide, by decide⟩) (Nat.le_of_ble_eq_true rfl) (by omega) (by omega) dX1_readDish_19 ?_
      try simp only [KC_stF, SC_stF, stF_1, stF_2, stF_s, stF_at, stF_n]
      refine A_ifeq_b (tgt := 54) dX1_readDish_22 (by decide) (fun h22 => ?_) (fun h22 => ?_)
      · refine A_iconst dX1_readDish_54 ?_
        refine A_istore_n (lv2 := [(1, _), (0, _)]) dX1_readDish_55 rfl (by decide) rfl ?_
        refine A_iconst dX1_readDish_56 ?_
        refine A_istore_n (lv2 := [(2, _), (1, _), (0, _)]) dX1_readDish_57 rfl (by decide) rfl ?_
        refine A_lv [0, 1, 2] rfl ?_
        exact w_X1_readDish σ 1500 0 false _ _ _ (by omega) (by omega) (by first | (simp [pDish, lp, pA, pO, andP, *]; done) | (simp_all [pDish, lp, pA, pO, andP]; done)) (by first | (simp [pDish, lp, pA, pO, andP, *]; done) | (simp_all [pDish, lp, pA, pO, andP]; done))
      · refine A_aload_n dX1_readDish_25 rfl 0 rfl ?_
        refine A_bipush dX1_readDish_26 (by decide +kernel) ?_
        refine A_Va1 mv_X1_50 lk_8 rfl rfl (c_X1_take _ _ _ ⟨by decide, by decide⟩) (Nat.le_of_ble_eq_true rfl) (by omega) (by omega) dX1_readDish_28 ?_
        try simp only [KC_stF, SC_stF, stF_1, stF_2, stF_s, stF_at, stF_n]
        refine A_ifeq_b (tgt := 54) dX1_readDish_31 (by decide) (fun h31 => ?_) (fun h31 => ?_)
        · refine A_iconst dX1_readDish_54 ?_
          refine A_istore_n (lv2 := [(1, _), (0, _)]) dX1_readDish_55 rfl (by decide) rfl ?_
          refine A_iconst dX1_readDish_56 ?_
          refine A_istore_n (lv2 := [(2, _), (1, _), (0, _)]) dX1_readDish_57 rfl (by decide) rfl ?_
          refine A_lv [0, 1, 2] rfl ?_
          exact w_X1_readDish σ 1500 0 false _ _ _ (by omega) (by omega) (by first | (simp [pDish, lp, pA, pO, andP, *]; done) | (simp_all [pDish, lp, pA, pO, andP]; done)) (by first | (simp [pDish, lp, pA, pO, andP, *]; done) | (simp_all [pDish, lp, pA, pO, andP]; done))
        · refine A_aload_n dX1_readDish_34 rfl 0 rfl ?_
          refine A_bipush dX1_readDish_35 (by decide +kernel) ?_
          refine A_Va1 mv_X1_50 lk_8 rfl rfl (c_X1_take _ _ _ ⟨by decide, by decide⟩) (Nat.le_of_ble_eq_true rfl) (by omega) (by omega) dX1_readDish_37 ?_
          try simp only [KC_stF, SC_stF, stF_1, stF_2, stF_s, stF_at, stF_n]
          refine A_ifeq_b (tgt := 54) dX1_readDish_40 (by decide) (fun h40 => ?_) (fun h40 => ?_)
          · refine A_iconst dX1_readDish_54 ?_
            refine A_istore_n (lv2 := [(1, _), (0, _)]) dX1_readDish_55 rfl (by decide) rfl ?_
            refine A_iconst dX1_readDish_56 ?_
            refine A_istore_n (lv2 := [(2, _), (1, _), (0, _)]) dX1_readDish_57 rfl (by decide) rfl ?_
            refine A_lv [0, 1, 2] rfl ?_
            exact w_X1_readDish σ 1500 0 false _ _ _ (by omega) (by omega) (by first | (simp [pDish, lp, pA, pO, andP, *]; done) | (simp_all [pDish, lp, pA, pO, andP]; done)) (by first | (simp [pDish, lp, pA, pO, andP, *]; done) | (simp_all [pDish, lp, pA, pO, andP]; done))
          · refine A_aload_n dX1_readDish_43 rfl 0 rfl ?_
            refine A_Va0 mv_X1_56 lk_8 rfl rfl (c_X1_readPart _ _) (Nat.le_of_ble_eq_true rfl) (by omega) (by omega) dX1_readDish_44 ?_
            try simp only [KC_stF, SC_stF, stF_1, stF_2, stF_s, stF_at, stF_n]
            refine A_ifeq_b (tgt := 54) dX1_readDish_47 (by decide) (fun h47 => ?_) (fun h47 => ?_)
            · refine A_iconst dX1_readDish_54 ?_
              refine A_istore_n (lv2 := [(1, _), (0, _)]) dX1_readDish_55 rfl (by decide) rfl ?_
              refine A_iconst dX1_readDish_56 ?_
              refine A_istore_n (lv2 := [(2, _), (1, _), (0, _)]) dX1_readDish_57 rfl (by decide) rfl ?_
              refine A_lv [0, 1, 2] rfl ?_
              exact w_X1_readDish σ 1500 0 false _ _ _ (by omega) (by omega) (by first | (simp [pDish, lp, pA, pO, andP, *]; done) | (simp_all [pDish, lp, pA, pO, andP]; done)) (by first | (simp [pDish, lp, pA, pO, andP, *]; done) | (simp_all [pDish, lp, pA, pO, andP]; done))
            · refine A_iconst dX1_readDish_50 ?_
              refine A_goto (tgt := 55) dX1_readDish_51 (by decide) ?_
              refine A_istore_n (lv2 := [(1, _), (0, _)]) dX1_readDish_55 rfl (by decide) rfl ?_
              refine A_iconst dX1_readDish_56 ?_
              refine A_istore_n (lv2 := [(2, _), (1, _), (0, _)]) dX1_readDish_57 rfl (by decide) rfl ?_
              refine A_lv [0, 1, 2] rfl ?_
              exact w_X1_readDish σ 1500 0 true _ _ _ (by omega) (by omega) (by first | (simp [pDish, lp, pA, pO, andP, *]; done) | (simp_all [pDish, lp, pA, pO, andP]; done)) (by first | (simp [pDish, lp, pA, pO, andP, *]; done) | (simp_all [pDish, lp, pA, pO, andP]; done))
set_option maxRecDepth 100000 in
set_option maxHeartbeats 4000000 in
theorem c_X1_readRule (σ : Sg) (s : Pp)  : Ct l G yX1_readRule cX1_readRule 1 (some .boolean) 3 0 0 [.ref (lay G 8)] (stF σ s) (some (.int (I32 (b2i (pRule (KC σ) s).1)))) (stF σ (pRule (KC σ) s).2) := by
  refine Ct.of (by decide +kernel) (Nat.le_of_ble_eq_true rfl) (fun f => ?_)
  show AW _ _ _ _ _ _ _ _ _ _ [(0, _)] _ _
  refine A_aload_n dX1_readRule_0 rfl 0 rfl ?_
  refine A_bipush dX1_readRule_1 (by decide +kernel) ?_
  refine A_Va1 mv_X1_50 lk_8 rfl rfl (c_X1_take _ _ _ ⟨by decide, by decide⟩) (Nat.le_of_ble_eq_true rfl) (by omega) (by omega) dX1_readRule_3 ?_
  try simp only [KC_stF, SC_stF, stF_1, stF_2, stF_s, stF_at, stF_n]
  refine A_ifne_b (tgt := 11) dX1_readRule_6 (by decide) (fun h6 => ?_) (fun h6 => ?_)
  · refine A_aload_n dX1_readRule_11 rfl 0 rfl ?_
    refine A_getr fl_X1_9 lk_8 rfl dX1_readRule_12 ?_
    refine A_aload_n dX1_readRule_15 rfl 0 rfl ?_
    refine A_geti fl_X1_15 lk_8 rfl dX1_readRule_16 ?_
    try simp (disch := decide) only [up_k, up_j, up_s, KC_stF, SC_stF, stF_1, stF_2, stF_s, stF_at, stF_n]
    refine A_Va1 mv_X1_27 lk_3 rfl rfl (c_X9_kindOf _ _) (Nat.le_of_ble_eq_true rfl) (by omega) (by omega) dX1_readRule_19 ?_
    try simp only [KC_stF, SC_stF, stF_1, stF_2, stF_s, stF_at, stF_n]
    by_cases h22_7 : KC σ (pT (KC σ) 6 s).2.1 = 7
    · refine J_tsIn (tgt := 48) dX1_readRule_22 ((i32_eq (KC_inr _ _)).trans h22_7) ⟨by decide, by decide⟩ (by decide) (by decide) rfl (by decide) ?_
      refine A_aload_n dX1_readRule_48 rfl 0 rfl ?_
      refine A_bipush dX1_readRule_49 (by decide +kernel) ?_
      refine A_Va1 mv_X1_50 lk_8 rfl rfl (c_X1_take _ _ _ ⟨by decide, by decide⟩) (Nat.le_of_ble_eq_true rfl) (by omega) (by omega) dX1_readRule_51 ?_
      try simp only [KC_stF, SC_stF, stF_1, stF_2, stF_s, stF_at, stF_n]
      refine A_ifeq_b (tgt := 88) dX1_readRule_54 (by decide) (fun h54 => ?_) (fun h54 => ?_)
      · refine A_iconst dX1_readRule_88 ?_
        exact A_zret2 dX1_readRule_89 (by decide) (by first | (simp [pRule, pA, pO, b2i_t, b2i_f, *]; done) | (simp_all [pRule, pA, pO, b2i_t, b2i_f]; done)) (by first | (simp [pRule, pA, pO, *]; done) | (simp_all [pRule, pA, pO]; done))
      · refine A_aload_n dX1_readRule_57 rfl 0 rfl ?_
        refine A_bipush dX1_readRule_58 (by decide +kernel) ?_
        refine A_Va1 mv_X1_50 lk_8 rfl rfl (c_X1_take _ _ _ ⟨by decide, by decide⟩) (Nat.le_of_ble_eq_true rfl) (by omega) (by omega) dX1_readRule_60 ?_
        try simp only [KC_stF, SC_stF, stF_1, stF_2, stF_s, stF_at, stF_n]
        refine A_ifeq_b (tgt := 88) dX1_readRule_63 (by decide) (fun h63 => ?_) (fun h63 => ?_)
        · refine A_iconst dX1_readRule_88 ?_
          exact A_zret2 dX1_readRule_89 (by decide) (by first | (simp [pRule, pA, pO, b2i_t, b2i_f, *]; done) | (simp_all [pRule, pA, pO, b2i_t, b2i_f]; done)) (by first | (simp [pRule, pA, pO, *]; done) | (simp_all [pRule, pA, pO]; done))
        · refine A_aload_n dX1_readRule_66 rfl 0 rfl ?_
          refine A_bipush dX1_readRule_67 (by decide +kernel) ?_
          refine A_Va1 mv_X1_50 lk_8 rfl rfl (c_X1_take _ _ _ ⟨by decide, by decide⟩) (Nat.le_of_ble_eq_true rfl) (by omega) (by omega) dX1_readRule_69 ?_
          try simp only [KC_stF, SC_stF, stF_1, stF_2, stF_s, stF_at, stF_n]
          refine A_ifeq_b (tgt := 88) dX1_readRule_72 (by decide) (fun h72 => ?_) (fun h72 => ?_)
          · refine A_iconst dX1_readRule_88 ?_
            exact A_zret2 dX1_readRule_89 (by decide) (by first | (simp [pRule, pA, pO, b2i_t, b2i_f, *]; done) | (simp_all [pRule, pA, pO, b2i_t, b2i_f]; done)) (by first | (simp [pRule, pA, pO, *]; done) | (simp_all [pRule, pA, pO]; done))
          · refine A_aload_n dX1_readRule_75 rfl 0 rfl ?_
            refine A_bipush dX1_readRule_76 (by decide +kernel) ?_
            refine A_Va1 mv_X1_50 lk_8 rfl rfl (c_X1_take _ _ _ ⟨by decide, by decide⟩) (Nat.le_of_ble_eq_true rfl) (by omega) (by omega) dX1_readRule_78 ?_
            try simp only [KC_stF, SC_stF, stF_1, stF_2, stF_s, stF_at, stF_n]
            refine A_ifeq_b (tgt := 88) dX1_readRule_81 (by decide) (fun h81 => ?_) (fun h81 => ?_)
            · refine A_iconst dX1_readRule_88 ?_
              exact A_zret2 dX1_readRule_89 (by decide) (by first | (simp [pRule, pA, pO, b2i_t, b2i_f, *]; done) | (simp_all [pRule, pA, pO, b2i_t, b2i_f]; done)) (by first | (simp [pRule, pA, pO, *]; done) | (simp_all [pRule, pA, pO]; done))
            · refine A_iconst dX1_readRule_84 ?_
              refine A_goto (tgt := 89) dX1_readRule_85 (by decide) ?_
              exact A_zret2 dX1_readRule_89 (by decide) (by first | (simp [pRule, pA, pO, b2i_t, b2i_f, *]; done) | (simp_all [pRule, pA, pO, b2i_t, b2i_f]; done)) (by first | (simp [pRule, pA, pO, *]; done) | (simp_all [pRule, pA, pO]; done))
    by_cases h22_8 : KC σ (pT (KC σ) 6 s).2.1 = 8
    · refine J_tsIn (tgt := 90) dX1_readRule_22 ((i32_eq (KC_inr _ _)).trans h22_8) ⟨by decide, by decide⟩ (by decide) (by decide) rfl (by decide) ?_
      refine A_aload_n dX1_readRule_90 rfl 0 rfl ?_
      refine A_bipush dX1_readRule_91 (by decide +kernel) ?_
      refine A_Va1 mv_X1_50 lk_8 rfl rfl (c_X1_take _ _ _ ⟨by decide, by decide⟩) (Nat.le_of_ble_eq_true rfl) (by omega) (by omega) dX1_readRule_93 ?_
      try simp only [KC_stF, SC_stF, stF_1, stF_2, stF_s, stF_at, stF_n]
      refine A_ifeq_b (tgt := 110) dX1_readRule_96 (by decide) (fun h96 => ?_) (fun h96 => ?_)
      · refine A_iconst dX1_readRule_110 ?_
        exact A_zret2 dX1_readRule_111 (by decide) (by first | (simp [pRule, pA, pO, b2i_t, b2i_f, *]; done) | (simp_all [pRule, pA, pO, b2i_t, b2i_f]; done)) (by first | (simp [pRule, pA, pO, *]; done) | (simp_all [pRule, pA, pO]; done))
      · refine A_aload_n dX1_readRule_99 rfl 0 rfl ?_
        refine A_Va0 mv_X1_59 lk_8 rfl rfl (c_X1_readSpan _ _) (Nat.le_of_ble_eq_true rfl) (by omega) (by omega) dX1_readRule_100 ?_
        try simp only [KC_stF, SC_stF, stF_1, stF_2, stF_s, stF_at, stF_n]
        refine A_ifeq_b (tgt := 110) dX1_readRule_103 (by decide) (fun h103 => ?_) (fun h103 => ?_)
        · refine A_iconst dX1_readRule_110 ?_
          exact A_zret2 dX1_readRule_111 (by decide) (by first | (simp [pRule, pA, pO, b2i_t, b2i_f, *]; done) | (simp_all [pRule, pA, pO, b2i_t, b2i_f]; done)) (by first | (simp [pRule, pA, pO, *]; done) | (simp_all [pRule, pA, pO]; done))
        · refine A_iconst dX1_readRule_106 ?_
          refine A_goto (tgt := 111) dX1_readRule_107 (by decide) ?_
          exact A_zret2 dX1_readRule_111 (by decide) (by first | (simp [pRule, pA, pO, b2i_t, b2i_f, *]; done) | (simp_all [pRule, pA, pO, b2i_t, b2i_f]; done)) (by first | (simp [pRule, pA, pO, *]; done) | (simp_all [pRule, pA, pO]; done))
    by_cases h22_9 : KC σ (pT (KC σ) 6 s).2.1 = 9
    · refine J_tsIn (tgt := 112) dX1_readRule_22 ((i32_eq (KC_inr _ _)).trans h22_9) ⟨by decide, by decide⟩ (by decide) (by decide) rfl (by decide) ?_
      refine A_aload_n dX1_readRule_112 rfl 0 rfl ?_
      refine A_bipush dX1_readRule_113 (by decide +kernel) ?_
      refine A_Va1 mv_X1_50 lk_8 rfl rfl (c_X1_take _ _ _ ⟨by decide, by decide⟩) (Nat.le_of_ble_eq_true rfl) (by omega) (by omega) dX1_readRule_115 ?_
      try simp only [KC_stF, SC_stF, stF_1, stF_2, stF_s, stF_at, stF_n]
      refine A_ifeq_b (tgt := 132) dX1_readRule_118 (by decide) (fun h118 => ?_) (fun h118 => ?_)
      · refine A_iconst dX1_readRule_132 ?_
        exact A_zret2 dX1_readRule_133 (by decide) (by first | (simp [pRule, pA, pO, b2i_t, b2i_f, *]; done) | (simp_all [pRule, pA, pO, b2i_t, b2i_f]; done)) (by first | (simp [pRule, pA, pO, *]; done) | (simp_all [pRule, pA, pO]; done))
      · refine A_aload_n dX1_readRule_121 rfl 0 rfl ?_
        refine A_Va0 mv_X1_59 lk_8 rfl rfl (c_X1_readSpan _ _) (Nat.le_of_ble_eq_true rfl) (by omega) (by omega) dX1_readRule_122 ?_
        try simp only [KC_stF, SC_stF, stF_1, stF_2, stF_s, stF_at, stF_n]
        refine A_ifeq_b (tgt := 132) dX1_readRule_125 (by decide) (fun h125 => ?_) (fun h125 => ?_)
        · refine A_iconst dX1_readRule_132 ?_
          exact A_zret2 dX1_readRule_133 (by decide) (by first | (simp [pRule, pA, pO, b2i_t, b2i_f, *]; done) | (simp_all [pRule, pA, pO, b2i_t, b2i_f]; done)) (by first | (simp [pRule, pA, pO, *]; done) | (simp_all [pRule, pA, pO]; done))
        · refine A_iconst dX1_readRule_128 ?_
          refine A_goto (tgt := 133) dX1_readRule_129 (by decide) ?_
          exact A_zret2 dX1_readRule_133 (by decide) (by first | (simp [pRule, pA, pO, b2i_t, b2i_f, *]; done) | (simp_all [pRule, pA, pO, b2i_t, b2i_f]; done)) (by first | (simp [pRule, pA, pO, *]; done) | (simp_all [pRule, pA, pO]; done))
    refine J_tsOut (tgt := 134) dX1_readRule_22 (by rw [i32_eq (KC_inr _ _)]; omega) (by decide) ?_
    refine A_aload_n dX1_readRule_134 rfl 0 rfl ?_
    refine A_bipush dX1_readRule_135 (by decide +kernel) ?_
    refine A_Va1 mv_X1_50 lk_8 rfl rfl (c_X1_take _ _ _ ⟨by decide, by decide⟩) (Nat.le_of_ble_eq_true rfl) (by omega) (by omega) dX1_readRule_137 ?_
    try simp only [KC_stF, SC_stF, stF_1, stF_2, stF_s, stF_at, stF_n]
    refine A_ifeq_b (tgt := 183) dX1_readRule_140 (by decide) (fun h140 => ?_) (fun h140 => ?_)
    · refine A_iconst dX1_readRule_183 ?_
      exact A_zret2 dX1_readRule_184 (by decide) (by first | (simp [pRule, pA, pO, b2i_t, b2i_f, *]; done) | (simp_all [pRule, pA, pO, b2i_t, b2i_f]; done)) (by first | (simp [pRule, pA, pO, *]; done) | (simp_all [pRule, pA, pO]; done))
    · refine A_aload_n dX1_readRule_143 rfl 0 rfl ?_
      refine A_bipush dX1_readRule_144 (by decide +kernel) ?_
      refine A_Va1 mv_X1_50 lk_8 rfl rfl (c_X1_take _ _ _ ⟨by decide, by decide⟩) (Nat.le_of_ble_eq_true rfl) (by omega) (by omega) dX1_readRule_146 ?_
      try simp only [KC_stF, SC_stF, stF_1, stF_2, stF_s, stF_at, stF_n]
      refine A_ifeq_b (tgt := 183) dX1_readRule_149 (by decide) (fun h149 => ?_) (fun h149 => ?_)
      · refine A_iconst dX1_readRule_183 ?_
        exact A_zret2 dX1_readRule_184 (by decide) (by first | (simp [pRule, pA, pO, b2i_t, b2i_f, *]; done) | (simp_all [pRule, pA, pO, b2i_t, b2i_f]; done)) (by first | (simp [pRule, pA, pO, *]; done) | (simp_all [pRule, pA, pO]; done))
      · refine A_aload_n dX1_readRule_152 rfl 0 rfl ?_
        refine A_bipush dX1_readRule_153 (by decide +kernel) ?_
        refine A_Va1 mv_X1_50 lk_8 rfl rfl (c_X1_take _ _ _ ⟨by decide, by decide⟩) (Nat.le_of_ble_eq_true rfl) (by omega) (by omega) dX1_readRule_155 ?_
        try simp only [KC_stF, SC_stF, stF_1, stF_2, stF_s, stF_at, stF_n]
        refine A_ifeq_b (tgt := 183) dX1_readRule_158 (by decide) (fun h158 => ?_) (fun h158 => ?_)
        · refine A_iconst dX1_readRule_183 ?_
          exact A_zret2 dX1_readRule_184 (by decide) (by first | (simp [pRule, pA, pO, b2i_t, b2i_f, *]; done) | (simp_all [pRule, pA, pO, b2i_t, b2i_f]; done)) (by first | (simp [pRule, pA, pO, *]; done) | (simp_all [pRule, pA, pO]; done))
        · refine A_aload_n dX1_readRule_161 rfl 0 rfl ?_
          refine A_bipush dX1_readRule_162 (by decide +kernel) ?_
          refine A_Va1 mv_X1_50 lk_8 rfl rfl (c_X1_take _ _ _ ⟨by decide, by decide⟩) (Nat.le_of_ble_eq_true rfl) (by omega) (by omega) dX1_readRule_164 ?_
          try simp only [KC_stF, SC_stF, stF_1, stF_2, stF_s, stF_at, stF_n]
          refine A_ifeq_b (tgt := 183) dX1_readRule_167 (by decide) (fun h167 => ?_) (fun h167 => ?_)
          · refine A_iconst dX1_readRule_183 ?_
            exact A_zret2 dX1_readRule_184 (by decide) (by first | (simp [pRule, pA, pO, b2i_t, b2i_f, *]; done) | (simp_all [pRule, pA, pO, b2i_t, b2i_f]; done)) (by first | (simp [pRule, pA, pO, *]; done) | (simp_all [pRule, pA, pO]; done))
          · refine A_aload_n dX1_readRule_170 rfl 0 rfl ?_
            refine A_bipush dX1_readRule_171 (by decide +kernel) ?_
            refine A_Va1 mv_X1_50 lk_8 rfl rfl (c_X1_take _ _ _ ⟨by decide, by decide⟩) (Nat.le_of_ble_eq_true rfl) (by omega) (by omega) dX1_readRule_173 ?_
            try simp only [KC_stF, SC_stF, stF_1, stF_2, stF_s, stF_at, stF_n]
            refine A_ifeq_b (tgt := 183) dX1_readRule_176 (by decide) (fun h176 => ?_) (fun h176 => ?_)
            · refine A_iconst dX1_readRule_183 ?_
              exact A_zret2 dX1_readRule_184 (by decide) (by first | (simp [pRule, pA, pO, b2i_t, b2i_f, *]; done) | (simp_all [pRule, pA, pO, b2i_t, b2i_f]; done)) (by first | (simp [pRule, pA, pO, *]; done) | (simp_all [pRule, pA, pO]; done))
            · refine A_iconst dX1_readRule_179 ?_
              refine A_goto (tgt := 184) dX1_readRule_180 (by decide) ?_
              exact A_zret2 dX1_readRule_184 (by decide) (by first | (simp [pRule, pA, pO, b2i_t, b2i_f, *]; done) | (simp_all [pRule, pA, pO, b2i_t, b2i_f]; done)) (by first | (simp [pRule, pA, pO, *]; done) | (simp_all [pRule, pA, pO]; done))
  · refine A_iconst dX1_readRule_9 ?_
    exact A_zret2 dX1_readRule_10 (by decide) (by first | (simp [pRule, pA, pO, b2i_t, b2i_f, *]; done) | (simp_all [pRule, pA, pO, b2i_t, b2i_f]; done)) (by first | (simp [pRule, pA, pO, *]; done) | (simp_all [pRule, pA, pO]; done))
/-- an expression, with so much depth left; the first of a choice begins its count -/
def pD (K : Int → Int) (m : Nat) (s : Pp) : Bool × Pp := pE K (pOne K m) (if m = 8 then (s.1, 0) else s)
theorem pD_8 (K : Int → Int) (s : Pp) : pD K 8 s = pEx K s := by simp [pD, pEx]
theorem pD_lt (K : Int → Int) {m : Nat} (h : m < 8) (s : Pp) : pD K m s = pE K (pOne K m) s := by simp only [pD, if_neg (show ¬ m = 8 by omega)]
set_option maxRecDepth 100000 in
set_option maxHeartbeats 4000000 in
theorem w_X1_readExpression {f : Fm} (σ : Sg)  (m : Nat) (dp : Int) (hm : dp + m = 8) (hmm : m ≤ 8) (o1 : ∀ (s : Pp) (dp : Int), dp + m = 8 → Ct l G yX1_readOne cX1_readOne 2 (some .boolean) (2 + 2 * m) 0 0 [.ref (lay G 8), .int (I32 dp)] (stF σ s) (some (.int (I32 (b2i (pOne (KC σ) m s).1)))) (stF σ (pOne (KC σ) m s).2)) : ∀ (n : Nat) (i : Int) (p : Bool) (s : Pp) (r : Option Value) (σ1 : Sg), 0 ≤ i → i + n = 30 → r = some (.int (I32 (b2i (lj p (KC σ) (pOne (KC σ) m) n s).1))) → σ1 = stF σ (lj p (KC σ) (pOne (KC σ) m) n s).2 → AW l G f (RX1, cX1_readExpression, 4, (some .boolean)) (3 + 2 * m, 0, 0) (QT G f 0 0 r σ1) [] 0 0 17 [(3, .int (I32 i)), (2, .int (I32 (b2i p))), (0, .ref (lay G 8)), (1, .int (I32 dp))] [] (stF σ s) := by
  intro n
  induction n using Nat.strongRecOn with | _ n ih =>
  intro i p s r σ1 h0 hn hr hs
  refine A_iload_n dX1_readExpression_17 rfl 0 rfl ?_
  refine A_bipush dX1_readExpression_18 (by decide +kernel) ?_
  refine J_icmp_ge (tgt := 83) dX1_readExpression_20 (by decide) (by first | with_reducible exact i32_eq (KC_inr _ _) | exact i32_eq (by assumption) | exact i32_eq ⟨by omega, by omega⟩ | with_reducible exact i32_i32 _ | rfl) (by first | with_reducible exact i32_eq (KC_inr _ _) | exact i32_eq (by assumption) | exact i32_eq ⟨by omega, by omega⟩ | with_reducible exact i32_i32 _ | rfl) (fun h20 => ?_) (fun h20 => ?_)
  · refine A_iload_n dX1_readExpression_83 rfl 1 rfl ?_
    exact A_zret dX1_readExpression_84 (by rw [hr]; clear ih; rcases n with _ | n <;> cases p <;> simp_all [lj, pJ, pA, b2i_t, b2i_f] <;> omega) (by rw [hs]; clear ih; rcases n with _ | n <;> cases p <;> simp_all [lj, pJ, pA, b2i_t, b2i_f] <;> omega)
  · refine A_iload_n dX1_readExpression_23 rfl 1 rfl ?_
    refine A_ifeq_b (tgt := 83) dX1_readExpression_24 (by decide) (fun h24 => ?_) (fun h24 => ?_)
    · refine A_iload_n dX1_readExpression_83 rfl 1 rfl ?_
      exact A_zret dX1_readExpression_84 (by rw [hr]; clear ih; rcases n with _ | n <;> cases p <;> simp_all [lj, pJ, pA, b2i_t, b2i_f] <;> omega) (by rw [hs]; clear ih; rcases n with _ | n <;> cases p <;> simp_all [lj, pJ, pA, b2i_t, b2i_f] <;> omega)
    · refine A_aload_n dX1_readExpression_27 rfl 2 rfl ?_
      refine A_bipush dX1_readExpression_28 (by decide +kernel) ?_
      refine A_Va1 mv_X1_23 lk_8 rfl rfl (c_X1_isKind _ _ _ ⟨by decide, by decide⟩) (Nat.le_of_ble_eq_true rfl) (by omega) (by omega) dX1_readExpression_30 ?_
      try simp only [KC_stF, SC_stF, stF_1, stF_2, stF_s, stF_at, stF_n]
      refine A_ifne_b (tgt := 45) dX1_readExpression_33 (by decide) (fun h33 => ?_) (fun h33 => ?_)
      · refine A_aload_n dX1_readExpression_45 rfl 2 rfl ?_
        refine A_aload_n dX1_readExpression_46 rfl 2 rfl ?_
        refine A_getr fl_X1_9 lk_8 rfl dX1_readExpression_47 ?_
        refine A_aload_n dX1_readExpression_50 rfl 2 rfl ?_
        refine A_geti fl_X1_15 lk_8 rfl dX1_readExpression_51 ?_
        try simp (disch := decide) only [up_k, up_j, up_s, KC_stF, SC_stF, stF_1, stF_2, stF_s, stF_at, stF_n]
        refine A_Va1 mv_X1_27 lk_3 rfl rfl (c_X9_kindOf _ _) (Nat.le_of_ble_eq_true rfl) (by omega) (by omega) dX1_readExpression_54 ?_
        try simp only [KC_stF, SC_stF, stF_1, stF_2, stF_s, stF_at, stF_n]
        refine A_Va1 mv_X1_68 lk_8 rfl rfl (c_X1_takeOfChoice _ _ _ (by first | exact ⟨by decide, by decide⟩ | exact KC_inr _ _)) (Nat.le_of_ble_eq_true rfl) (by omega) (by omega) dX1_readExpression_57 ?_
        try simp only [KC_stF, SC_stF, stF_1, stF_2, stF_s, stF_at, stF_n]
        refine A_ifeq_b (tgt := 75) dX1_readExpression_60 (by decide) (fun h60 => ?_) (fun h60 => ?_)
        · refine A_iconst dX1_readExpression_75 ?_
          refine A_istore_n (lv2 := [(2, _), (3, _), (0, _), (1, _)]) dX1_readExpression_76 rfl (by decide) rfl ?_
          refine A_iinc (lv2 := [(3, _), (2, _), (0, _), (1, _)]) dX1_readExpression_77 1 rfl (by decide) rfl ?_
          refine A_goto (tgt := 17) dX1_readExpression_80 (by decide) ?_
          refine A_lv [0, 1, 2, 3] rfl ?_
          exact ih (n - 1) (by omega) (i + 1) false _ r σ1 (by omega) (by omega) (by rw [hr]; obtain ⟨n, rfl⟩ : ∃ q, n = q + 1 := ⟨n - 1, by omega⟩; first | (simp [lj, pJ, pA, *]; done) | (clear ih; simp_all [lj, pJ, pA]; done)) (by rw [hs]; obtain ⟨n, rfl⟩ : ∃ q, n = q + 1 := ⟨n - 1, by omega⟩; first | (simp [lj, pJ, pA, *]; done) | (clear ih; simp_all [lj, pJ, pA]; done))
        · refine A_aload_n dX1_readExpression_63 rfl 2 rfl ?_
          refine A_iload_n dX1_readExpression_64 rfl 3 rfl ?_
          refine A_Va1 mv_X1_65 lk_8 rfl rfl (o1 _ _ hm) (Nat.le_of_ble_eq_true rfl) (by omega) (by omega) dX1_readExpression_65 ?_
          try simp only [KC_stF, SC_stF, stF_1, stF_2, stF_s, stF_at, stF_n]
          refine A_ifeq_b (tgt := 75) dX1_readExpression_68 (by decide) (fun h68 => ?_) (fun h68 => ?_)
          · refine A_iconst dX1_readExpression_75 ?_
            refine A_istore_n (lv2 := [(2, _), (3, _), (0, _), (1, _)]) dX1_readExpression_76 rfl (by decide) rfl ?_
            refine A_iinc (lv2 := [(3, _), (2, _), (0, _), (1, _)]) dX1_readExpression_77 1 rfl (by decide) rfl ?_
            refine A_goto (tgt := 17) dX1_readExpression_80 (by decide) ?_
            refine A_lv [0, 1, 2, 3] rfl ?_
            exact ih (n - 1) (by omega) (i + 1) false _ r σ1 (by omega) (by omega) (by rw [hr]; obtain ⟨n, rfl⟩ : ∃ q, n = q + 1 := ⟨n - 1, by omega⟩; first | (simp [lj, pJ, pA, *]; done) | (clear ih; simp_all [lj, pJ, pA]; done)) (by rw [hs]; obtain ⟨n, rfl⟩ : ∃ q, n = q + 1 := ⟨n - 1, by omega⟩; first | (simp [lj, pJ, pA, *]; done) | (clear ih; simp_all [lj, pJ, pA]; done))
          · refine A_iconst dX1_readExpression_71 ?_
            refine A_goto (tgt := 76) dX1_readExpression_72 (by decide) ?_
            refine A_istore_n (lv2 := [(2, _), (3, _), (0, _), (1, _)]) dX1_readExpression_76 rfl (by decide) rfl ?_
            refine A_iinc (lv2 := [(3, _), (2, _), (0, _), (1, _)]) dX1_readExpression_77 1 rfl (by decide) rfl ?_
            refine A_goto (tgt := 17) dX1_readExpression_80 (by decide) ?_
            refine A_lv [0, 1, 2, 3] rfl ?_
            exact ih (n - 1) (by omega) (i + 1) true _ r σ1 (by omega) (by omega) (by rw [hr]; obtain ⟨n, rfl⟩ : ∃ q, n = q + 1 := ⟨n - 1, by omega⟩; first | (simp [lj, pJ, pA, *]; done) | (clear ih; simp_all [lj, pJ, pA]; done)) (by rw [hs]; obtain ⟨n, rfl⟩ : ∃ q, n = q + 1 := ⟨n - 1, by omega⟩; first | (simp [lj, pJ, pA, *]; done) | (clear ih; simp_all [lj, pJ, pA]; done))
      · refine A_aload_n dX1_readExpression_36 rfl 2 rfl ?_
        refine A_bipush dX1_readExpression_37 (by decide +kernel) ?_
        refine A_Va1 mv_X1_23 lk_8 rfl rfl (c_X1_isKind _ _ _ ⟨by decide, by decide⟩) (Nat.le_of_ble_eq_true rfl) (by omega) (by omega) dX1_readExpression_39 ?_
        try simp only [KC_stF, SC_stF, stF_1, stF_2, stF_s, stF_at, stF_n]
        refine A_ifeq_b (tgt := 83) dX1_readExpression_42 (by decide) (fun h42 => ?_) (fun h42 => ?_)
        · refine A_iload_n dX1_readExpression_83 rfl 1 rfl ?_
          exact A_zret dX1_readExpression_84 (by rw [hr]; clear ih; rcases n with _ | n <;> cases p <;> simp_all [lj, pJ, pA, b2i_t, b2i_f] <;> omega) (by rw [hs]; clear ih; rcases n with _ | n <;> cases p <;> simp_all [lj, pJ, pA, b2i_t, b2i_f] <;> omega)
        · refine A_aload_n dX1_readExpression_45 rfl 2 rfl ?_
          refine A_aload_n dX1_readExpression_46 rfl 2 rfl ?_
          refine A_getr fl_X1_9 lk_8 rfl dX1_readExpression_47 ?_
          refine A_aload_n dX1_readExpression_50 rfl 2 rfl ?_
          refine A_geti fl_X1_15 lk_8 rfl dX1_readExpression_51 ?_
          try simp (disch := decide) only [up_k, up_j, up_s, KC_stF, SC_stF, stF_1, stF_2, stF_s, stF_at, stF_n]
          refine A_Va1 mv_X1_27 lk_3 rfl rfl (c_X9_kindOf _ _) (Nat.le_of_ble_eq_true rfl) (by omega) (by omega) dX1_readExpression_54 ?_
          try simp only [KC_stF, SC_stF, stF_1, stF_2, stF_s, stF_at, stF_n]
          refine A_Va1 mv_X1_68 lk_8 rfl rfl (c_X1_takeOfChoice _ _ _ (by first | exact ⟨by decide, by decide⟩ | exact KC_inr _ _)) (Nat.le_of_ble_eq_true rfl) (by omega) (by omega) dX1_readExpression_57 ?_
          try simp only [KC_stF, SC_stF, stF_1, stF_2, stF_s, stF_at, stF_n]
          refine A_ifeq_b (tgt := 75) dX1_readExpression_60 (by decide) (fun h60 => ?_) (fun h60 => ?_)
          · refine A_iconst dX1_readExpression_75 ?_
            refine A_istore_n (lv2 := [(2, _), (3, _), (0, _), (1, _)]) dX1_readExpression_76 rfl (by decide) rfl ?_
            refine A_iinc (lv2 := [(3, _), (2, _), (0, _), (1, _)]) dX1_readExpression_77 1 rfl (by decide) rfl ?_
            refine A_goto (tgt := 17) dX1_readExpression_80 (by decide) ?_
            refine A_lv [0, 1, 2, 3] rfl ?_
            exact ih (n - 1) (by omega) (i + 1) false _ r σ1 (by omega) (by omega) (by rw [hr]; obtain ⟨n, rfl⟩ : ∃ q, n = q + 1 := ⟨n - 1, by omega⟩; first | (simp [lj, pJ, pA, *]; done) | (clear ih; simp_all [lj, pJ, pA]; done)) (by rw [hs]; obtain ⟨n, rfl⟩ : ∃ q, n = q + 1 := ⟨n - 1, by omega⟩; first | (simp [lj, pJ, pA, *]; done) | (clear ih; simp_all [lj, pJ, pA]; done))
          · refine A_aload_n dX1_readExpression_63 rfl 2 rfl ?_
            refine A_iload_n dX1_readExpression_64 rfl 3 rfl ?_
            refine A_Va1 mv_X1_65 lk_8 rfl rfl (o1 _ _ hm) (Nat.le_of_ble_eq_true rfl) (by omega) (by omega) dX1_readExpression_65 ?_
            try simp only [KC_stF, SC_stF, stF_1, stF_2, stF_s, stF_at, stF_n]
            refine A_ifeq_b (tgt := 75) dX1_readExpression_68 (by decide) (fun h68 => ?_) (fun h68 => ?_)
            · refine A_iconst dX1_readExpression_75 ?_
              refine A_istore_n (lv2 := [(2, _), (3, _), (0, _), (1, _)]) dX1_readExpression_76 rfl (by decide) rfl ?_
              refine A_iinc (lv2 := [(3, _), (2, _), (0, _), (1, _)]) dX1_readExpression_77 1 rfl (by decide) rfl ?_
              refine A_goto (tgt := 17) dX1_readExpression_80 (by decide) ?_
              refine A_lv [0, 1, 2, 3] rfl ?_
              exact ih (n - 1) (by omega) (i + 1) false _ r σ1 (by omega) (by omega) (by rw [hr]; obtain ⟨n, rfl⟩ : ∃ q, n = q + 1 := ⟨n - 1, by omega⟩; first | (simp [lj, pJ, pA, *]; done) | (clear ih; simp_all [lj, pJ, pA]; done)) (by rw [hs]; obtain ⟨n, rfl⟩ : ∃ q, n = q + 1 := ⟨n - 1, by omega⟩; first | (simp [lj, pJ, pA, *]; done) | (clear ih; simp_all [lj, pJ, pA]; done))
            · refine A_iconst dX1_readExpression_71 ?_
              refine A_goto (tgt := 76) dX1_readExpression_72 (by decide) ?_
              refine A_istore_n (lv2 := [(2, _), (3, _), (0, _), (1, _)]) dX1_readExpression_76 rfl (by decide) rfl ?_
              refine A_iinc (lv2 := [(3, _), (2, _), (0, _), (1, _)]) dX1_readExpression_77 1 rfl (by decide) rfl ?_
              refine A_goto (tgt := 17) dX1_readExpression_80 (by decide) ?_
              refine A_lv [0, 1, 2, 3] rfl ?_
              exact ih (n - 1) (by omega) (i + 1) true _ r σ1 (by omega) (by omega) (by rw [hr]; obtain ⟨n, rfl⟩ : ∃ q, n = q + 1 := ⟨n - 1, by omega⟩; first | (simp [lj, pJ, pA, *]; done) | (clear ih; simp_all [lj, pJ, pA]; done)) (by rw [hs]; obtain ⟨n, rfl⟩ : ∃ q, n = q + 1 := ⟨n - 1, by omega⟩; first | (simp [lj, pJ, pA, *]; done) | (clear ih; simp_all [lj, pJ, pA]; done))
set_option maxRecDepth 100000 in
set_option maxHeartbeats 4000000 in
theorem w_X1_ex (σ : Sg) (m : Nat) (s : Pp) (dp : Int)  (hm : dp + m = 8) (hmm : m ≤ 8) (o1 : ∀ (s : Pp) (dp : Int), dp + m = 8 → Ct l G yX1_readOne cX1_readOne 2 (some .boolean) (2 + 2 * m) 0 0 [.ref (lay G 8), .int (I32 dp)] (stF σ s) (some (.int (I32 (b2i (pOne (KC σ) m s).1)))) (stF σ (pOne (KC σ) m s).2)) : Ct l G yX1_readExpression cX1_readExpression 4 (some .boolean) (3 + 2 * m) 0 0 [.ref (lay G 8), .int (I32 dp)] (stF σ s) (some (.int (I32 (b2i (pD (KC σ) m s).1)))) (stF σ (pD (KC σ) m s).2) := by
  refine Ct.of (by decide +kernel) (Nat.le_of_ble_eq_true rfl) (fun f => ?_)
  show AW _ _ _ _ _ _ _ _ _ _ [(0, _), (1, _)] _ _
  refine A_iload_n dX1_readExpression_0 rfl 1 rfl ?_
  refine J_if_ne (tgt := 9) dX1_readExpression_1 (by decide) (by first | with_reducible exact i32_eq (KC_inr _ _) | exact i32_eq (by assumption) | exact i32_eq ⟨by omega, by omega⟩ | with_reducible exact i32_i32 _ | rfl) (fun h1 => ?_) (fun h1 => ?_)
  · have hm8 : ¬ m = 8 := by omega
    refine A_aload_n dX1_readExpression_9 rfl 0 rfl ?_
    refine A_iload_n dX1_readExpression_10 rfl 1 rfl ?_
    refine A_Va1 mv_X1_65 lk_8 rfl rfl (o1 _ _ hm) (Nat.le_of_ble_eq_true rfl) (by omega) (by omega) dX1_readExpression_11 ?_
    try simp only [KC_stF, SC_stF, stF_1, stF_2, stF_s, stF_at, stF_n]
    refine A_istore_n (lv2 := [(2, _), (0, _), (1, _)]) dX1_readExpression_14 rfl (by decide) rfl ?_
    refine A_iconst dX1_readExpression_15 ?_
    refine A_istore_n (lv2 := [(3, _), (2, _), (0, _), (1, _)]) dX1_readExpression_16 rfl (by decide) rfl ?_
    refine A_lv [0, 1, 2, 3] rfl ?_
    exact w_X1_readExpression σ m dp hm hmm o1 30 0 _ _ _ _ (by omega) (by omega) (by first | (simp [pD, pE, lj, pA, *]; done) | (simp_all [pD, pE, lj, pA]; done)) (by first | (simp [pD, pE, lj, pA, *]; done) | (simp_all [pD, pE, lj, pA]; done))
  · have hm8 : m = 8 := by omega
    refine A_aload_n dX1_readExpression_4 rfl 0 rfl ?_
    refine A_iconst dX1_readExpression_5 ?_
    refine A_puti fl_X1_62 lk_8 rfl dX1_readExpression_6 ?_
    try simp only [KC_stF, SC_stF, stF_1, stF_2, stF_s, stF_at, stF_n]
    refine A_aload_n dX1_readExpression_9 rfl 0 rfl ?_
    refine A_iload_n dX1_readExpression_10 rfl 1 rfl ?_
    refine A_Va1 mv_X1_65 lk_8 rfl rfl (o1 _ _ hm) (Nat.le_of_ble_eq_true rfl) (by omega) (by omega) dX1_readExpression_11 ?_
    try simp only [KC_stF, SC_stF, stF_1, stF_2, stF_s, stF_at, stF_n]
    refine A_istore_n (lv2 := [(2, _), (0, _), (1, _)]) dX1_readExpression_14 rfl (by decide) rfl ?_
    refine A_iconst dX1_readExpression_15 ?_
    refine A_istore_n (lv2 := [(3, _), (2, _), (0, _), (1, _)]) dX1_readExpression_16 rfl (by decide) rfl ?_
    refine A_lv [0, 1, 2, 3] rfl ?_
    exact w_X1_readExpression σ m dp hm hmm o1 30 0 _ _ _ _ (by omega) (by omega) (by first | (simp [pD, pE, lj, pA, *]; done) | (simp_all [pD, pE, lj, pA]; done)) (by first | (simp [pD, pE, lj, pA, *]; done) | (simp_all [pD, pE, lj, pA]; done))
set_option maxRecDepth 100000 in
set_option maxHeartbeats 4000000 in
theorem w_X1_one (σ : Sg) (m : Nat) (s : Pp) (dp : Int)  (hm : dp + m = 8) (hmm : m ≤ 8) (o1 : ∀ q, m = q + 1 → ∀ (s : Pp) (dp : Int), dp + q = 8 → Ct l G yX1_readOne cX1_readOne 2 (some .boolean) (2 + 2 * q) 0 0 [.ref (lay G 8), .int (I32 dp)] (stF σ s) (some (.int (I32 (b2i (pOne (KC σ) q s).1)))) (stF σ (pOne (KC σ) q s).2)) (o2 : ∀ q, m = q + 1 → ∀ (s : Pp) (dp : Int), dp + q = 8 → Ct l G yX1_readExpression cX1_readExpression 4 (some .boolean) (3 + 2 * q) 0 0 [.ref (lay G 8), .int (I32 dp)] (stF σ s) (some (.int (I32 (b2i (pD (KC σ) q s).1)))) (stF σ (pD (KC σ) q s).2)) : Ct l G yX1_readOne cX1_readOne 2 (some .boolean) (2 + 2 * m) 0 0 [.ref (lay G 8), .int (I32 dp)] (stF σ s) (some (.int (I32 (b2i (pOne (KC σ) m s).1)))) (stF σ (pOne (KC σ) m s).2) := by
  refine Ct.of (by decide +kernel) (Nat.le_of_ble_eq_true rfl) (fun f => ?_)
  show AW _ _ _ _ _ _ _ _ _ _ [(0, _), (1, _)] _ _
  refine A_aload_n dX1_readOne_0 rfl 0 rfl ?_
  refine A_bipush dX1_readOne_1 (by decide +kernel) ?_
  refine A_Va1 mv_X1_23 lk_8 rfl rfl (c_X1_isKind _ _ _ ⟨by decide, by decide⟩) (Nat.le_of_ble_eq_true rfl) (by omega) (by omega) dX1_readOne_3 ?_
  try simp only [KC_stF, SC_stF, stF_1, stF_2, stF_s, stF_at, stF_n]
  refine A_ifeq_b (tgt := 16) dX1_readOne_6 (by decide) (fun h6 => ?_) (fun h6 => ?_)
  · refine A_iload_n dX1_readOne_16 rfl 1 rfl ?_
    refine A_bipush dX1_readOne_17 (by decide +kernel) ?_
    refine J_icmp_lt (tgt := 24) dX1_readOne_19 (by decide) (by first | with_reducible exact i32_eq (KC_inr _ _) | exact i32_eq (by assumption) | exact i32_eq ⟨by omega, by omega⟩ | with_reducible exact i32_i32 _ | rfl) (by first | with_reducible exact i32_eq (KC_inr _ _) | exact i32_eq (by assumption) | exact i32_eq ⟨by omega, by omega⟩ | with_reducible exact i32_i32 _ | rfl) (fun h19 => ?_) (fun h19 => ?_)
    · obtain ⟨q, rfl⟩ : ∃ q, m = q + 1 := ⟨m - 1, by omega⟩
      have e1 := o1 q rfl
      have e2 := o2 q rfl
      clear o1 o2
      have hq : q < 8 := by omega
      refine A_aload_n dX1_readOne_24 rfl 0 rfl ?_
      refine A_bipush dX1_readOne_25 (by decide +kernel) ?_
      refine A_Va1 mv_X1_23 lk_8 rfl rfl (c_X1_isKind _ _ _ ⟨by decide, by decide⟩) (Nat.le_of_ble_eq_true rfl) (by omega) (by omega) dX1_readOne_27 ?_
      try simp only [KC_stF, SC_stF, stF_1, stF_2, stF_s, stF_at, stF_n]
      refine A_ifeq_b (tgt := 58) dX1_readOne_30 (by decide) (fun h30 => ?_) (fun h30 => ?_)
      · refine A_aload_n dX1_readOne_58 rfl 0 rfl ?_
        refine A_bipush dX1_readOne_59 (by decide +kernel) ?_
        refine A_Va1 mv_X1_68 lk_8 rfl rfl (c_X1_takeOfChoice _ _ _ (by first | exact ⟨by decide, by decide⟩ | exact KC_inr _ _)) (Nat.le_of_ble_eq_true rfl) (by omega) (by omega) dX1_readOne_61 ?_
        try simp only [KC_stF, SC_stF, stF_1, stF_2, stF_s, stF_at, stF_n]
        refine A_ifeq_b (tgt := 90) dX1_readOne_64 (by decide) (fun h64 => ?_) (fun h64 => ?_)
        · refine A_iconst dX1_readOne_90 ?_
          exact A_zret2 dX1_readOne_91 (by decide) (by first | (cases m <;> simp [pOne, pA, *]; done) | (simp_all [pOne, pA, b2i_t, b2i_f]; done) | (cases m <;> simp_all [pOne, pA, b2i_t, b2i_f]; done)) (by first | (cases m <;> simp [pOne, pA, *]; done) | (simp_all [pOne, pA, b2i_t, b2i_f]; done) | (cases m <;> simp_all [pOne, pA, b2i_t, b2i_f]; done))
        · refine A_aload_n dX1_readOne_67 rfl 0 rfl ?_
          refine A_iload_n dX1_readOne_68 rfl 1 rfl ?_
          refine A_iconst dX1_readOne_69 ?_
          refine A_iadd dX1_readOne_70 ?_
          refine A_Va1 mv_X1_47 lk_8 rfl rfl (e2 _ _ (by omega)) (Nat.le_of_ble_eq_true rfl) (by omega) (by omega) dX1_readOne_71 ?_
          try simp only [KC_stF, SC_stF, stF_1, stF_2, stF_s, stF_at, stF_n]
          simp only [pD_lt _ hq]
          refine A_ifeq_b (tgt := 90) dX1_readOne_74 (by decide) (fun h74 => ?_) (fun h74 => ?_)
          · refine A_iconst dX1_readOne_90 ?_
            exact A_zret2 dX1_readOne_91 (by decide) (by first | (cases m <;> simp [pOne, pA, *]; done) | (simp_all [pOne, pA, b2i_t, b2i_f]; done) | (cases m <;> simp_all [pOne, pA, b2i_t, b2i_f]; done)) (by first | (cases m <;> simp [pOne, pA, *]; done) | (simp_all [pOne, pA, b2i_t, b2i_f]; done) | (cases m <;> simp_all [pOne, pA, b2i_t, b2i_f]; done))
          · refine A_aload_n dX1_readOne_77 rfl 0 rfl ?_
            refine A_bipush dX1_readOne_78 (by decide +kernel) ?_
            refine A_Va1 mv_X1_68 lk_8 rfl rfl (c_X1_takeOfChoice _ _ _ (by first | exact ⟨by decide, by decide⟩ | exact KC_inr _ _)) (Nat.le_of_ble_eq_true rfl) (by omega) (by omega) dX1_readOne_80 ?_
            try simp only [KC_stF, SC_stF, stF_1, stF_2, stF_s, stF_at, stF_n]
            refine A_ifeq_b (tgt := 90) dX1_readOne_83 (by decide) (fun h83 => ?_) (fun h83 => ?_)
            · refine A_iconst dX1_readOne_90 ?_
              exact A_zret2 dX1_readOne_91 (by decide) (by first | (cases m <;> simp [pOne, pA, *]; done) | (simp_all [pOne, pA, b2i_t, b2i_f]; done) | (cases m <;> simp_all [pOne, pA, b2i_t, b2i_f]; done)) (by first | (cases m <;> simp [pOne, pA, *]; done) | (simp_all [pOne, pA, b2i_t, b2i_f]; done) | (cases m <;> simp_all [pOne, pA, b2i_t, b2i_f]; done))
            · refine A_iconst dX1_readOne_86 ?_
              refine A_goto (tgt := 91) dX1_readOne_87 (by decide) ?_
              exact A_zret2 dX1_readOne_91 (by decide) (by first | (cases m <;> simp [pOne, pA, *]; done) | (simp_all [pOne, pA, b2i_t, b2i_f]; done) | (cases m <;> simp_all [pOne, pA, b2i_t, b2i_f]; done)) (by first | (cases m <;> simp [pOne, pA, *]; done) | (simp_all [pOne, pA, b2i_t, b2i_f]; done) | (cases m <;> simp_all [pOne, pA, b2i_t, b2i_f]; done))
      · refine A_aload_n dX1_readOne_33 rfl 0 rfl ?_
        refine A_bipush dX1_readOne_34 (by decide +kernel) ?_
        refine A_Va1 mv_X1_68 lk_8 rfl rfl (c_X1_takeOfChoice _ _ _ (by first | exact ⟨by decide, by decide⟩ | exact KC_inr _ _)) (Nat.le_of_ble_eq_true rfl) (by omega) (by omega) dX1_readOne_36 ?_
        try simp only [KC_stF, SC_stF, stF_1, stF_2, stF_s, stF_at, stF_n]
        refine A_ifeq_b (tgt := 56) dX1_readOne_39 (by decide) (fun h39 => ?_) (fun h39 => ?_)
        · refine A_iconst dX1_readOne_56 ?_
          exact A_zret2 dX1_readOne_57 (by decide) (by first | (cases m <;> simp [pOne, pA, *]; done) | (simp_all [pOne, pA, b2i_t, b2i_f]; done) | (cases m <;> simp_all [pOne, pA, b2i_t, b2i_f]; done)) (by first | (cases m <;> simp [pOne, pA, *]; done) | (simp_all [pOne, pA, b2i_t, b2i_f]; done) | (cases m <;> simp_all [pOne, pA, b2i_t, b2i_f]; done))
        · refine A_aload_n dX1_readOne_42 rfl 0 rfl ?_
          refine A_iload_n dX1_readOne_43 rfl 1 rfl ?_
          refine A_iconst dX1_readOne_44 ?_
          refine A_iadd dX1_readOne_45 ?_
          refine A_Va1 mv_X1_65 lk_8 rfl rfl (e1 _ _ (by omega)) (Nat.le_of_ble_eq_true rfl) (by omega) (by omega) dX1_readOne_46 ?_
          try simp only [KC_stF, SC_stF, stF_1, stF_2, stF_s, stF_at, stF_n]
          refine A_ifeq_b (tgt := 56) dX1_readOne_49 (by decide) (fun h49 => ?_) (fun h49 => ?_)
          · refine A_iconst dX1_readOne_56 ?_
            exact A_zret2 dX1_readOne_57 (by decide) (by first | (cases m <;> simp [pOne, pA, *]; done) | (simp_all [pOne, pA, b2i_t, b2i_f]; done) | (cases m <;> simp_all [pOne, pA, b2i_t, b2i_f]; done)) (by first | (cases m <;> simp [pOne, pA, *]; done) | (simp_all [pOne, pA, b2i_t, b2i_f]; done) | (cases m <;> simp_all [pOne, pA, b2i_t, b2i_f]; done))
          · refine A_iconst dX1_readOne_52 ?_
            refine A_goto (tgt := 57) dX1_readOne_53 (by decide) ?_
            exact A_zret2 dX1_readOne_57 (by decide) (by first | (cases m <;> simp [pOne, pA, *]; done) | (simp_all [pOne, pA, b2i_t, b2i_f]; done) | (cases m <;> simp_all [pOne, pA, b2i_t, b2i_f]; done)) (by first | (cases m <;> simp [pOne, pA, *]; done) | (simp_all [pOne, pA, b2i_t, b2i_f]; done) | (cases m <;> simp_all [pOne, pA, b2i_t, b2i_f]; done))
    · obtain rfl : m = 0 := by omega
      refine A_iconst dX1_readOne_22 ?_
      exact A_zret2 dX1_readOne_23 (by decide) (by first | (cases m <;> simp [pOne, pA, *]; done) | (simp_all [pOne, pA, b2i_t, b2i_f]; done) | (cases m <;> simp_all [pOne, pA, b2i_t, b2i_f]; done)) (by first | (cases m <;> simp [pOne, pA, *]; done) | (simp_all [pOne, pA, b2i_t, b2i_f]; done) | (cases m <;> simp_all [pOne, pA, b2i_t, b2i_f]; done))
  · refine A_aload_n dX1_readOne_9 rfl 0 rfl ?_
    refine A_bipush dX1_readOne_10 (by decide +kernel) ?_
    refine A_Va1 mv_X1_68 lk_8 rfl rfl (c_X1_takeOfChoice _ _ _ (by first | exact ⟨by decide, by decide⟩ | exact KC_inr _ _)) (Nat.le_of_ble_eq_true rfl) (by omega) (by omega) dX1_readOne_12 ?_
    try simp only [KC_stF, SC_stF, stF_1, stF_2, stF_s, stF_at, stF_n]
    exact A_zret dX1_readOne_15 (by first | (cases m <;> simp [pOne, pA, *]; done) | (simp_all [pOne, pA, b2i_t, b2i_f]; done) | (cases m <;> simp_all [pOne, pA, b2i_t, b2i_f]; done)) (by first | (cases m <;> simp [pOne, pA, *]; done) | (simp_all [pOne, pA, b2i_t, b2i_f]; done) | (cases m <;> simp_all [pOne, pA, b2i_t, b2i_f]; done))
theorem c_X1_oneex (σ : Sg)  : ∀ m : Nat, m ≤ 8 → (∀ (s : Pp) (dp : Int), dp + m = 8 → Ct l G yX1_readOne cX1_readOne 2 (some .boolean) (2 + 2 * m) 0 0 [.ref (lay G 8), .int (I32 dp)] (stF σ s) (some (.int (I32 (b2i (pOne (KC σ) m s).1)))) (stF σ (pOne (KC σ) m s).2)) ∧ (∀ (s : Pp) (dp : Int), dp + m = 8 → Ct l G yX1_readExpression cX1_readExpression 4 (some .boolean) (3 + 2 * m) 0 0 [.ref (lay G 8), .int (I32 dp)] (stF σ s) (some (.int (I32 (b2i (pD (KC σ) m s).1)))) (stF σ (pD (KC σ) m s).2)) := by
  intro m
  induction m with
  | zero =>
    intro h8
    have h1 : ∀ (s : Pp) (dp : Int), dp + 0 = 8 → Ct l G yX1_readOne cX1_readOne 2 (some .boolean) (2 + 2 * 0) 0 0 [.ref (lay G 8), .int (I32 dp)] (stF σ s) (some (.int (I32 (b2i (pOne (KC σ) 0 s).1)))) (stF σ (pOne (KC σ) 0 s).2) := fun s dp h => w_X1_one σ 0 s dp h h8 (fun q hq => by omega) (fun q hq => by omega)
    exact ⟨h1, fun s dp h => w_X1_ex σ 0 s dp h h8 h1⟩
  | succ m ih =>
    intro h8
    have ih := ih (by omega)
    have h1 : ∀ (s : Pp) (dp : Int), dp + ((m + 1 : Nat) : Int) = 8 → Ct l G yX1_readOne cX1_readOne 2 (some .boolean) (2 + 2 * (m + 1)) 0 0 [.ref (lay G 8), .int (I32 dp)] (stF σ s) (some (.int (I32 (b2i (pOne (KC σ) (m + 1) s).1)))) (stF σ (pOne (KC σ) (m + 1) s).2) := fun s dp h => w_X1_one σ (m + 1) s dp h h8 (fun q hq => by cases hq; exact ih.1) (fun q hq => by cases hq; exact ih.2)
    exact ⟨h1, fun s dp h => w_X1_ex σ (m + 1) s dp h h8 h1⟩
theorem c_X1_readExpression (σ : Sg) (s : Pp)  : Ct l G yX1_readExpression cX1_readExpression 4 (some .boolean) 19 0 0 [.ref (lay G 8), .int (I32 0)] (stF σ s) (some (.int (I32 (b2i (pEx (KC σ) s).1)))) (stF σ (pEx (KC σ) s).2) := by
  have h := (c_X1_oneex (l := l) (G := G) σ 8 (by omega)).2 s 0 (by omega)
  rw [pD_8] at h
  exact h
set_option maxRecDepth 100000 in
set_option maxHeartbeats 4000000 in
theorem w_X1_readMeal {f : Fm} (σ : Sg)  : ∀ (n : Nat) (i : Int) (p : Bool) (s : Pp) (r : Option Value) (σ1 : Sg), 0 ≤ i → i + n = 1500 → r = some (.int (I32 (b2i (andP (lp p (KC σ) 19 (pA (pT (KC σ) 19) (pEx (KC σ))) n s) (pT (KC σ) 17)).1))) → σ1 = stF σ (andP (lp p (KC σ) 19 (pA (pT (KC σ) 19) (pEx (KC σ))) n s) (pT (KC σ) 17)).2 → AW l G f (RX1, cX1_readMeal, 3, (some .boolean)) (20, 0, 0) (QT G f 0 0 r σ1) [] 0 0 42 [(2, .int (I32 i)), (1, .int (I32 (b2i p))), (0, .ref (lay G 8))] [] (stF σ s) := by
  intro n
  induction n using Nat.strongRecOn with | _ n ih =>
  intro i p s r σ1 h0 hn hr hs
  refine A_iload_n dX1_readMeal_42 rfl 0 rfl ?_
  refine A_sipush dX1_readMeal_43 (by decide +kernel) ?_
  refine J_icmp_ge (tgt := 91) dX1_readMeal_46 (by decide) (by first | with_reducible exact i32_eq (KC_inr _ _) | exact i32_eq (by assumption) | exact i32_eq ⟨by omega, by omega⟩ | with_reducible exact i32_i32 _ | rfl) (by first | with_reducible exact i32_eq (KC_inr _ _) | exact i32_eq (by assumption) | exact i32_eq ⟨by omega, by omega⟩ | with_reducible exact i32_i32 _ | rfl) (fun h46 => ?_) (fun h46 => ?_)
  · refine A_iload_n dX1_readMeal_91 rfl 1 rfl ?_
    refine A_ifeq_b (tgt := 108) dX1_readMeal_92 (by decide) (fun h92 => ?_) (fun h92 => ?_)
    · refine A_iconst dX1_readMeal_108 ?_
      exact A_zret2 dX1_readMeal_109 (by decide) (by rw [hr]; clear ih; rcases n with _ | n <;> cases p <;> simp_all [lp, pR, pA, andP, b2i_t, b2i_f] <;> omega) (by rw [hs]; clear ih; rcases n with _ | n <;> cases p <;> simp_all [lp, pR, pA, andP, b2i_t, b2i_f] <;> omega)
    · refine A_aload_n dX1_readMeal_95 rfl 2 rfl ?_
      refine A_bipush dX1_readMeal_96 (by decide +kernel) ?_
      refine A_Va1 mv_X1_50 lk_8 rfl rfl (c_X1_take _ _ _ ⟨by decide, by decide⟩) (Nat.le_of_ble_eq_true rfl) (by omega) (by omega) dX1_readMeal_98 ?_
      try simp only [KC_stF, SC_stF, stF_1, stF_2, stF_s, stF_at, stF_n]
      refine A_ifeq_b (tgt := 108) dX1_readMeal_101 (by decide) (fun h101 => ?_) (fun h101 => ?_)
      · refine A_iconst dX1_readMeal_108 ?_
        exact A_zret2 dX1_readMeal_109 (by decide) (by rw [hr]; clear ih; rcases n with _ | n <;> cases p <;> simp_all [lp, pR, pA, andP, b2i_t, b2i_f] <;> omega) (by rw [hs]; clear ih; rcases n with _ | n <;> cases p <;> simp_all [lp, pR, pA, andP, b2i_t, b2i_f] <;> omega)
      · refine A_iconst dX1_readMeal_104 ?_
        refine A_goto (tgt := 109) dX1_readMeal_105 (by decide) ?_
        exact A_zret2 dX1_readMeal_109 (by decide) (by rw [hr]; clear ih; rcases n with _ | n <;> cases p <;> simp_all [lp, pR, pA, andP, b2i_t, b2i_f] <;> omega) (by rw [hs]; clear ih; rcases n with _ | n <;> cases p <;> simp_all [lp, pR, pA, andP, b2i_t, b2i_f] <;> omega)
  · refine A_iload_n dX1_readMeal_49 rfl 1 rfl ?_
    refine A_ifeq_b (tgt := 91) dX1_readMeal_50 (by decide) (fun h50 => ?_) (fun h50 => ?_)
    · refine A_iload_n dX1_readMeal_91 rfl 1 rfl ?_
      refine A_ifeq_b (tgt := 108) dX1_readMeal_92 (by decide) (fun h92 => ?_) (fun h92 => ?_)
      · refine A_iconst dX1_readMeal_108 ?_
        exact A_zret2 dX1_readMeal_109 (by decide) (by rw [hr]; clear ih; rcases n with _ | n <;> cases p <;> simp_all [lp, pR, pA, andP, b2i_t, b2i_f] <;> omega) (by rw [hs]; clear ih; rcases n with _ | n <;> cases p <;> simp_all [lp, pR, pA, andP, b2i_t, b2i_f] <;> omega)
      · refine A_aload_n dX1_readMeal_95 rfl 2 rfl ?_
        refine A_bipush dX1_readMeal_96 (by decide +kernel) ?_
        refine A_Va1 mv_X1_50 lk_8 rfl rfl (c_X1_take _ _ _ ⟨by decide, by decide⟩) (Nat.le_of_ble_eq_true rfl) (by omega) (by omega) dX1_readMeal_98 ?_
        try simp only [KC_stF, SC_stF, stF_1, stF_2, stF_s, stF_at, stF_n]
        refine A_ifeq_b (tgt := 108) dX1_readMeal_101 (by decide) (fun h101 => ?_) (fun h101 => ?_)
        · refine A_iconst dX1_readMeal_108 ?_
          exact A_zret2 dX1_readMeal_109 (by decide) (by rw [hr]; clear ih; rcases n with _ | n <;> cases p <;> simp_all [lp, pR, pA, andP, b2i_t, b2i_f] <;> omega) (by rw [hs]; clear ih; rcases n with _ | n <;> cases p <;> simp_all [lp, pR, pA, andP, b2i_t, b2i_f] <;> omega)
        · refine A_iconst dX1_readMeal_104 ?_
          refine A_goto (tgt := 109) dX1_readMeal_105 (by decide) ?_
          exact A_zret2 dX1_readMeal_109 (by decide) (by rw [hr]; clear ih; rcases n with _ | n <;> cases p <;> simp_all [lp, pR, pA, andP, b2i_t, b2i_f] <;> omega) (by rw [hs]; clear ih; rcases n with _ | n <;> cases p <;> simp_all [lp, pR, pA, andP, b2i_t, b2i_f] <;> omega)
    · refine A_aload_n dX1_readMeal_53 rfl 2 rfl ?_
      refine A_bipush dX1_readMeal_54 (by decide +kernel) ?_
      refine A_Va1 mv_X1_23 lk_8 rfl rfl (c_X1_isKind _ _ _ ⟨by decide, by decide⟩) (Nat.le_of_ble_eq_true rfl) (by omega) (by omega) dX1_readMeal_56 ?_
      try simp only [KC_stF, SC_stF, stF_1, stF_2, stF_s, stF_at, stF_n]
      refine A_ifeq_b (tgt := 91) dX1_readMeal_59 (by decide) (fun h59 => ?_) (fun h59 => ?_)
      · refine A_iload_n dX1_readMeal_91 rfl 1 rfl ?_
        refine A_ifeq_b (tgt := 108) dX1_readMeal_92 (by decide) (fun h92 => ?_) (fun h92 => ?_)
        · refine A_iconst dX1_readMeal_108 ?_
          exact A_zret2 dX1_readMeal_109 (by decide) (by rw [hr]; clear ih; rcases n with _ | n <;> cases p <;> simp_all [lp, pR, pA, andP, b2i_t, b2i_f] <;> omega) (by rw [hs]; clear ih; rcases n with _ | n <;> cases p <;> simp_all [lp, pR, pA, andP, b2i_t, b2i_f] <;> omega)
        · refine A_aload_n dX1_readMeal_95 rfl 2 rfl ?_
          refine A_bipush dX1_readMeal_96 (by decide +kernel) ?_
          refine A_Va1 mv_X1_50 lk_8 rfl rfl (c_X1_take _ _ _ ⟨by decide, by decide⟩) (Nat.le_of_ble_eq_true rfl) (by omega) (by omega) dX1_readMeal_98 ?_
          try simp only [KC_stF, SC_stF, stF_1, stF_2, stF_s, stF_at, stF_n]
          refine A_ifeq_b (tgt := 108) dX1_readMeal_101 (by decide) (fun h101 => ?_) (fun h101 => ?_)
          · refine A_iconst dX1_readMeal_108 ?_
            exact A_zret2 dX1_readMeal_109 (by decide) (by rw [hr]; clear ih; rcases n with _ | n <;> cases p <;> simp_all [lp, pR, pA, andP, b2i_t, b2i_f] <;> omega) (by rw [hs]; clear ih; rcases n with _ | n <;> cases p <;> simp_all [lp, pR, pA, andP, b2i_t, b2i_f] <;> omega)
          · refine A_iconst dX1_readMeal_104 ?_
            refine A_goto (tgt := 109) dX1_readMeal_105 (by decide) ?_
            exact A_zret2 dX1_readMeal_109 (by decide) (by rw [hr]; clear ih; rcases n with _ | n <;> cases p <;> simp_all [lp, pR, pA, andP, b2i_t, b2i_f] <;> omega) (by rw [hs]; clear ih; rcases n with _ | n <;> cases p <;> simp_all [lp, pR, pA, andP, b2i_t, b2i_f] <;> omega)
      · refine A_aload_n dX1_readMeal_62 rfl 2 rfl ?_
        refine A_bipush dX1_readMeal_63 (by decide +kernel) ?_
        refine A_Va1 mv_X1_50 lk_8 rfl rfl (c_X1_take _ _ _ ⟨by decide, by decide⟩) (Nat.le_of_ble_eq_true rfl) (by omega) (by omega) dX1_readMeal_65 ?_
        try simp only [KC_stF, SC_stF, stF_1, stF_2, stF_s, stF_at, stF_n]
        refine A_ifeq_b (tgt := 83) dX1_readMeal_68 (by decide) (fun h68 => ?_) (fun h68 => ?_)
        · refine A_iconst dX1_readMeal_83 ?_
          refine A_istore_n (lv2 := [(1, _), (2, _), (0, _)]) dX1_readMeal_84 rfl (by decide) rfl ?_
          refine A_iinc (lv2 := [(2, _), (1, _), (0, _)]) dX1_readMeal_85 1 rfl (by decide) rfl ?_
          refine A_goto (tgt := 42) dX1_readMeal_88 (by decide) ?_
          refine A_lv [0, 1, 2] rfl ?_
          exact ih (n - 1) (by omega) (i + 1) false _ r σ1 (by omega) (by omega) (by rw [hr]; obtain ⟨n, rfl⟩ : ∃ q, n = q + 1 := ⟨n - 1, by omega⟩; first | (simp [lp, pR, pA, *]; done) | (clear ih; simp_all [lp, pR, pA]; done)) (by rw [hs]; obtain ⟨n, rfl⟩ : ∃ q, n = q + 1 := ⟨n - 1, by omega⟩; first | (simp [lp, pR, pA, *]; done) | (clear ih; simp_all [lp, pR, pA]; done))
        · refine A_aload_n dX1_readMeal_71 rfl 2 rfl ?_
          refine A_iconst dX1_readMeal_72 ?_
          refine A_Va1 mv_X1_47 lk_8 rfl rfl (c_X1_readExpression _ _) (Nat.le_of_ble_eq_true rfl) (by omega) (by omega) dX1_readMeal_73 ?_
          try simp only [KC_stF, SC_stF, stF_1, stF_2, stF_s, stF_at, stF_n]
          refine A_ifeq_b (tgt := 83) dX1_readMeal_76 (by decide) (fun h76 => ?_) (fun h76 => ?_)
          · refine A_iconst dX1_readMeal_83 ?_
            refine A_istore_n (lv2 := [(1, _), (2, _), (0, _)]) dX1_readMeal_84 rfl (by decide) rfl ?_
            refine A_iinc (lv2 := [(2, _), (1, _), (0, _)]) dX1_readMeal_85 1 rfl (by decide) rfl ?_
            refine A_goto (tgt := 42) dX1_readMeal_88 (by decide) ?_
            refine A_lv [0, 1, 2] rfl ?_
            exact ih (n - 1) (by omega) (i + 1) false _ r σ1 (by omega) (by omega) (by rw [hr]; obtain ⟨n, rfl⟩ : ∃ q, n = q + 1 := ⟨n - 1, by omega⟩; first | (simp [lp, pR, pA, *]; done) | (clear ih; simp_all [lp, pR, pA]; done)) (by rw [hs]; obtain ⟨n, rfl⟩ : ∃ q, n = q + 1 := ⟨n - 1, by omega⟩; first | (simp [lp, pR, pA, *]; done) | (clear ih; simp_all [lp, pR, pA]; done))
          · refine A_iconst dX1_readMeal_79 ?_
            refine A_goto (tgt := 84) dX1_readMeal_80 (by decide) ?_
            refine A_istore_n (lv2 := [(1, _), (2, _), (0, _)]) dX1_readMeal_84 rfl (by decide) rfl ?_
            refine A_iinc (lv2 := [(2, _), (1, _), (0, _)]) dX1_readMeal_85 1 rfl (by decide) rfl ?_
            refine A_goto (tgt := 42) dX1_readMeal_88 (by decide) ?_
            refine A_lv [0, 1, 2] rfl ?_
            exact ih (n - 1) (by omega) (i + 1) true _ r σ1 (by omega) (by omega) (by rw [hr]; obtain ⟨n, rfl⟩ : ∃ q, n = q + 1 := ⟨n - 1, by omega⟩; first | (simp [lp, pR, pA, *]; done) | (clear ih; simp_all [lp, pR, pA]; done)) (by rw [hs]; obtain ⟨n, rfl⟩ : ∃ q, n = q + 1 := ⟨n - 1, by omega⟩; first | (simp [lp, pR, pA, *]; done) | (clear ih; simp_all [lp, pR, pA]; done))
set_option maxRecDepth 100000 in
set_option maxHeartbeats 4000000 in
theorem c_X1_readMeal (σ : Sg) (s : Pp)  : Ct l G yX1_readMeal cX1_readMeal 3 (some .boolean) 20 0 0 [.ref (lay G 8)] (stF σ s) (some (.int (I32 (b2i (pMeal (KC σ) s).1)))) (stF σ (pMeal (KC σ) s).2) := by
  refine Ct.of (by decide +kernel) (Nat.le_of_ble_eq_true rfl) (fun f => ?_)
  show AW _ _ _ _ _ _ _ _ _ _ [(0, _)] _ _
  refine A_aload_n dX1_readMeal_0 rfl 0 rfl ?_
  refine A_iconst dX1_readMeal_1 ?_
  refine A_Va1 mv_X1_50 lk_8 rfl rfl (c_X1_take _ _ _ ⟨by decide, by decide⟩) (Nat.le_of_ble_eq_true rfl) (by omega) (by omega) dX1_readMeal_2 ?_
  try simp only [KC_stF, SC_stF, stF_1, stF_2, stF_s, stF_at, stF_n]
  refine A_ifeq_b (tgt := 38) dX1_readMeal_5 (by decide) (fun h5 => ?_) (fun h5 => ?_)
  · refine A_iconst dX1_readMeal_38 ?_
    refine A_istore_n (lv2 := [(1, _), (0, _)]) dX1_readMeal_39 rfl (by decide) rfl ?_
    refine A_iconst dX1_readMeal_40 ?_
    refine A_istore_n (lv2 := [(2, _), (1, _), (0, _)]) dX1_readMeal_41 rfl (by decide) rfl ?_
    refine A_lv [0, 1, 2] rfl ?_
    exact w_X1_readMeal σ 1500 0 false _ _ _ (by omega) (by omega) (by first | (simp [pMeal, lp, pA, pO, andP, *]; done) | (simp_all [pMeal, lp, pA, pO, andP]; done)) (by first | (simp [pMeal, lp, pA, pO, andP, *]; done) | (simp_all [pMeal, lp, pA, pO, andP]; done))
  · refine A_aload_n dX1_readMeal_8 rfl 0 rfl ?_
    refine A_bipush dX1_readMeal_9 (by decide +kernel) ?_
    refine A_Va1 mv_X1_50 lk_8 rfl rfl (c_X1_take _ _ _ ⟨by decide, by decide⟩) (Nat.le_of_ble_eq_true rfl) (by omega) (by omega) dX1_readMeal_11 ?_
    try simp only [KC_stF, SC_stF, stF_1, stF_2, stF_s, stF_at, stF_n]
    refine A_ifeq_b (tgt := 38) dX1_readMeal_14 (by decide) (fun h14 => ?_) (fun h14 => ?_)
    · refine A_iconst dX1_readMeal_38 ?_
      refine A_istore_n (lv2 := [(1, _), (0, _)]) dX1_readMeal_39 rfl (by decide) rfl ?_
      refine A_iconst dX1_readMeal_40 ?_
      refine A_istore_n (lv2 := [(2, _), (1, _), (0, _)]) dX1_readMeal_41 rfl (by decide) rfl ?_
      refine A_lv [0, 1, 2] rfl ?_
      exact w_X1_readMeal σ 1500 0 false _ _ _ (by omega) (by omega) (by first | (simp [pMeal, lp, pA, pO, andP, *]; done) | (simp_all [pMeal, lp, pA, pO, andP]; done)) (by first | (simp [pMeal, lp, pA, pO, andP, *]; done) | (simp_all [pMeal, lp, pA, pO, andP]; done))
    · refine A_aload_n dX1_readMeal_17 rfl 0 rfl ?_
      refine A_bipush dX1_readMeal_18 (by decide +kernel) ?_
      refine A_Va1 mv_X1_50 lk_8 rfl rfl (c_X1_take _ _ _ ⟨by decide, by decide⟩) (Nat.le_of_ble_eq_true rfl) (by omega) (by omega) dX1_readMeal_20 ?_
      try simp only [KC_stF, SC_stF, stF_1, stF_2, stF_s, stF_at, stF_n]
      refine A_ifeq_b (tgt := 38) dX1_readMeal_23 (by decide) (fun h23 => ?_) (fun h23 => ?_)
      · refine A_iconst dX1_readMeal_38 ?_
        refine A_istore_n (lv2 := [(1, _), (0, _)]) dX1_readMeal_39 rfl (by decide) rfl ?_
        refine A_iconst dX1_readMeal_40 ?_
        refine A_istore_n (lv2 := [(2, _), (1, _), (0, _)]) dX1_readMeal_41 rfl (by decide) rfl ?_
        refine A_lv [0, 1, 2] rfl ?_
        exact w_X1_readMeal σ 1500 0 false _ _ _ (by omega) (by omega) (by first | (simp [pMeal, lp, pA, pO, andP, *]; done) | (simp_all [pMeal, lp, pA, pO, andP]; done)) (by first | (simp [pMeal, lp, pA, pO, andP, *]; done) | (simp_all [pMeal, lp, pA, pO, andP]; done))
      · refine A_aload_n dX1_readMeal_26 rfl 0 rfl ?_
        refine A_iconst dX1_readMeal_27 ?_
        refine A_Va1 mv_X1_47 lk_8 rfl rfl (c_X1_readExpression _ _) (Nat.le_of_ble_eq_true rfl) (by omega) (by omega) dX1_readMeal_28 ?_
        try simp only [KC_stF, SC_stF, stF_1, stF_2, stF_s, stF_at, stF_n]
        refine A_ifeq_b (tgt := 38) dX1_readMeal_31 (by decide) (fun h31 => ?_) (fun h31 => ?_)
        · refine A_iconst dX1_readMeal_38 ?_
          refine A_istore_n (lv2 := [(1, _), (0, _)]) dX1_readMeal_39 rfl (by decide) rfl ?_
          refine A_iconst dX1_readMeal_40 ?_
          refine A_istore_n (lv2 := [(2, _), (1, _), (0, _)]) dX1_readMeal_41 rfl (by decide) rfl ?_
          refine A_lv [0, 1, 2] rfl ?_
          exact w_X1_readMeal σ 1500 0 false _ _ _ (by omega) (by omega) (by first | (simp [pMeal, lp, pA, pO, andP, *]; done) | (simp_all [pMeal, lp, pA, pO, andP]; done)) (by first | (simp [pMeal, lp, pA, pO, andP, *]; done) | (simp_all [pMeal, lp, pA, pO, andP]; done))
        · refine A_iconst dX1_readMeal_34 ?_
          refine A_goto (tgt := 39) dX1_readMeal_35 (by decide) ?_
          refine A_istore_n (lv2 := [(1, _), (0, _)]) dX1_readMeal_39 rfl (by decide) rfl ?_
          refine A_iconst dX1_readMeal_40 ?_
          refine A_istore_n (lv2 := [(2, _), (1, _), (0, _)]) dX1_readMeal_41 rfl (by decide) rfl ?_
          refine A_lv [0, 1, 2] rfl ?_
          exact w_X1_readMeal σ 1500 0 true _ _ _ (by omega) (by omega) (by first | (simp [pMeal, lp, pA, pO, andP, *]; done) | (simp_all [pMeal, lp, pA, pO, andP]; done)) (by first | (simp [pMeal, lp, pA, pO, andP, *]; done) | (simp_all [pMeal, lp, pA, pO, andP]; done))
def pItem (K : Int → Int) (s : Pp) : Bool × Pp := if K s.1 = 0 then pFood K s else if K s.1 = 1 then pDish K s else if K s.1 = 5 then pMeal K s else if K s.1 = 6 then pRule K s else (false, s)
def pQ (K : Int → Int) : Nat → Bool → Pp → Bool × Pp
  | 0, _, s => (true, s)
  | n + 1, b, s => if b = true ∨ K s.1 ≠ 25 then (if (pItem K s).1 = true then pQ K n false (pItem K s).2 else (false, (pItem K s).2)) else (true, s)
def lq (p : Bool) (K : Int → Int) (n : Nat) (b : Bool) (s : Pp) : Bool × Pp := if p = true then pQ K n b s else (false, s)
def eP (σ : Sg) (x : Bool × Pp) : Int := if x.1 = true then -1 else SC σ x.2.1
set_option maxRecDepth 100000 in
set_option maxHeartbeats 4000000 in
theorem w_X1_errorInProgram {f : Fm} (σ : Sg)  : ∀ (n : Nat) (i : Int) (p : Bool) (s : Pp) (r : Option Value) (σ1 : Sg), 0 ≤ i → i + n = 1500 → r = some (.int (I32 (eP σ (lq p (KC σ) n (decide (i = 0)) s)))) → σ1 = stF σ (lq p (KC σ) n (decide (i = 0)) s).2 → AW l G f (RX1, cX1_errorInProgram, 3, (some .int)) (21, 0, 0) (QT G f 0 0 r σ1) [] 0 0 9 [(2, .int (I32 i)), (1, .int (I32 (b2i p))), (0, .ref (lay G 8))] [] (stF σ s) := by
  intro n
  induction n using Nat.strongRecOn with | _ n ih =>
  intro i p s r σ1 h0 hn hr hs
  refine A_iload_n dX1_errorInProgram_9 rfl 0 rfl ?_
  refine A_sipush dX1_errorInProgram_10 (by decide +kernel) ?_
  refine J_icmp_ge (tgt := 128) dX1_errorInProgram_13 (by decide) (by first | with_reducible exact i32_eq (KC_inr _ _) | exact i32_eq (by assumption) | exact i32_eq ⟨by omega, by omega⟩ | with_reducible exact i32_i32 _ | rfl) (by first | with_reducible exact i32_eq (KC_inr _ _) | exact i32_eq (by assumption) | exact i32_eq ⟨by omega, by omega⟩ | with_reducible exact i32_i32 _ | rfl) (fun h13 => ?_) (fun h13 => ?_)
  · refine A_iload_n dX1_errorInProgram_128 rfl 1 rfl ?_
    refine A_ifeq_b (tgt := 136) dX1_errorInProgram_129 (by decide) (fun h129 => ?_) (fun h129 => ?_)
    · refine A_aload_n dX1_errorInProgram_136 rfl 2 rfl ?_
      refine A_getr fl_X1_9 lk_8 rfl dX1_errorInProgram_137 ?_
      refine A_aload_n dX1_errorInProgram_140 rfl 2 rfl ?_
      refine A_geti fl_X1_15 lk_8 rfl dX1_errorInProgram_141 ?_
      try simp (disch := decide) only [up_k, up_j, up_s, KC_stF, SC_stF, stF_1, stF_2, stF_s, stF_at, stF_n]
      refine A_Va1 mv_X1_44 lk_3 rfl rfl (c_X9_startOf _ _) (Nat.le_of_ble_eq_true rfl) (by omega) (by omega) dX1_errorInProgram_144 ?_
      try simp only [KC_stF, SC_stF, stF_1, stF_2, stF_s, stF_at, stF_n]
      exact A_iret dX1_errorInProgram_147 (by rw [hr]; clear ih; rcases n with _ | n <;> cases p <;> simp_all [lq, pQ, eP] <;> omega) (by rw [hs]; clear ih; rcases n with _ | n <;> cases p <;> simp_all [lq, pQ, eP] <;> omega)
    · refine A_iconst dX1_errorInProgram_132 ?_
      refine A_goto (tgt := 147) dX1_errorInProgram_133 (by decide) ?_
      exact A_iret dX1_errorInProgram_147 (by rw [hr]; clear ih; rcases n with _ | n <;> cases p <;> simp_all [lq, pQ, eP] <;> omega) (by rw [hs]; clear ih; rcases n with _ | n <;> cases p <;> simp_all [lq, pQ, eP] <;> omega)
  · refine A_iload_n dX1_errorInProgram_16 rfl 1 rfl ?_
    refine A_ifeq_b (tgt := 128) dX1_errorInProgram_17 (by decide) (fun h17 => ?_) (fun h17 => ?_)
    · refine A_iload_n dX1_errorInProgram_128 rfl 1 rfl ?_
      refine A_ifeq_b (tgt := 136) dX1_errorInProgram_129 (by decide) (fun h129 => ?_) (fun h129 => ?_)
      · refine A_aload_n dX1_errorInProgram_136 rfl 2 rfl ?_
        refine A_getr fl_X1_9 lk_8 rfl dX1_errorInProgram_137 ?_
        refine A_aload_n dX1_errorInProgram_140 rfl 2 rfl ?_
        refine A_geti fl_X1_15 lk_8 rfl dX1_errorInProgram_141 ?_
        try simp (disch := decide) only [up_k, up_j, up_s, KC_stF, SC_stF, stF_1, stF_2, stF_s, stF_at, stF_n]
        refine A_Va1 mv_X1_44 lk_3 rfl rfl (c_X9_startOf _ _) (Nat.le_of_ble_eq_true rfl) (by omega) (by omega) dX1_errorInProgram_144 ?_
        try simp only [KC_stF, SC_stF, stF_1, stF_2, stF_s, stF_at, stF_n]
        exact A_iret dX1_errorInProgram_147 (by rw [hr]; clear ih; rcases n with _ | n <;> cases p <;> simp_all [lq, pQ, eP] <;> omega) (by rw [hs]; clear ih; rcases n with _ | n <;> cases p <;> simp_all [lq, pQ, eP] <;> omega)
      · refine A_iconst dX1_errorInProgram_132 ?_
        refine A_goto (tgt := 147) dX1_errorInProgram_133 (by decide) ?_
        exact A_iret dX1_errorInProgram_147 (by rw [hr]; clear ih; rcases n with _ | n <;> cases p <;> simp_all [lq, pQ, eP] <;> omega) (by rw [hs]; clear ih; rcases n with _ | n <;> cases p <;> simp_all [lq, pQ, eP] <;> omega)
    · refine A_iload_n dX1_errorInProgram_20 rfl 0 rfl ?_
      refine J_if_eq (tgt := 33) dX1_errorInProgram_21 (by decide) (by first | with_reducible exact i32_eq (KC_inr _ _) | exact i32_eq (by assumption) | exact i32_eq ⟨by omega, by omega⟩ | with_reducible exact i32_i32 _ | rfl) (fun h21 => ?_) (fun h21 => ?_)
      · refine A_aload_n dX1_errorInProgram_33 rfl 2 rfl ?_
        refine A_getr fl_X1_9 lk_8 rfl dX1_errorInProgram_34 ?_
        refine A_aload_n dX1_errorInProgram_37 rfl 2 rfl ?_
        refine A_geti fl_X1_15 lk_8 rfl dX1_errorInProgram_38 ?_
        try simp (disch := decide) only [up_k, up_j, up_s, KC_stF, SC_stF, stF_1, stF_2, stF_s, stF_at, stF_n]
        refine A_Va1 mv_X1_27 lk_3 rfl rfl (c_X9_kindOf _ _) (Nat.le_of_ble_eq_true rfl) (by omega) (by omega) dX1_errorInProgram_41 ?_
        try simp only [KC_stF, SC_stF, stF_1, stF_2, stF_s, stF_at, stF_n]
        by_cases h44_0 : KC σ s.1 = 0
        · refine J_tsIn (tgt := 88) dX1_errorInProgram_44 ((i32_eq (KC_inr _ _)).trans h44_0) ⟨by decide, by decide⟩ (by decide) (by decide) rfl (by decide) ?_
          refine A_aload_n dX1_errorInProgram_88 rfl 2 rfl ?_
          refine A_Va0 mv_X1_31 lk_8 rfl rfl (c_X1_readFood _ _) (Nat.le_of_ble_eq_true rfl) (by omega) (by omega) dX1_errorInProgram_89 ?_
          try simp only [KC_stF, SC_stF, stF_1, stF_2, stF_s, stF_at, stF_n]
          refine A_istore_n (lv2 := [(1, _), (2, _), (0, _)]) dX1_errorInProgram_92 rfl (by decide) rfl ?_
          refine A_goto (tgt := 122) dX1_errorInProgram_93 (by decide) ?_
          refine A_iinc (lv2 := [(2, _), (1, _), (0, _)]) dX1_errorInProgram_122 1 rfl (by decide) rfl ?_
          refine A_goto (tgt := 9) dX1_errorInProgram_125 (by decide) ?_
          refine A_lv [0, 1, 2] rfl ?_
          exact ih (n - 1) (by omega) (i + 1) _ _ r σ1 (by omega) (by omega) (by rw [hr]; have hi : decide (i + 1 = 0) = false := decide_eq_false (by omega); clear ih; obtain ⟨n, rfl⟩ : ∃ q, n = q + 1 := ⟨n - 1, by omega⟩; rw [hi]; first | (simp [lq, pQ, pItem, *]; done) | (simp_all [lq, pQ, pItem]; done)) (by rw [hs]; have hi : decide (i + 1 = 0) = false := decide_eq_false (by omega); clear ih; obtain ⟨n, rfl⟩ : ∃ q, n = q + 1 := ⟨n - 1, by omega⟩; rw [hi]; first | (simp [lq, pQ, pItem, *]; done) | (simp_all [lq, pQ, pItem]; done))
        by_cases h44_1 : KC σ s.1 = 1
        · refine J_tsIn (tgt := 96) dX1_errorInProgram_44 ((i32_eq (KC_inr _ _)).trans h44_1) ⟨by decide, by decide⟩ (by decide) (by decide) rfl (by decide) ?_
          refine A_aload_n dX1_errorInProgram_96 rfl 2 rfl ?_
          refine A_Va0 mv_X1_35 lk_8 rfl rfl (c_X1_readDish _ _) (Nat.le_of_ble_eq_true rfl) (by omega) (by omega) dX1_errorInProgram_97 ?_
          try simp only [KC_stF, SC_stF, stF_1, stF_2, stF_s, stF_at, stF_n]
          refine A_istore_n (lv2 := [(1, _), (2, _), (0, _)]) dX1_errorInProgram_100 rfl (by decide) rfl ?_
          refine A_goto (tgt := 122) dX1_errorInProgram_101 (by decide) ?_
          refine A_iinc (lv2 := [(2, _), (1, _), (0, _)]) dX1_errorInProgram_122 1 rfl (by decide) rfl ?_
          refine A_goto (tgt := 9) dX1_errorInProgram_125 (by decide) ?_
          refine A_lv [0, 1, 2] rfl ?_
          exact ih (n - 1) (by omega) (i + 1) _ _ r σ1 (by omega) (by omega) (by rw [hr]; have hi : decide (i + 1 = 0) = false := decide_eq_false (by omega); clear ih; obtain ⟨n, rfl⟩ : ∃ q, n = q + 1 := ⟨n - 1, by omega⟩; rw [hi]; first | (simp [lq, pQ, pItem, *]; done) | (simp_all [lq, pQ, pItem]; done)) (by rw [hs]; have hi : decide (i + 1 = 0) = false := decide_eq_false (by omega); clear ih; obtain ⟨n, rfl⟩ : ∃ q, n = q + 1 := ⟨n - 1, by omega⟩; rw [hi]; first | (simp [lq, pQ, pItem, *]; done) | (simp_all [lq, pQ, pItem]; done))
        by_cases h44_2 : KC σ s.1 = 2
        · refine J_tsIn (tgt := 120) dX1_errorInProgram_44 ((i32_eq (KC_inr _ _)).trans h44_2) ⟨by decide, by decide⟩ (by decide) (by decide) rfl (by decide) ?_
          refine A_iconst dX1_errorInProgram_120 ?_
          refine A_istore_n (lv2 := [(1, _), (2, _), (0, _)]) dX1_errorInProgram_121 rfl (by decide) rfl ?_
          refine A_iinc (lv2 := [(2, _), (1, _), (0, _)]) dX1_errorInProgram_122 1 rfl (by decide) rfl ?_
          refine A_goto (tgt := 9) dX1_errorInProgram_125 (by decide) ?_
          refine A_lv [0, 1, 2] rfl ?_
          exact ih (n - 1) (by omega) (i + 1) false _ r σ1 (by omega) (by omega) (by rw [hr]; have hi : decide (i + 1 = 0) = false := decide_eq_false (by omega); clear ih; obtain ⟨n, rfl⟩ : ∃ q, n = q + 1 := ⟨n - 1, by omega⟩; rw [hi]; first | (simp [lq, pQ, pItem, *]; done) | (simp_all [lq, pQ, pItem]; done)) (by rw [hs]; have hi : decide (i + 1 = 0) = false := decide_eq_false (by omega); clear ih; obtain ⟨n, rfl⟩ : ∃ q, n = q + 1 := ⟨n - 1, by omega⟩; rw [hi]; first | (simp [lq, pQ, pItem, *]; done) | (simp_all [lq, pQ, pItem]; done))
        by_cases h44_3 : KC σ s.1 = 3
        · refine J_tsIn (tgt := 120) dX1_errorInProgram_44 ((i32_eq (KC_inr _ _)).trans h44_3) ⟨by decide, by decide⟩ (by decide) (by decide) rfl (by decide) ?_
          refine A_iconst dX1_errorInProgram_120 ?_
          refine A_istore_n (lv2 := [(1, _), (2, _), (0, _)]) dX1_errorInProgram_121 rfl (by decide) rfl ?_
          refine A_iinc (lv2 := [(2, _), (1, _), (0, _)]) dX1_errorInProgram_122 1 rfl (by decide) rfl ?_
          refine A_goto (tgt := 9) dX1_errorInProgram_125 (by decide) ?_
          refine A_lv [0, 1, 2] rfl ?_
          exact ih (n - 1) (by omega) (i + 1) false _ r σ1 (by omega) (by omega) (by rw [hr]; have hi : decide (i + 1 = 0) = false := decide_eq_false (by omega); clear ih; obtain ⟨n, rfl⟩ : ∃ q, n = q + 1 := ⟨n - 1, by omega⟩; rw [hi]; first | (simp [lq, pQ, pItem, *]; done) | (simp_all [lq, pQ, pItem]; done)) (by rw [hs]; have hi : decide (i + 1 = 0) = false := decide_eq_false (by omega); clear ih; obtain ⟨n, rfl⟩ : ∃ q, n = q + 1 := ⟨n - 1, by omega⟩; rw [hi]; first | (simp [lq, pQ, pItem, *]; done) | (simp_all [lq, pQ, pItem]; done))
        by_cases h44_4 : KC σ s.1 = 4
        · refine J_tsIn (tgt := 120) dX1_errorInProgram_44 ((i32_eq (KC_inr _ _)).trans h44_4) ⟨by decide, by decide⟩ (by decide) (by decide) rfl (by decide) ?_
          refine A_iconst dX1_errorInProgram_120 ?_
          refine A_istore_n (lv2 := [(1, _), (2, _), (0, _)]) dX1_errorInProgram_121 rfl (by decide) rfl ?_
          refine A_iinc (lv2 := [(2, _), (1, _), (0, _)]) dX1_errorInProgram_122 1 rfl (by decide) rfl ?_
          refine A_goto (tgt := 9) dX1_errorInProgram_125 (by decide) ?_
          refine A_lv [0, 1, 2] rfl ?_
          exact ih (n - 1) (by omega) (i + 1) false _ r σ1 (by omega) (by omega) (by rw [hr]; have hi : decide (i + 1 = 0) = false := decide_eq_false (by omega); clear ih; obtain ⟨n, rfl⟩ : ∃ q, n = q + 1 := ⟨n - 1, by omega⟩; rw [hi]; first | (simp [lq, pQ, pItem, *]; done) | (simp_all [lq, pQ, pItem]; done)) (by rw [hs]; have hi : decide (i + 1 = 0) = false := decide_eq_false (by omega); clear ih; obtain ⟨n, rfl⟩ : ∃ q, n = q + 1 := ⟨n - 1, by omega⟩; rw [hi]; first | (simp [lq, pQ, pItem, *]; done) | (simp_all [lq, pQ, pItem]; done))
        by_cases h44_5 : KC σ s.1 = 5
        · refine J_tsIn (tgt := 104) dX1_errorInProgram_44 ((i32_eq (KC_inr _ _)).trans h44_5) ⟨by decide, by decide⟩ (by decide) (by decide) rfl (by decide) ?_
          refine A_aload_n dX1_errorInProgram_104 rfl 2 rfl ?_
          refine A_Va0 mv_X1_38 lk_8 rfl rfl (c_X1_readMeal _ _) (Nat.le_of_ble_eq_true rfl) (by omega) (by omega) dX1_errorInProgram_105 ?_
          try simp only [KC_stF, SC_stF, stF_1, stF_2, stF_s, stF_at, stF_n]
          refine A_istore_n (lv2 := [(1, _), (2, _), (0, _)]) dX1_errorInProgram_108 rfl (by decide) rfl ?_
          refine A_goto (tgt := 122) dX1_errorInProgram_109 (by decide) ?_
          refine A_iinc (lv2 := [(2, _), (1, _), (0, _)]) dX1_errorInProgram_122 1 rfl (by decide) rfl ?_
          refine A_goto (tgt := 9) dX1_errorInProgram_125 (by decide) ?_
          refine A_lv [0, 1, 2] rfl ?_
          exact ih (n - 1) (by omega) (i + 1) _ _ r σ1 (by omega) (by omega) (by rw [hr]; have hi : decide (i + 1 = 0) = false := decide_eq_false (by omega); clear ih; obtain ⟨n, rfl⟩ : ∃ q, n = q + 1 := ⟨n - 1, by omega⟩; rw [hi]; first | (simp [lq, pQ, pItem, *]; done) | (simp_all [lq, pQ, pItem]; done)) (by rw [hs]; have hi : decide (i + 1 = 0) = false := decide_eq_false (by omega); clear ih; obtain ⟨n, rfl⟩ : ∃ q, n = q + 1 := ⟨n - 1, by omega⟩; rw [hi]; first | (simp [lq, pQ, pItem, *]; done) | (simp_all [lq, pQ, pItem]; done))
        by_cases h44_6 : KC σ s.1 = 6
        · refine J_tsIn (tgt := 112) dX1_errorInProgram_44 ((i32_eq (KC_inr _ _)).trans h44_6) ⟨by decide, by decide⟩ (by decide) (by decide) rfl (by decide) ?_
          refine A_aload_n dX1_errorInProgram_112 rfl 2 rfl ?_
          refine A_Va0 mv_X1_41 lk_8 rfl rfl (c_X1_readRule _ _) (Nat.le_of_ble_eq_true rfl) (by omega) (by omega) dX1_errorInProgram_113 ?_
          try simp only [KC_stF, SC_stF, stF_1, stF_2, stF_s, stF_at, stF_n]
          refine A_istore_n (lv2 := [(1, _), (2, _), (0, _)]) dX1_errorInProgram_116 rfl (by decide) rfl ?_
          refine A_goto (tgt := 122) dX1_errorInProgram_117 (by decide) ?_
          refine A_iinc (lv2 := [(2, _), (1, _), (0, _)]) dX1_errorInProgram_122 1 rfl (by decide) rfl ?_
          refine A_goto (tgt := 9) dX1_errorInProgram_125 (by decide) ?_
          refine A_lv [0, 1, 2] rfl ?_
          exact ih (n - 1) (by omega) (i + 1) _ _ r σ1 (by omega) (by omega) (by rw [hr]; have hi : decide (i + 1 = 0) = false := decide_eq_false (by omega); clear ih; obtain ⟨n, rfl⟩ : ∃ q, n = q + 1 := ⟨n - 1, by omega⟩; rw [hi]; first | (simp [lq, pQ, pItem, *]; done) | (simp_all [lq, pQ, pItem]; done)) (by rw [hs]; have hi : decide (i + 1 = 0) = false := decide_eq_false (by omega); clear ih; obtain ⟨n, rfl⟩ : ∃ q, n = q + 1 := ⟨n - 1, by omega⟩; rw [hi]; first | (simp [lq, pQ, pItem, *]; done) | (simp_all [lq, pQ, pItem]; done))
        refine J_tsOut (tgt := 120) dX1_errorInProgram_44 (by rw [i32_eq (KC_inr _ _)]; omega) (by decide) ?_
        refine A_iconst dX1_errorInProgram_120 ?_
        refine A_istore_n (lv2 := [(1, _), (2, _), (0, _)]) dX1_errorInProgram_121 rfl (by decide) rfl ?_
        refine A_iinc (lv2 := [(2, _), (1, _), (0, _)]) dX1_errorInProgram_122 1 rfl (by decide) rfl ?_
        refine A_goto (tgt := 9) dX1_errorInProgram_125 (by decide) ?_
        refine A_lv [0, 1, 2] rfl ?_
        exact ih (n - 1) (by omega) (i + 1) false _ r σ1 (by omega) (by omega) (by rw [hr]; have hi : decide (i + 1 = 0) = false := decide_eq_false (by omega); clear ih; obtain ⟨n, rfl⟩ : ∃ q, n = q + 1 := ⟨n - 1, by omega⟩; rw [hi]; first | (simp [lq, pQ, pItem, *]; done) | (simp_all [lq, pQ, pItem]; done)) (by rw [hs]; have hi : decide (i + 1 = 0) = false := decide_eq_false (by omega); clear ih; obtain ⟨n, rfl⟩ : ∃ q, n = q + 1 := ⟨n - 1, by omega⟩; rw [hi]; first | (simp [lq, pQ, pItem, *]; done) | (simp_all [lq, pQ, pItem]; done))
      · refine A_aload_n dX1_errorInProgram_24 rfl 2 rfl ?_
        refine A_bipush dX1_errorInProgram_25 (by decide +kernel) ?_
        refine A_Va1 mv_X1_23 lk_8 rfl rfl (c_X1_isKind _ _ _ ⟨by decide, by decide⟩) (Nat.le_of_ble_eq_true rfl) (by omega) (by omega) dX1_errorInProgram_27 ?_
        try simp only [KC_stF, SC_stF, stF_1, stF_2, stF_s, stF_at, stF_n]
        refine A_ifne_b (tgt := 128) dX1_errorInProgram_30 (by decide) (fun h30 => ?_) (fun h30 => ?_)
        · refine A_iload_n dX1_errorInProgram_128 rfl 1 rfl ?_
          refine A_ifeq_b (tgt := 136) dX1_errorInProgram_129 (by decide) (fun h129 => ?_) (fun h129 => ?_)
          · refine A_aload_n dX1_errorInProgram_136 rfl 2 rfl ?_
            refine A_getr fl_X1_9 lk_8 rfl dX1_errorInProgram_137 ?_
            refine A_aload_n dX1_errorInProgram_140 rfl 2 rfl ?_
            refine A_geti fl_X1_15 lk_8 rfl dX1_errorInProgram_141 ?_
            try simp (disch := decide) only [up_k, up_j, up_s, KC_stF, SC_stF, stF_1, stF_2, stF_s, stF_at, stF_n]
            refine A_Va1 mv_X1_44 lk_3 rfl rfl (c_X9_startOf _ _) (Nat.le_of_ble_eq_true rfl) (by omega) (by omega) dX1_errorInProgram_144 ?_
            try simp only [KC_stF, SC_stF, stF_1, stF_2, stF_s, stF_at, stF_n]
            exact A_iret dX1_errorInProgram_147 (by rw [hr]; clear ih; rcases n with _ | n <;> cases p <;> simp_all [lq, pQ, eP] <;> omega) (by rw [hs]; clear ih; rcases n with _ | n <;> cases p <;> simp_all [lq, pQ, eP] <;> omega)
          · refine A_iconst dX1_errorInProgram_132 ?_
            refine A_goto (tgt := 147) dX1_errorInProgram_133 (by decide) ?_
            exact A_iret dX1_errorInProgram_147 (by rw [hr]; clear ih; rcases n with _ | n <;> cases p <;> simp_all [lq, pQ, eP] <;> omega) (by rw [hs]; clear ih; rcases n with _ | n <;> cases p <;> simp_all [lq, pQ, eP] <;> omega)
        · refine A_aload_n dX1_errorInProgram_33 rfl 2 rfl ?_
          refine A_getr fl_X1_9 lk_8 rfl dX1_errorInProgram_34 ?_
          refine A_aload_n dX1_errorInProgram_37 rfl 2 rfl ?_
          refine A_geti fl_X1_15 lk_8 rfl dX1_errorInProgram_38 ?_
          try simp (disch := decide) only [up_k, up_j, up_s, KC_stF, SC_stF, stF_1, stF_2, stF_s, stF_at, stF_n]
          refine A_Va1 mv_X1_27 lk_3 rfl rfl (c_X9_kindOf _ _) (Nat.le_of_ble_eq_true rfl) (by omega) (by omega) dX1_errorInProgram_41 ?_
          try simp only [KC_stF, SC_stF, stF_1, stF_2, stF_s, stF_at, stF_n]
          by_cases h44_0 : KC σ s.1 = 0
          · refine J_tsIn (tgt := 88) dX1_errorInProgram_44 ((i32_eq (KC_inr _ _)).trans h44_0) ⟨by decide, by decide⟩ (by decide) (by decide) rfl (by decide) ?_
            refine A_aload_n dX1_errorInProgram_88 rfl 2 rfl ?_
            refine A_Va0 mv_X1_31 lk_8 rfl rfl (c_X1_readFood _ _) (Nat.le_of_ble_eq_true rfl) (by omega) (by omega) dX1_errorInProgram_89 ?_
            try simp only [KC_stF, SC_stF, stF_1, stF_2, stF_s, stF_at, stF_n]
            refine A_istore_n (lv2 := [(1, _), (2, _), (0, _)]) dX1_errorInProgram_92 rfl (by decide) rfl ?_
            refine A_goto (tgt := 122) dX1_errorInProgram_93 (by decide) ?_
            refine A_iinc (lv2 := [(2, _), (1, _), (0, _)]) dX1_errorInProgram_122 1 rfl (by decide) rfl ?_
            refine A_goto (tgt := 9) dX1_errorInProgram_125 (by decide) ?_
            refine A_lv [0, 1, 2] rfl ?_
            exact ih (n - 1) (by omega) (i + 1) _ _ r σ1 (by omega) (by omega) (by rw [hr]; have hi : decide (i + 1 = 0) = false := decide_eq_false (by omega); clear ih; obtain ⟨n, rfl⟩ : ∃ q, n = q + 1 := ⟨n - 1, by omega⟩; rw [hi]; first | (simp [lq, pQ, pItem, *]; done) | (simp_all [lq, pQ, pItem]; done)) (by rw [hs]; have hi : decide (i + 1 = 0) = false := decide_eq_false (by omega); clear ih; obtain ⟨n, rfl⟩ : ∃ q, n = q + 1 := ⟨n - 1, by omega⟩; rw [hi]; first | (simp [lq, pQ, pItem, *]; done) | (simp_all [lq, pQ, pItem]; done))
          by_cases h44_1 : KC σ s.1 = 1
          · refine J_tsIn (tgt := 96) dX1_errorInProgram_44 ((i32_eq (KC_inr _ _)).trans h44_1) ⟨by decide, by decide⟩ (by decide) (by decide) rfl (by decide) ?_
            refine A_aload_n dX1_errorInProgram_96 rfl 2 rfl ?_
            refine A_Va0 mv_X1_35 lk_8 rfl rfl (c_X1_readDish _ _) (Nat.le_of_ble_eq_true rfl) (by omega) (by omega) dX1_errorInProgram_97 ?_
            try simp only [KC_stF, SC_stF, stF_1, stF_2, stF_s, stF_at, stF_n]
            refine A_istore_n (lv2 := [(1, _), (2, _), (0, _)]) dX1_errorInProgram_100 rfl (by decide) rfl ?_
            refine A_goto (tgt := 122) dX1_errorInProgram_101 (by decide) ?_
            refine A_iinc (lv2 := [(2, _), (1, _), (0, _)]) dX1_errorInProgram_122 1 rfl (by decide) rfl ?_
            refine A_goto (tgt := 9) dX1_errorInProgram_125 (by decide) ?_
            refine A_lv [0, 1, 2] rfl ?_
            exact ih (n - 1) (by omega) (i + 1) _ _ r σ1 (by omega) (by omega) (by rw [hr]; have hi : decide (i + 1 = 0) = false := decide_eq_false (by omega); clear ih; obtain ⟨n, rfl⟩ : ∃ q, n = q + 1 := ⟨n - 1, by omega⟩; rw [hi]; first | (simp [lq, pQ, pItem, *]; done) | (simp_all [lq, pQ, pItem]; done)) (by rw [hs]; have hi : decide (i + 1 = 0) = false := decide_eq_false (by omega); clear ih; obtain ⟨n, rfl⟩ : ∃ q, n = q + 1 := ⟨n - 1, by omega⟩; rw [hi]; first | (simp [lq, pQ, pItem, *]; done) | (simp_all [lq, pQ, pItem]; done))
          by_cases h44_2 : KC σ s.1 = 2
          · refine J_tsIn (tgt := 120) dX1_errorInProgram_44 ((i32_eq (KC_inr _ _)).trans h44_2) ⟨by decide, by decide⟩ (by decide) (by decide) rfl (by decide) ?_
            refine A_iconst dX1_errorInProgram_120 ?_
            refine A_istore_n (lv2 := [(1, _), (2, _), (0, _)]) dX1_errorInProgram_121 rfl (by decide) rfl ?_
            refine A_iinc (lv2 := [(2, _), (1, _), (0, _)]) dX1_errorInProgram_122 1 rfl (by decide) rfl ?_
            refine A_goto (tgt := 9) dX1_errorInProgram_125 (by decide) ?_
            refine A_lv [0, 1, 2] rfl ?_
            exact ih (n - 1) (by omega) (i + 1) false _ r σ1 (by omega) (by omega) (by rw [hr]; have hi : decide (i + 1 = 0) = false := decide_eq_false (by omega); clear ih; obtain ⟨n, rfl⟩ : ∃ q, n = q + 1 := ⟨n - 1, by omega⟩; rw [hi]; first | (simp [lq, pQ, pItem, *]; done) | (simp_all [lq, pQ, pItem]; done)) (by rw [hs]; have hi : decide (i + 1 = 0) = false := decide_eq_false (by omega); clear ih; obtain ⟨n, rfl⟩ : ∃ q, n = q + 1 := ⟨n - 1, by omega⟩; rw [hi]; first | (simp [lq, pQ, pItem, *]; done) | (simp_all [lq, pQ, pItem]; done))
          by_cases h44_3 : KC σ s.1 = 3
          · refine J_tsIn (tgt := 120) dX1_errorInProgram_44 ((i32_eq (KC_inr _ _)).trans h44_3) ⟨by decide, by decide⟩ (by decide) (by decide) rfl (by decide) ?_
            refine A_iconst dX1_errorInProgram_120 ?_
            refine A_istore_n (lv2 := [(1, _), (2, _), (0, _)]) dX1_errorInProgram_121 rfl (by decide) rfl ?_
            refine A_iinc (lv2 := [(2, _), (1, _), (0, _)]) dX1_errorInProgram_122 1 rfl (by decide) rfl ?_
            refine A_goto (tgt := 9) dX1_errorInProgram_125 (by decide) ?_
            refine A_lv [0, 1, 2] rfl ?_
            exact ih (n - 1) (by omega) (i + 1) false _ r σ1 (by omega) (by omega) (by rw [hr]; have hi : decide (i + 1 = 0) = false := decide_eq_false (by omega); clear ih; obtain ⟨n, rfl⟩ : ∃ q, n = q + 1 := ⟨n - 1, by omega⟩; rw [hi]; first | (simp [lq, pQ, pItem, *]; done) | (simp_all [lq, pQ, pItem]; done)) (by rw [hs]; have hi : decide (i + 1 = 0) = false := decide_eq_false (by omega); clear ih; obtain ⟨n, rfl⟩ : ∃ q, n = q + 1 := ⟨n - 1, by omega⟩; rw [hi]; first | (simp [lq, pQ, pItem, *]; done) | (simp_all [lq, pQ, pItem]; done))
          by_cases h44_4 : KC σ s.1 = 4
          · refine J_tsIn (tgt := 120) dX1_errorInProgram_44 ((i32_eq (KC_inr _ _)).trans h44_4) ⟨by decide, by decide⟩ (by decide) (by decide) rfl (by decide) ?_
            refine A_iconst dX1_errorInProgram_120 ?_
            refine A_istore_n (lv2 := [(1, _), (2, _), (0, _)]) dX1_errorInProgram_121 rfl (by decide) rfl ?_
            refine A_iinc (lv2 := [(2, _), (1, _), (0, _)]) dX1_errorInProgram_122 1 rfl (by decide) rfl ?_
            refine A_goto (tgt := 9) dX1_errorInProgram_125 (by decide) ?_
            refine A_lv [0, 1, 2] rfl ?_
            exact ih (n - 1) (by omega) (i + 1) false _ r σ1 (by omega) (by omega) (by rw [hr]; have hi : decide (i + 1 = 0) = false := decide_eq_false (by omega); clear ih; obtain ⟨n, rfl⟩ : ∃ q, n = q + 1 := ⟨n - 1, by omega⟩; rw [hi]; first | (simp [lq, pQ, pItem, *]; done) | (simp_all [lq, pQ, pItem]; done)) (by rw [hs]; have hi : decide (i + 1 = 0) = false := decide_eq_false (by omega); clear ih; obtain ⟨n, rfl⟩ : ∃ q, n = q + 1 := ⟨n - 1, by omega⟩; rw [hi]; first | (simp [lq, pQ, pItem, *]; done) | (simp_all [lq, pQ, pItem]; done))
          by_cases h44_5 : KC σ s.1 = 5
          · refine J_tsIn (tgt := 104) dX1_errorInProgram_44 ((i32_eq (KC_inr _ _)).trans h44_5) ⟨by decide, by decide⟩ (by decide) (by decide) rfl (by decide) ?_
            refine A_aload_n dX1_errorInProgram_104 rfl 2 rfl ?_
            refine A_Va0 mv_X1_38 lk_8 rfl rfl (c_X1_readMeal _ _) (Nat.le_of_ble_eq_true rfl) (by omega) (by omega) dX1_errorInProgram_105 ?_
            try simp only [KC_stF, SC_stF, stF_1, stF_2, stF_s, stF_at, stF_n]
            refine A_istore_n (lv2 := [(1, _), (2, _), (0, _)]) dX1_errorInProgram_108 rfl (by decide) rfl ?_
            refine A_goto (tgt := 122) dX1_errorInProgram_109 (by decide) ?_
            refine A_iinc (lv2 := [(2, _), (1, _), (0, _)]) dX1_errorInProgram_122 1 rfl (by decide) rfl ?_
            refine A_goto (tgt := 9) dX1_errorInProgram_125 (by decide) ?_
            refine A_lv [0, 1, 2] rfl ?_
            exact ih (n - 1) (by omega) (i + 1) _ _ r σ1 (by omega) (by omega) (by rw [hr]; have hi : decide (i + 1 = 0) = false := decide_eq_false (by omega); clear ih; obtain ⟨n, rfl⟩ : ∃ q, n = q + 1 := ⟨n - 1, by omega⟩; rw [hi]; first | (simp [lq, pQ, pItem, *]; done) | (simp_all [lq, pQ, pItem]; done)) (by rw [hs]; have hi : decide (i + 1 = 0) = false := decide_eq_false (by omega); clear ih; obtain ⟨n, rfl⟩ : ∃ q, n = q + 1 := ⟨n - 1, by omega⟩; rw [hi]; first | (simp [lq, pQ, pItem, *]; done) | (simp_all [lq, pQ, pItem]; done))
          by_cases h44_6 : KC σ s.1 = 6
          · refine J_tsIn (tgt := 112) dX1_errorInProgram_44 ((i32_eq (KC_inr _ _)).trans h44_6) ⟨by decide, by decide⟩ (by decide) (by decide) rfl (by decide) ?_
            refine A_aload_n dX1_errorInProgram_112 rfl 2 rfl ?_
            refine A_Va0 mv_X1_41 lk_8 rfl rfl (c_X1_readRule _ _) (Nat.le_of_ble_eq_true rfl) (by omega) (by omega) dX1_errorInProgram_113 ?_
            try simp only [KC_stF, SC_stF, stF_1, stF_2, stF_s, stF_at, stF_n]
            refine A_istore_n (lv2 := [(1, _), (2, _), (0, _)]) dX1_errorInProgram_116 rfl (by decide) rfl ?_
            refine A_goto (tgt := 122) dX1_errorInProgram_117 (by decide) ?_
            refine A_iinc (lv2 := [(2, _), (1, _), (0, _)]) dX1_errorInProgram_122 1 rfl (by decide) rfl ?_
            refine A_goto (tgt := 9) dX1_errorInProgram_125 (by decide) ?_
            refine A_lv [0, 1, 2] rfl ?_
            exact ih (n - 1) (by omega) (i + 1) _ _ r σ1 (by omega) (by omega) (by rw [hr]; have hi : decide (i + 1 = 0) = false := decide_eq_false (by omega); clear ih; obtain ⟨n, rfl⟩ : ∃ q, n = q + 1 := ⟨n - 1, by omega⟩; rw [hi]; first | (simp [lq, pQ, pItem, *]; done) | (simp_all [lq, pQ, pItem]; done)) (by rw [hs]; have hi : decide (i + 1 = 0) = false := decide_eq_false (by omega); clear ih; obtain ⟨n, rfl⟩ : ∃ q, n = q + 1 := ⟨n - 1, by omega⟩; rw [hi]; first | (simp [lq, pQ, pItem, *]; done) | (simp_all [lq, pQ, pItem]; done))
          refine J_tsOut (tgt := 120) dX1_errorInProgram_44 (by rw [i32_eq (KC_inr _ _)]; omega) (by decide) ?_
          refine A_iconst dX1_errorInProgram_120 ?_
          refine A_istore_n (lv2 := [(1, _), (2, _), (0, _)]) dX1_errorInProgram_121 rfl (by decide) rfl ?_
          refine A_iinc (lv2 := [(2, _), (1, _), (0, _)]) dX1_errorInProgram_122 1 rfl (by decide) rfl ?_
          refine A_goto (tgt := 9) dX1_errorInProgram_125 (by decide) ?_
          refine A_lv [0, 1, 2] rfl ?_
          exact ih (n - 1) (by omega) (i + 1) false _ r σ1 (by omega) (by omega) (by rw [hr]; have hi : decide (i + 1 = 0) = false := decide_eq_false (by omega); clear ih; obtain ⟨n, rfl⟩ : ∃ q, n = q + 1 := ⟨n - 1, by omega⟩; rw [hi]; first | (simp [lq, pQ, pItem, *]; done) | (simp_all [lq, pQ, pItem]; done)) (by rw [hs]; have hi : decide (i + 1 = 0) = false := decide_eq_false (by omega); clear ih; obtain ⟨n, rfl⟩ : ∃ q, n = q + 1 := ⟨n - 1, by omega⟩; rw [hi]; first | (simp [lq, pQ, pItem, *]; done) | (simp_all [lq, pQ, pItem]; done))
set_option maxRecDepth 100000 in
set_option maxHeartbeats 4000000 in
theorem c_X1_errorInProgram (σ : Sg) (s : Pp)  : Ct l G yX1_errorInProgram cX1_errorInProgram 3 (some .int) 21 0 0 [.ref (lay G 8)] (stF σ s) (some (.int (I32 (eP σ (pQ (KC σ) 1500 true (0, s.2)))))) (stF σ (pQ (KC σ) 1500 true (0, s.2)).2) := by
  refine Ct.of (by decide +kernel) (Nat.le_of_ble_eq_true rfl) (fun f => ?_)
  show AW _ _ _ _ _ _ _ _ _ _ [(0, _)] _ _
  refine A_aload_n dX1_errorInProgram_0 rfl 0 rfl ?_
  refine A_iconst dX1_errorInProgram_1 ?_
  refine A_puti fl_X1_15 lk_8 rfl dX1_errorInProgram_2 ?_
  try simp only [KC_stF, SC_stF, stF_1, stF_2, stF_s, stF_at, stF_n]
  refine A_iconst dX1_errorInProgram_5 ?_
  refine A_istore_n (lv2 := [(1, _), (0, _)]) dX1_errorInProgram_6 rfl (by decide) rfl ?_
  refine A_iconst dX1_errorInProgram_7 ?_
  refine A_istore_n (lv2 := [(2, _), (1, _), (0, _)]) dX1_errorInProgram_8 rfl (by decide) rfl ?_
  refine A_lv [0, 1, 2] rfl ?_
  exact w_X1_errorInProgram σ 1500 0 true _ _ _ (by omega) (by omega) (by simp [lq]) (by simp [lq])
def eC (σ : Sg) (x : Bool × Pp) : Int := if x.1 = true ∧ KC σ x.2.1 = 25 then -1 else SC σ x.2.1
end S11
