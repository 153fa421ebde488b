/-! leaves of the class: Tape, Tokens, NameRow, RuleRow -/
section S10
variable {l : Launch} {G : Gx}
def byteC (σ : Sg) (i : Int) : Int := if 0 ≤ i32 i ∧ i32 i < i32 (σ 1 1) ∧ i32 i < 1500 then iand (σ 2 (i32 i).toNat) 255 else -1
def shortC (σ : Sg) (n : Int) : Sg := if 0 ≤ i32 n ∧ i32 n < i32 (σ 1 1) then up σ 1 1 n else σ
set_option maxRecDepth 100000 in
set_option maxHeartbeats 4000000 in
theorem c_X8_byteAt (σ : Sg) (i : Int)  : Ct l G yX8_byteAt cX8_byteAt 2 (some .int) 0 0 0 [.ref (lay G 1), .int (I32 i)] σ (some (.int (I32 (byteC σ i)))) (σ) := by
  refine Ct.of (by decide +kernel) (Nat.le_of_ble_eq_true rfl) (fun f => ?_)
  show AW _ _ _ _ _ _ _ _ _ _ [(0, _), (1, _)] _ _
  refine A_iload_n dX8_byteAt_0 rfl 1 rfl ?_
  refine J_if_lt (tgt := 32) dX8_byteAt_1 (by decide) (by first | exact i32_eq (by assumption) | exact i32_eq ⟨by omega, by omega⟩ | with_reducible exact i32_i32 _ | with_reducible exact i32_eq (b2i_inr _) | rfl) (fun h1 => ?_) (fun h1 => ?_)
  · refine A_iconst dX8_byteAt_32 ?_
    exact A_iret dX8_byteAt_33 (by simp only [byteC]; (repeat' split) <;> first | rfl | contradiction | (exfalso; omega) | (simp only [I32_i32, I64_i64]; done)) (by rfl)
  · refine A_iload_n dX8_byteAt_4 rfl 1 rfl ?_
    refine A_aload_n dX8_byteAt_5 rfl 0 rfl ?_
    refine A_geti fl_X8_15 lk_1 rfl dX8_byteAt_6 ?_
    refine J_icmp_ge (tgt := 32) dX8_byteAt_9 (by decide) (by first | exact i32_eq (by assumption) | exact i32_eq ⟨by omega, by omega⟩ | with_reducible exact i32_i32 _ | with_reducible exact i32_eq (b2i_inr _) | rfl) (by first | exact i32_eq (by assumption) | exact i32_eq ⟨by omega, by omega⟩ | with_reducible exact i32_i32 _ | with_reducible exact i32_eq (b2i_inr _) | rfl) (fun h9 => ?_) (fun h9 => ?_)
    · refine A_iconst dX8_byteAt_32 ?_
      exact A_iret dX8_byteAt_33 (by simp only [byteC]; (repeat' split) <;> first | rfl | contradiction | (exfalso; omega) | (simp only [I32_i32, I64_i64]; done)) (by rfl)
    · refine A_iload_n dX8_byteAt_12 rfl 1 rfl ?_
      refine A_sipush dX8_byteAt_13 (by decide +kernel) ?_
      refine J_icmp_ge (tgt := 32) dX8_byteAt_16 (by decide) (by first | exact i32_eq (by assumption) | exact i32_eq ⟨by omega, by omega⟩ | with_reducible exact i32_i32 _ | with_reducible exact i32_eq (b2i_inr _) | rfl) (by first | exact i32_eq (by assumption) | exact i32_eq ⟨by omega, by omega⟩ | with_reducible exact i32_i32 _ | with_reducible exact i32_eq (b2i_inr _) | rfl) (fun h16 => ?_) (fun h16 => ?_)
      · refine A_iconst dX8_byteAt_32 ?_
        exact A_iret dX8_byteAt_33 (by simp only [byteC]; (repeat' split) <;> first | rfl | contradiction | (exfalso; omega) | (simp only [I32_i32, I64_i64]; done)) (by rfl)
      · refine A_aload_n dX8_byteAt_19 rfl 0 rfl ?_
        refine A_getr fl_X8_11 lk_1 rfl dX8_byteAt_20 ?_
        refine A_iload_n dX8_byteAt_23 rfl 1 rfl ?_
        refine J_bald lk_2 (by first | exact i32_eq (by assumption) | exact i32_eq ⟨by omega, by omega⟩ | with_reducible exact i32_i32 _ | with_reducible exact i32_eq (b2i_inr _) | rfl) (by omega) (by omega) (by decide) dX8_byteAt_24 ?_
        refine A_sipush dX8_byteAt_25 (by decide +kernel) ?_
        refine A_iand dX8_byteAt_28 ?_
        refine A_goto (tgt := 33) dX8_byteAt_29 (by decide) ?_
        exact A_iret dX8_byteAt_33 (by simp only [byteC]; (repeat' split) <;> first | rfl | contradiction | (exfalso; omega) | (simp only [I32_i32, I64_i64]; done)) (by rfl)
set_option maxRecDepth 100000 in
set_option maxHeartbeats 4000000 in
theorem c_X8_shorten (σ : Sg) (n : Int)  : Ct l G yX8_shorten cX8_shorten 2 none 0 0 0 [.ref (lay G 1), .int (I32 n)] σ (none) (shortC σ n) := by
  refine Ct.of (by decide +kernel) (Nat.le_of_ble_eq_true rfl) (fun f => ?_)
  show AW _ _ _ _ _ _ _ _ _ _ [(0, _), (1, _)] _ _
  refine A_iload_n dX8_shorten_0 rfl 1 rfl ?_
  refine J_if_lt (tgt := 17) dX8_shorten_1 (by decide) (by first | exact i32_eq (by assumption) | exact i32_eq ⟨by omega, by omega⟩ | with_reducible exact i32_i32 _ | with_reducible exact i32_eq (b2i_inr _) | rfl) (fun h1 => ?_) (fun h1 => ?_)
  · exact A_vret dX8_shorten_17 (by rfl) (by simp only [shortC]; (repeat' split) <;> first | rfl | contradiction | (exfalso; omega) | (simp only [I32_i32, I64_i64]; done))
  · refine A_iload_n dX8_shorten_4 rfl 1 rfl ?_
    refine A_aload_n dX8_shorten_5 rfl 0 rfl ?_
    refine A_geti fl_X8_15 lk_1 rfl dX8_shorten_6 ?_
    refine J_icmp_ge (tgt := 17) dX8_shorten_9 (by decide) (by first | exact i32_eq (by assumption) | exact i32_eq ⟨by omega, by omega⟩ | with_reducible exact i32_i32 _ | with_reducible exact i32_eq (b2i_inr _) | rfl) (by first | exact i32_eq (by assumption) | exact i32_eq ⟨by omega, by omega⟩ | with_reducible exact i32_i32 _ | with_reducible exact i32_eq (b2i_inr _) | rfl) (fun h9 => ?_) (fun h9 => ?_)
    · exact A_vret dX8_shorten_17 (by rfl) (by simp only [shortC]; (repeat' split) <;> first | rfl | contradiction | (exfalso; omega) | (simp only [I32_i32, I64_i64]; done))
    · refine A_aload_n dX8_shorten_12 rfl 0 rfl ?_
      refine A_iload_n dX8_shorten_13 rfl 1 rfl ?_
      refine A_puti fl_X8_15 lk_1 rfl dX8_shorten_14 ?_
      exact A_vret dX8_shorten_17 (by rfl) (by simp only [shortC]; (repeat' split) <;> first | rfl | contradiction | (exfalso; omega) | (simp only [I32_i32, I64_i64]; done))
def KC (σ : Sg) (t : Int) : Int := if 0 ≤ i32 t ∧ i32 t < i32 (σ 3 4) ∧ i32 t < 1501 then i32 (σ 5 (i32 t).toNat) else 25
theorem KC_inr (σ : Sg) (t : Int) : inr (KC σ t) := by
  unfold KC
  split
  · exact i32_inr _
  · exact ⟨by decide, by decide⟩
def SC (σ : Sg) (t : Int) : Int := if 0 ≤ i32 t ∧ i32 t < i32 (σ 3 4) ∧ i32 t < 1501 then σ 6 (i32 t).toNat else -1
def VC (σ : Sg) (t : Int) : Int := if 0 ≤ i32 t ∧ i32 t < i32 (σ 3 4) ∧ i32 t < 1501 then i64 (σ 7 (i32 t).toNat) else 0
def apC (σ : Sg) (k s v : Int) : Sg := if 0 ≤ i32 (σ 3 4) ∧ i32 (σ 3 4) < 1501 then up (up (up (up σ 5 (i32 (σ 3 4)).toNat k) 6 (i32 (σ 3 4)).toNat s) 7 (i32 (σ 3 4)).toNat v) 3 4 (σ 3 4 + 1) else σ
def isLet (c : Int) : Bool := decide (97 ≤ i32 c ∧ i32 c ≤ 122)
def isDig (c : Int) : Bool := decide (48 ≤ i32 c ∧ i32 c ≤ 57)
def kwF (σ : Sg) (v : Int) : Nat → Int → Int
  | 0, _ => 22
  | n + 1, i => if I64 (σ 4 i.toNat) = I64 v then i else kwF σ v n (i + 1)
def kwC (σ : Sg) (v : Int) : Int := kwF σ v 17 0
set_option maxRecDepth 100000 in
set_option maxHeartbeats 4000000 in
theorem c_X9_kindOf (σ : Sg) (t : Int)  : Ct l G yX9_kindOf cX9_kindOf 2 (some .int) 0 0 0 [.ref (lay G 3), .int (I32 t)] σ (some (.int (I32 (KC σ t)))) (σ) := by
  refine Ct.of (by decide +kernel) (Nat.le_of_ble_eq_true rfl) (fun f => ?_)
  show AW _ _ _ _ _ _ _ _ _ _ [(0, _), (1, _)] _ _
  refine A_iload_n dX9_kindOf_0 rfl 1 rfl ?_
  refine J_if_lt (tgt := 28) dX9_kindOf_1 (by decide) (by first | exact i32_eq (by assumption) | exact i32_eq ⟨by omega, by omega⟩ | with_reducible exact i32_i32 _ | with_reducible exact i32_eq (b2i_inr _) | rfl) (fun h1 => ?_) (fun h1 => ?_)
  · refine A_bipush dX9_kindOf_28 (by decide +kernel) ?_
    exact A_iret dX9_kindOf_30 (by simp only [KC]; (repeat' split) <;> first | rfl | contradiction | (exfalso; omega) | (simp only [I32_i32, I64_i64]; done)) (by rfl)
  · refine A_iload_n dX9_kindOf_4 rfl 1 rfl ?_
    refine A_aload_n dX9_kindOf_5 rfl 0 rfl ?_
    refine A_geti fl_X9_43 lk_3 rfl dX9_kindOf_6 ?_
    refine J_icmp_ge (tgt := 28) dX9_kindOf_9 (by decide) (by first | exact i32_eq (by assumption) | exact i32_eq ⟨by omega, by omega⟩ | with_reducible exact i32_i32 _ | with_reducible exact i32_eq (b2i_inr _) | rfl) (by first | exact i32_eq (by assumption) | exact i32_eq ⟨by omega, by omega⟩ | with_reducible exact i32_i32 _ | with_reducible exact i32_eq (b2i_inr _) | rfl) (fun h9 => ?_) (fun h9 => ?_)
    · refine A_bipush dX9_kindOf_28 (by decide +kernel) ?_
      exact A_iret dX9_kindOf_30 (by simp only [KC]; (repeat' split) <;> first | rfl | contradiction | (exfalso; omega) | (simp only [I32_i32, I64_i64]; done)) (by rfl)
    · refine A_iload_n dX9_kindOf_12 rfl 1 rfl ?_
      refine A_sipush dX9_kindOf_13 (by decide +kernel) ?_
      refine J_icmp_ge (tgt := 28) dX9_kindOf_16 (by decide) (by first | exact i32_eq (by assumption) | exact i32_eq ⟨by omega, by omega⟩ | with_reducible exact i32_i32 _ | with_reducible exact i32_eq (b2i_inr _) | rfl) (by first | exact i32_eq (by assumption) | exact i32_eq ⟨by omega, by omega⟩ | with_reducible exact i32_i32 _ | with_reducible exact i32_eq (b2i_inr _) | rfl) (fun h16 => ?_) (fun h16 => ?_)
      · refine A_bipush dX9_kindOf_28 (by decide +kernel) ?_
        exact A_iret dX9_kindOf_30 (by simp only [KC]; (repeat' split) <;> first | rfl | contradiction | (exfalso; omega) | (simp only [I32_i32, I64_i64]; done)) (by rfl)
      · refine A_aload_n dX9_kindOf_19 rfl 0 rfl ?_
        refine A_getr fl_X9_17 lk_3 rfl dX9_kindOf_20 ?_
        refine A_iload_n dX9_kindOf_23 rfl 1 rfl ?_
        refine J_iald lk_5 (by first | exact i32_eq (by assumption) | exact i32_eq ⟨by omega, by omega⟩ | with_reducible exact i32_i32 _ | with_reducible exact i32_eq (b2i_inr _) | rfl) (by omega) (by omega) (by decide) dX9_kindOf_24 ?_
        refine A_goto (tgt := 30) dX9_kindOf_25 (by decide) ?_
        exact A_iret dX9_kindOf_30 (by simp only [KC]; (repeat' split) <;> first | rfl | contradiction | (exfalso; omega) | (simp only [I32_i32, I64_i64]; done)) (by rfl)
set_option maxRecDepth 100000 in
set_option maxHeartbeats 4000000 in
theorem c_X9_startOf (σ : Sg) (t : Int)  : Ct l G yX9_startOf cX9_startOf 2 (some .int) 0 0 0 [.ref (lay G 3), .int (I32 t)] σ (some (.int (I32 (SC σ t)))) (σ) := by
  refine Ct.of (by decide +kernel) (Nat.le_of_ble_eq_true rfl) (fun f => ?_)
  show AW _ _ _ _ _ _ _ _ _ _ [(0, _), (1, _)] _ _
  refine A_iload_n dX9_startOf_0 rfl 1 rfl ?_
  refine J_if_lt (tgt := 28) dX9_startOf_1 (by decide) (by first | exact i32_eq (by assumption) | exact i32_eq ⟨by omega, by omega⟩ | with_reducible exact i32_i32 _ | with_reducible exact i32_eq (b2i_inr _) | rfl) (fun h1 => ?_) (fun h1 => ?_)
  · refine A_iconst dX9_startOf_28 ?_
    exact A_iret dX9_startOf_29 (by simp only [SC]; (repeat' split) <;> first | rfl | contradiction | (exfalso; omega) | (simp only [I32_i32, I64_i64]; done)) (by rfl)
  · refine A_iload_n dX9_startOf_4 rfl 1 rfl ?_
    refine A_aload_n dX9_startOf_5 rfl 0 rfl ?_
    refine A_geti fl_X9_43 lk_3 rfl dX9_startOf_6 ?_
    refine J_icmp_ge (tgt := 28) dX9_startOf_9 (by decide) (by first | exact i32_eq (by assumption) | exact i32_eq ⟨by omega, by omega⟩ | with_reducible exact i32_i32 _ | with_reducible exact i32_eq (b2i_inr _) | rfl) (by first | exact i32_eq (by assumption) | exact i32_eq ⟨by omega, by omega⟩ | with_reducible exact i32_i32 _ | with_reducible exact i32_eq (b2i_inr _) | rfl) (fun h9 => ?_) (fun h9 => ?_)
    · refine A_iconst dX9_startOf_28 ?_
      exact A_iret dX9_startOf_29 (by simp only [SC]; (repeat' split) <;> first | rfl | contradiction | (exfalso; omega) | (simp only [I32_i32, I64_i64]; done)) (by rfl)
    · refine A_iload_n dX9_startOf_12 rfl 1 rfl ?_
      refine A_sipush dX9_startOf_13 (by decide +kernel) ?_
      refine J_icmp_ge (tgt := 28) dX9_startOf_16 (by decide) (by first | exact i32_eq (by assumption) | exact i32_eq ⟨by omega, by omega⟩ | with_reducible exact i32_i32 _ | with_reducible exact i32_eq (b2i_inr _) | rfl) (by first | exact i32_eq (by assumption) | exact i32_eq ⟨by omega, by omega⟩ | with_reducible exact i32_i32 _ | with_reducible exact i32_eq (b2i_inr _) | rfl) (fun h16 => ?_) (fun h16 => ?_)
      · refine A_iconst dX9_startOf_28 ?_
        exact A_iret dX9_startOf_29 (by simp only [SC]; (repeat' split) <;> first | rfl | contradiction | (exfalso; omega) | (simp only [I32_i32, I64_i64]; done)) (by rfl)
      · refine A_aload_n dX9_startOf_19 rfl 0 rfl ?_
        refine A_getr fl_X9_21 lk_3 rfl dX9_startOf_20 ?_
        refine A_iload_n dX9_startOf_23 rfl 1 rfl ?_
        refine J_iald lk_6 (by first | exact i32_eq (by assumption) | exact i32_eq ⟨by omega, by omega⟩ | with_reducible exact i32_i32 _ | with_reducible exact i32_eq (b2i_inr _) | rfl) (by omega) (by omega) (by decide) dX9_startOf_24 ?_
        refine A_goto (tgt := 29) dX9_startOf_25 (by decide) ?_
        exact A_iret dX9_startOf_29 (by simp only [SC]; (repeat' split) <;> first | rfl | contradiction | (exfalso; omega) | (simp only [I32_i32, I64_i64]; done)) (by rfl)
set_option maxRecDepth 100000 in
set_option maxHeartbeats 4000000 in
theorem c_X9_valueOf (σ : Sg) (t : Int)  : Ct l G yX9_valueOf cX9_valueOf 2 (some .long) 0 0 0 [.ref (lay G 3), .int (I32 t)] σ (some (.long (I64 (VC σ t)))) (σ) := by
  refine Ct.of (by decide +kernel) (Nat.le_of_ble_eq_true rfl) (fun f => ?_)
  show AW _ _ _ _ _ _ _ _ _ _ [(0, _), (1, _)] _ _
  refine A_iload_n dX9_valueOf_0 rfl 1 rfl ?_
  refine J_if_lt (tgt := 28) dX9_valueOf_1 (by decide) (by first | exact i32_eq (by assumption) | exact i32_eq ⟨by omega, by omega⟩ | with_reducible exact i32_i32 _ | with_reducible exact i32_eq (b2i_inr _) | rfl) (fun h1 => ?_) (fun h1 => ?_)
  · refine A_lconst (w := 0) dX9_valueOf_28 rfl ?_
    exact A_lret dX9_valueOf_29 (by simp only [VC]; (repeat' split) <;> first | rfl | contradiction | (exfalso; omega) | (simp only [I32_i32, I64_i64]; done)) (by rfl)
  · refine A_iload_n dX9_valueOf_4 rfl 1 rfl ?_
    refine A_aload_n dX9_valueOf_5 rfl 0 rfl ?_
    refine A_geti fl_X9_43 lk_3 rfl dX9_valueOf_6 ?_
    refine J_icmp_ge (tgt := 28) dX9_valueOf_9 (by decide) (by first | exact i32_eq (by assumption) | exact i32_eq ⟨by omega, by omega⟩ | with_reducible exact i32_i32 _ | with_reducible exact i32_eq (b2i_inr _) | rfl) (by first | exact i32_eq (by assumption) | exact i32_eq ⟨by omega, by omega⟩ | with_reducible exact i32_i32 _ | with_reducible exact i32_eq (b2i_inr _) | rfl) (fun h9 => ?_) (fun h9 => ?_)
    · refine A_lconst (w := 0) dX9_valueOf_28 rfl ?_
      exact A_lret dX9_valueOf_29 (by simp only [VC]; (repeat' split) <;> first | rfl | contradiction | (exfalso; omega) | (simp only [I32_i32, I64_i64]; done)) (by rfl)
    · refine A_iload_n dX9_valueOf_12 rfl 1 rfl ?_
      refine A_sipush dX9_valueOf_13 (by decide +kernel) ?_
      refine J_icmp_ge (tgt := 28) dX9_valueOf_16 (by decide) (by first | exact i32_eq (by assumption) | exact i32_eq ⟨by omega, by omega⟩ | with_reducible exact i32_i32 _ | with_reducible exact i32_eq (b2i_inr _) | rfl) (by first | exact i32_eq (by assumption) | exact i32_eq ⟨by omega, by omega⟩ | with_reducible exact i32_i32 _ | with_reducible exact i32_eq (b2i_inr _) | rfl) (fun h16 => ?_) (fun h16 => ?_)
      · refine A_lconst (w := 0) dX9_valueOf_28 rfl ?_
        exact A_lret dX9_valueOf_29 (by simp only [VC]; (repeat' split) <;> first | rfl | contradiction | (exfalso; omega) | (simp only [I32_i32, I64_i64]; done)) (by rfl)
      · refine A_aload_n dX9_valueOf_19 rfl 0 rfl ?_
        refine A_getr fl_X9_24 lk_3 rfl dX9_valueOf_20 ?_
        refine A_iload_n dX9_valueOf_23 rfl 1 rfl ?_
        refine J_lald lk_7 (by first | exact i32_eq (by assumption) | exact i32_eq ⟨by omega, by omega⟩ | with_reducible exact i32_i32 _ | with_reducible exact i32_eq (b2i_inr _) | rfl) (by omega) (by omega) (by decide) dX9_valueOf_24 ?_
        refine A_goto (tgt := 29) dX9_valueOf_25 (by decide) ?_
        exact A_lret dX9_valueOf_29 (by simp only [VC]; (repeat' split) <;> first | rfl | contradiction | (exfalso; omega) | (simp only [I32_i32, I64_i64]; done)) (by rfl)
set_option maxRecDepth 100000 in
set_option maxHeartbeats 4000000 in
theorem c_X9_append (σ : Sg) (k s v : Int)  : Ct l G yX9_append cX9_append 5 none 0 0 0 [.ref (lay G 3), .int (I32 k), .int (I32 s), .long (I64 v)] σ (none) (apC σ k s v) := by
  refine Ct.of (by decide +kernel) (Nat.le_of_ble_eq_true rfl) (fun f => ?_)
  show AW _ _ _ _ _ _ _ _ _ _ [(0, _), (1, _), (2, _), (3, _)] _ _
  refine A_aload_n dX9_append_0 rfl 0 rfl ?_
  refine A_geti fl_X9_43 lk_3 rfl dX9_append_1 ?_
  refine J_if_lt (tgt := 57) dX9_append_4 (by decide) (by first | exact i32_eq (by assumption) | exact i32_eq ⟨by omega, by omega⟩ | with_reducible exact i32_i32 _ | with_reducible exact i32_eq (b2i_inr _) | rfl) (fun h4 => ?_) (fun h4 => ?_)
  · exact A_vret dX9_append_57 (by rfl) (by simp only [apC]; (repeat' split) <;> first | rfl | contradiction | (exfalso; omega) | (simp only [I32_i32, I64_i64]; done))
  · refine A_aload_n dX9_append_7 rfl 0 rfl ?_
    refine A_geti fl_X9_43 lk_3 rfl dX9_append_8 ?_
    refine A_sipush dX9_append_11 (by decide +kernel) ?_
    refine J_icmp_ge (tgt := 57) dX9_append_14 (by decide) (by first | exact i32_eq (by assumption) | exact i32_eq ⟨by omega, by omega⟩ | with_reducible exact i32_i32 _ | with_reducible exact i32_eq (b2i_inr _) | rfl) (by first | exact i32_eq (by assumption) | exact i32_eq ⟨by omega, by omega⟩ | with_reducible exact i32_i32 _ | with_reducible exact i32_eq (b2i_inr _) | rfl) (fun h14 => ?_) (fun h14 => ?_)
    · exact A_vret dX9_append_57 (by rfl) (by simp only [apC]; (repeat' split) <;> first | rfl | contradiction | (exfalso; omega) | (simp only [I32_i32, I64_i64]; done))
    · refine A_aload_n dX9_append_17 rfl 0 rfl ?_
      refine A_getr fl_X9_17 lk_3 rfl dX9_append_18 ?_
      refine A_aload_n dX9_append_21 rfl 0 rfl ?_
      refine A_geti fl_X9_43 lk_3 rfl dX9_append_22 ?_
      refine A_iload_n dX9_append_25 rfl 1 rfl ?_
      refine J_iast lk_5 (by first | exact i32_eq (by assumption) | exact i32_eq ⟨by omega, by omega⟩ | with_reducible exact i32_i32 _ | with_reducible exact i32_eq (b2i_inr _) | rfl) (by omega) (by omega) (by decide) dX9_append_26 ?_
      refine A_aload_n dX9_append_27 rfl 0 rfl ?_
      refine A_getr fl_X9_21 lk_3 rfl dX9_append_28 ?_
      refine A_aload_n dX9_append_31 rfl 0 rfl ?_
      refine A_geti fl_X9_43 lk_3 rfl dX9_append_32 ?_
      try simp (disch := decide) only [up_k, up_j, up_s]
      refine A_iload_n dX9_append_35 rfl 2 rfl ?_
      refine J_iast lk_6 (by first | exact i32_eq (by assumption) | exact i32_eq ⟨by omega, by omega⟩ | with_reducible exact i32_i32 _ | with_reducible exact i32_eq (b2i_inr _) | rfl) (by omega) (by omega) (by decide) dX9_append_36 ?_
      refine A_aload_n dX9_append_37 rfl 0 rfl ?_
      refine A_getr fl_X9_24 lk_3 rfl dX9_append_38 ?_
      refine A_aload_n dX9_append_41 rfl 0 rfl ?_
      refine A_geti fl_X9_43 lk_3 rfl dX9_append_42 ?_
      try simp (disch := decide) only [up_k, up_j, up_s]
      refine A_lload_n dX9_append_45 rfl 3 rfl ?_
      refine J_last lk_7 (by first | exact i32_eq (by assumption) | exact i32_eq ⟨by omega, by omega⟩ | with_reducible exact i32_i32 _ | with_reducible exact i32_eq (b2i_inr _) | rfl) (by omega) (by omega) (by decide) dX9_append_46 ?_
      refine A_aload_n dX9_append_47 rfl 0 rfl ?_
      refine A_dup dX9_append_48 rfl ?_
      refine A_geti fl_X9_43 lk_3 rfl dX9_append_49 ?_
      try simp (disch := decide) only [up_k, up_j, up_s]
      refine A_iconst dX9_append_52 ?_
      refine A_iadd dX9_append_53 ?_
      refine A_puti fl_X9_43 lk_3 rfl dX9_append_54 ?_
      exact A_vret dX9_append_57 (by rfl) (by simp only [apC]; (repeat' split) <;> first | rfl | contradiction | (exfalso; omega) | (simp only [I32_i32, I64_i64]; done))
set_option maxRecDepth 100000 in
set_option maxHeartbeats 4000000 in
theorem c_X9_isLetter (σ : Sg) (c : Int)  : Ct l G yX9_isLetter cX9_isLetter 1 (some .boolean) 0 0 0 [.int (I32 c)] σ (some (.int (I32 (b2i (isLet c))))) (σ) := by
  refine Ct.of (by decide +kernel) (Nat.le_of_ble_eq_true rfl) (fun f => ?_)
  show AW _ _ _ _ _ _ _ _ _ _ [(0, _)] _ _
  refine A_iload_n dX9_isLetter_0 rfl 0 rfl ?_
  refine A_bipush dX9_isLetter_1 (by decide +kernel) ?_
  refine J_icmp_lt (tgt := 16) dX9_isLetter_3 (by decide) (by first | exact i32_eq (by assumption) | exact i32_eq ⟨by omega, by omega⟩ | with_reducible exact i32_i32 _ | with_reducible exact i32_eq (b2i_inr _) | rfl) (by first | exact i32_eq (by assumption) | exact i32_eq ⟨by omega, by omega⟩ | with_reducible exact i32_i32 _ | with_reducible exact i32_eq (b2i_inr _) | rfl) (fun h3 => ?_) (fun h3 => ?_)
  · refine A_iconst dX9_isLetter_16 ?_
    exact A_zret2 dX9_isLetter_17 (by decide) (by simp only [isLet]; first | (rw [decide_eq_true (by omega), b2i_t]; done) | (rw [decide_eq_false (by omega), b2i_f]; done)) (by rfl)
  · refine A_iload_n dX9_isLetter_6 rfl 0 rfl ?_
    refine A_bipush dX9_isLetter_7 (by decide +kernel) ?_
    refine J_icmp_gt (tgt := 16) dX9_isLetter_9 (by decide) (by first | exact i32_eq (by assumption) | exact i32_eq ⟨by omega, by omega⟩ | with_reducible exact i32_i32 _ | with_reducible exact i32_eq (b2i_inr _) | rfl) (by first | exact i32_eq (by assumption) | exact i32_eq ⟨by omega, by omega⟩ | with_reducible exact i32_i32 _ | with_reducible exact i32_eq (b2i_inr _) | rfl) (fun h9 => ?_) (fun h9 => ?_)
    · refine A_iconst dX9_isLetter_16 ?_
      exact A_zret2 dX9_isLetter_17 (by decide) (by simp only [isLet]; first | (rw [decide_eq_true (by omega), b2i_t]; done) | (rw [decide_eq_false (by omega), b2i_f]; done)) (by rfl)
    · refine A_iconst dX9_isLetter_12 ?_
      refine A_goto (tgt := 17) dX9_isLetter_13 (by decide) ?_
      exact A_zret2 dX9_isLetter_17 (by decide) (by simp only [isLet]; first | (rw [decide_eq_true (by omega), b2i_t]; done) | (rw [decide_eq_false (by omega), b2i_f]; done)) (by rfl)
set_option maxRecDepth 100000 in
set_option maxHeartbeats 4000000 in
theorem c_X9_isDigit (σ : Sg) (c : Int)  : Ct l G yX9_isDigit cX9_isDigit 1 (some .boolean) 0 0 0 [.int (I32 c)] σ (some (.int (I32 (b2i (isDig c))))) (σ) := by
  refine Ct.of (by decide +kernel) (Nat.le_of_ble_eq_true rfl) (fun f => ?_)
  show AW _ _ _ _ _ _ _ _ _ _ [(0, _)] _ _
  refine A_iload_n dX9_isDigit_0 rfl 0 rfl ?_
  refine A_bipush dX9_isDigit_1 (by decide +kernel) ?_
  refine J_icmp_lt (tgt := 16) dX9_isDigit_3 (by decide) (by first | exact i32_eq (by assumption) | exact i32_eq ⟨by omega, by omega⟩ | with_reducible exact i32_i32 _ | with_reducible exact i32_eq (b2i_inr _) | rfl) (by first | exact i32_eq (by assumption) | exact i32_eq ⟨by omega, by omega⟩ | with_reducible exact i32_i32 _ | with_reducible exact i32_eq (b2i_inr _) | rfl) (fun h3 => ?_) (fun h3 => ?_)
  · refine A_iconst dX9_isDigit_16 ?_
    exact A_zret2 dX9_isDigit_17 (by decide) (by simp only [isDig]; first | (rw [decide_eq_true (by omega), b2i_t]; done) | (rw [decide_eq_false (by omega), b2i_f]; done)) (by rfl)
  · refine A_iload_n dX9_isDigit_6 rfl 0 rfl ?_
    refine A_bipush dX9_isDigit_7 (by decide +kernel) ?_
    refine J_icmp_gt (tgt := 16) dX9_isDigit_9 (by decide) (by first | exact i32_eq (by assumption) | exact i32_eq ⟨by omega, by omega⟩ | with_reducible exact i32_i32 _ | with_reducible exact i32_eq (b2i_inr _) | rfl) (by first | exact i32_eq (by assumption) | exact i32_eq ⟨by omega, by omega⟩ | with_reducible exact i32_i32 _ | with_reducible exact i32_eq (b2i_inr _) | rfl) (fun h9 => ?_) (fun h9 => ?_)
    · refine A_iconst dX9_isDigit_16 ?_
      exact A_zret2 dX9_isDigit_17 (by decide) (by simp only [isDig]; first | (rw [decide_eq_true (by omega), b2i_t]; done) | (rw [decide_eq_false (by omega), b2i_f]; done)) (by rfl)
    · refine A_iconst dX9_isDigit_12 ?_
      refine A_goto (tgt := 17) dX9_isDigit_13 (by decide) ?_
      exact A_zret2 dX9_isDigit_17 (by decide) (by simp only [isDig]; first | (rw [decide_eq_true (by omega), b2i_t]; done) | (rw [decide_eq_false (by omega), b2i_f]; done)) (by rfl)
set_option maxRecDepth 100000 in
set_option maxHeartbeats 4000000 in
theorem c_X9_withLetter (σ : Sg) (v c : Int)  : Ct l G yX9_withLetter cX9_withLetter 3 (some .long) 0 0 0 [.long (I64 v), .int (I32 c)] σ (some (.long (I64 (v * 27 + i32 (c - 97 + 1))))) (σ) := by
  refine Ct.of (by decide +kernel) (Nat.le_of_ble_eq_true rfl) (fun f => ?_)
  show AW _ _ _ _ _ _ _ _ _ _ [(0, _), (2, _)] _ _
  refine A_lload_n dX9_withLetter_0 rfl 0 rfl ?_
  refine A_ldc2 kc_X9_87 dX9_withLetter_1 ?_
  refine A_lmul dX9_withLetter_4 ?_
  refine A_iload_n dX9_withLetter_5 rfl 1 rfl ?_
  refine A_bipush dX9_withLetter_6 (by decide +kernel) ?_
  refine A_isub dX9_withLetter_8 ?_
  refine A_iconst dX9_withLetter_9 ?_
  refine A_iadd dX9_withLetter_10 ?_
  refine J_i2l dX9_withLetter_11 (by first | exact i32_eq (by assumption) | exact i32_eq ⟨by omega, by omega⟩ | with_reducible exact i32_i32 _ | with_reducible exact i32_eq (b2i_inr _) | rfl) ?_
  refine A_ladd dX9_withLetter_12 ?_
  exact A_lret dX9_withLetter_13 (by rfl) (by rfl)
set_option maxRecDepth 100000 in
set_option maxHeartbeats 4000000 in
theorem w_X9_kindOfWord {f : Fm} (σ : Sg) (v : Int) : ∀ (n : Nat) (i : Int) (r : Option Value), 0 ≤ i → i + n = 17 → r = some (.int (I32 (kwF σ v n i))) → AW l G f (RX9, cX9_kindOfWord, 4, (some .int)) (1, 0, 0) (QT G f 0 0 r σ) [] 0 0 2 [(3, .int (I32 i)), (0, .ref (lay G 3)), (1, .long (I64 v))] [] σ := by
  intro n
  induction n using Nat.strongRecOn with | _ n ih =>
  intro i r h0 hn hr
  refine A_iload_n dX9_kindOfWord_2 rfl 0 rfl ?_
  refine A_bipush dX9_kindOfWord_3 (by decide +kernel) ?_
  refine J_icmp_ge (tgt := 27) dX9_kindOfWord_5 (by decide) (by first | exact i32_eq (by assumption) | exact i32_eq ⟨by omega, by omega⟩ | with_reducible exact i32_i32 _ | with_reducible exact i32_eq (b2i_inr _) | rfl) (by first | exact i32_eq (by assumption) | exact i32_eq ⟨by omega, by omega⟩ | with_reducible exact i32_i32 _ | with_reducible exact i32_eq (b2i_inr _) | rfl) (fun h5 => ?_) (fun h5 => ?_)
  · refine A_bipush dX9_kindOfWord_27 (by decide +kernel) ?_
    exact A_iret dX9_kindOfWord_29 (by rw [hr]; cases n <;> simp only [kwF] <;> (repeat' split) <;> first | rfl | contradiction | (exfalso; omega) | (simp only [I32_i32, I64_i64]; done)) (by rfl)
  · refine A_aload_n dX9_kindOfWord_8 rfl 1 rfl ?_
    refine A_getr fl_X9_13 lk_3 rfl dX9_kindOfWord_9 ?_
    refine A_iload_n dX9_kindOfWord_12 rfl 0 rfl ?_
    refine J_lald lk_4 (by first | exact i32_eq (by assumption) | exact i32_eq ⟨by omega, by omega⟩ | with_reducible exact i32_i32 _ | with_reducible exact i32_eq (b2i_inr _) | rfl) (by omega) (by omega) (by decide) dX9_kindOfWord_13 ?_
    refine A_lload_n dX9_kindOfWord_14 rfl 2 rfl ?_
    refine A_lcmpE dX9_kindOfWord_15 ?_
    refine A_if_ne_e (tgt := 21) dX9_kindOfWord_16 (by decide) (fun h16 => ?_) (fun h16 => ?_)
    · refine A_iinc (lv2 := [(3, _), (0, _), (1, _)]) dX9_kindOfWord_21 0 rfl (by decide) rfl ?_
      refine A_goto (tgt := 2) dX9_kindOfWord_24 (by decide) ?_
      refine A_lv [0, 1, 2] rfl ?_
      exact ih (n - 1) (by omega) (i + 1) r (by omega) (by omega) (by rw [hr]; cases n with
        | zero => omega
        | succ n => simp only [kwF, Nat.add_sub_cancel]; (repeat' split) <;> first | rfl | contradiction | (exfalso; omega) | (simp only [I32_i32, I64_i64]; done))
    · refine A_iload_n dX9_kindOfWord_19 rfl 0 rfl ?_
      exact A_iret dX9_kindOfWord_20 (by rw [hr]; cases n <;> simp only [kwF] <;> (repeat' split) <;> first | rfl | contradiction | (exfalso; omega) | (simp only [I32_i32, I64_i64]; done)) (by rfl)
set_option maxRecDepth 100000 in
set_option maxHeartbeats 4000000 in
theorem c_X9_kindOfWord (σ : Sg) (v : Int)  : Ct l G yX9_kindOfWord cX9_kindOfWord 4 (some .int) 1 0 0 [.ref (lay G 3), .long (I64 v)] σ (some (.int (I32 (kwC σ v)))) (σ) := by
  refine Ct.of (by decide +kernel) (Nat.le_of_ble_eq_true rfl) (fun f => ?_)
  show AW _ _ _ _ _ _ _ _ _ _ [(0, _), (1, _)] _ _
  refine A_iconst dX9_kindOfWord_0 ?_
  refine A_istore_n (lv2 := [(3, _), (0, _), (1, _)]) dX9_kindOfWord_1 rfl (by decide) rfl ?_
  refine A_lv [0, 1, 2] rfl ?_
  exact w_X9_kindOfWord σ v 17 0 _ (by omega) (by omega) rfl
def idxF (σ : Sg) (k : Nat) (v : Int) : Nat → Int → Int
  | 0, _ => -1
  | n + 1, i => if i < i32 (σ k 2) then (if I64 (σ (k + 1) i.toNat) = I64 v then i else idxF σ k v n (i + 1)) else -1
def idxC (σ : Sg) (k : Nat) (v : Int) : Int := idxF σ k v 16 0
def hasC (σ : Sg) (k : Nat) (i : Int) : Bool := decide (0 ≤ i32 i ∧ i32 i < i32 (σ k 2) ∧ i32 i < 16)
def addC (σ : Sg) (k : Nat) (v : Int) : Sg := if 0 ≤ i32 (σ k 2) ∧ i32 (σ k 2) < 16 then up (up σ (k + 1) (i32 (σ k 2)).toNat v) k 2 (σ k 2 + 1) else σ
def fullC (σ : Sg) (k : Nat) : Bool := decide (i32 (σ k 1) ≤ i32 (σ k 2))
set_option maxRecDepth 100000 in
set_option maxHeartbeats 4000000 in
theorem w_X4_indexOf_10 {f : Fm} (σ : Sg) (v : Int)  : ∀ (n : Nat) (i : Int) (r : Option Value), 0 ≤ i → i + n = 16 → r = some (.int (I32 (idxF σ 10 v n i))) → AW l G f (RX4, cX4_indexOf, 4, (some .int)) (1, 0, 0) (QT G f 0 0 r σ) [] 0 0 2 [(3, .int (I32 i)), (0, .ref (lay G 10)), (1, .long (I64 v))] [] σ := by
  intro n
  induction n using Nat.strongRecOn with | _ n ih =>
  intro i r h0 hn hr
  refine A_iload_n dX4_indexOf_2 rfl 0 rfl ?_
  refine A_aload_n dX4_indexOf_3 rfl 1 rfl ?_
  refine A_geti fl_X4_19 lk_10 rfl dX4_indexOf_4 ?_
  refine J_icmp_ge (tgt := 35) dX4_indexOf_7 (by decide) (by first | exact i32_eq (by assumption) | exact i32_eq ⟨by omega, by omega⟩ | with_reducible exact i32_i32 _ | with_reducible exact i32_eq (b2i_inr _) | rfl) (by first | exact i32_eq (by assumption) | exact i32_eq ⟨by omega, by omega⟩ | with_reducible exact i32_i32 _ | with_reducible exact i32_eq (b2i_inr _) | rfl) (fun h7 => ?_) (fun h7 => ?_)
  · refine A_iconst dX4_indexOf_35 ?_
    exact A_iret dX4_indexOf_36 (by rw [hr]; cases n <;> simp only [idxF] <;> (repeat' split) <;> first | rfl | contradiction | (exfalso; omega) | (simp only [I32_i32, I64_i64]; done)) (by rfl)
  · refine A_iload_n dX4_indexOf_10 rfl 0 rfl ?_
    refine A_bipush dX4_indexOf_11 (by decide +kernel) ?_
    refine J_icmp_ge (tgt := 35) dX4_indexOf_13 (by decide) (by first | exact i32_eq (by assumption) | exact i32_eq ⟨by omega, by omega⟩ | with_reducible exact i32_i32 _ | with_reducible exact i32_eq (b2i_inr _) | rfl) (by first | exact i32_eq (by assumption) | exact i32_eq ⟨by omega, by omega⟩ | with_reducible exact i32_i32 _ | with_reducible exact i32_eq (b2i_inr _) | rfl) (fun h13 => ?_) (fun h13 => ?_)
    · refine A_iconst dX4_indexOf_35 ?_
      exact A_iret dX4_indexOf_36 (by rw [hr]; cases n <;> simp only [idxF] <;> (repeat' split) <;> first | rfl | contradiction | (exfalso; omega) | (simp only [I32_i32, I64_i64]; done)) (by rfl)
    · refine A_aload_n dX4_indexOf_16 rfl 1 rfl ?_
      refine A_getr fl_X4_9 lk_10 rfl dX4_indexOf_17 ?_
      refine A_iload_n dX4_indexOf_20 rfl 0 rfl ?_
      refine J_lald lk_11 (by first | exact i32_eq (by assumption) | exact i32_eq ⟨by omega, by omega⟩ | with_reducible exact i32_i32 _ | with_reducible exact i32_eq (b2i_inr _) | rfl) (by omega) (by omega) (by decide) dX4_indexOf_21 ?_
      refine A_lload_n dX4_indexOf_22 rfl 2 rfl ?_
      refine A_lcmpE dX4_indexOf_23 ?_
      refine A_if_ne_e (tgt := 29) dX4_indexOf_24 (by decide) (fun h24 => ?_) (fun h24 => ?_)
      · refine A_iinc (lv2 := [(3, _), (0, _), (1, _)]) dX4_indexOf_29 0 rfl (by decide) rfl ?_
        refine A_goto (tgt := 2) dX4_indexOf_32 (by decide) ?_
        refine A_lv [0, 1, 2] rfl ?_
        exact ih (n - 1) (by omega) (i + 1) r (by omega) (by omega) (by rw [hr]; cases n with
          | zero => omega
          | succ n => simp only [idxF, Nat.add_sub_cancel]; (repeat' split) <;> first | rfl | contradiction | (exfalso; omega) | (simp only [I32_i32, I64_i64]; done))
      · refine A_iload_n dX4_indexOf_27 rfl 0 rfl ?_
        exact A_iret dX4_indexOf_28 (by rw [hr]; cases n <;> simp only [idxF] <;> (repeat' split) <;> first | rfl | contradiction | (exfalso; omega) | (simp only [I32_i32, I64_i64]; done)) (by rfl)
set_option maxRecDepth 100000 in
set_option maxHeartbeats 4000000 in
theorem c_X4_indexOf_10 (σ : Sg) (v : Int)  : Ct l G yX4_indexOf cX4_indexOf 4 (some .int) 1 0 0 [.ref (lay G 10), .long (I64 v)] σ (some (.int (I32 (idxC σ 10 v)))) (σ) := by
  refine Ct.of (by decide +kernel) (Nat.le_of_ble_eq_true rfl) (fun f => ?_)
  show AW _ _ _ _ _ _ _ _ _ _ [(0, _), (1, _)] _ _
  refine A_iconst dX4_indexOf_0 ?_
  refine A_istore_n (lv2 := [(3, _), (0, _), (1, _)]) dX4_indexOf_1 rfl (by decide) rfl ?_
  refine A_lv [0, 1, 2] rfl ?_
  exact w_X4_indexOf_10 σ v 16 0 _ (by omega) (by omega) rfl
set_option maxRecDepth 100000 in
set_option maxHeartbeats 4000000 in
theorem c_X4_has_10 (σ : Sg) (i : Int)  : Ct l G yX4_has cX4_has 2 (some .boolean) 0 0 0 [.ref (lay G 10), .int (I32 i)] σ (some (.int (I32 (b2i (hasC σ 10 i))))) (σ) := by
  refine Ct.of (by decide +kernel) (Nat.le_of_ble_eq_true rfl) (fun f => ?_)
  show AW _ _ _ _ _ _ _ _ _ _ [(0, _), (1, _)] _ _
  refine A_iload_n dX4_has_0 rfl 1 rfl ?_
  refine J_if_lt (tgt := 22) dX4_has_1 (by decide) (by first | exact i32_eq (by assumption) | exact i32_eq ⟨by omega, by omega⟩ | with_reducible exact i32_i32 _ | with_reducible exact i32_eq (b2i_inr _) | rfl) (fun h1 => ?_) (fun h1 => ?_)
  · refine A_iconst dX4_has_22 ?_
    exact A_zret2 dX4_has_23 (by decide) (by simp only [hasC]; first | (rw [decide_eq_true (by omega), b2i_t]; done) | (rw [decide_eq_false (by omega), b2i_f]; done)) (by rfl)
  · refine A_iload_n dX4_has_4 rfl 1 rfl ?_
    refine A_aload_n dX4_has_5 rfl 0 rfl ?_
    refine A_geti fl_X4_19 lk_10 rfl dX4_has_6 ?_
    refine J_icmp_ge (tgt := 22) dX4_has_9 (by decide) (by first | exact i32_eq (by assumption) | exact i32_eq ⟨by omega, by omega⟩ | with_reducible exact i32_i32 _ | with_reducible exact i32_eq (b2i_inr _) | rfl) (by first | exact i32_eq (by assumption) | exact i32_eq ⟨by omega, by omega⟩ | with_reducible exact i32_i32 _ | with_reducible exact i32_eq (b2i_inr _) | rfl) (fun h9 => ?_) (fun h9 => ?_)
    · refine A_iconst dX4_has_22 ?_
      exact A_zret2 dX4_has_23 (by decide) (by simp only [hasC]; first | (rw [decide_eq_true (by omega), b2i_t]; done) | (rw [decide_eq_false (by omega), b2i_f]; done)) (by rfl)
    · refine A_iload_n dX4_has_12 rfl 1 rfl ?_
      refine A_bipush dX4_has_13 (by decide +kernel) ?_
      refine J_icmp_ge (tgt := 22) dX4_has_15 (by decide) (by first | exact i32_eq (by assumption) | exact i32_eq ⟨by omega, by omega⟩ | with_reducible exact i32_i32 _ | with_reducible exact i32_eq (b2i_inr _) | rfl) (by first | exact i32_eq (by assumption) | exact i32_eq ⟨by omega, by omega⟩ | with_reducible exact i32_i32 _ | with_reducible exact i32_eq (b2i_inr _) | rfl) (fun h15 => ?_) (fun h15 => ?_)
      · refine A_iconst dX4_has_22 ?_
        exact A_zret2 dX4_has_23 (by decide) (by simp only [hasC]; first | (rw [decide_eq_true (by omega), b2i_t]; done) | (rw [decide_eq_false (by omega), b2i_f]; done)) (by rfl)
      · refine A_iconst dX4_has_18 ?_
        refine A_goto (tgt := 23) dX4_has_19 (by decide) ?_
        exact A_zret2 dX4_has_23 (by decide) (by simp only [hasC]; first | (rw [decide_eq_true (by omega), b2i_t]; done) | (rw [decide_eq_false (by omega), b2i_f]; done)) (by rfl)
set_option maxRecDepth 100000 in
set_option maxHeartbeats 4000000 in
theorem c_X4_add_10 (σ : Sg) (v : Int)  : Ct l G yX4_add cX4_add 3 none 0 0 0 [.ref (lay G 10), .long (I64 v)] σ (none) (addC σ 10 v) := by
  refine Ct.of (by decide +kernel) (Nat.le_of_ble_eq_true rfl) (fun f => ?_)
  show AW _ _ _ _ _ _ _ _ _ _ [(0, _), (1, _)] _ _
  refine A_aload_n dX4_add_0 rfl 0 rfl ?_
  refine A_geti fl_X4_19 lk_10 rfl dX4_add_1 ?_
  refine J_if_lt (tgt := 36) dX4_add_4 (by decide) (by first | exact i32_eq (by assumption) | exact i32_eq ⟨by omega, by omega⟩ | with_reducible exact i32_i32 _ | with_reducible exact i32_eq (b2i_inr _) | rfl) (fun h4 => ?_) (fun h4 => ?_)
  · exact A_vret dX4_add_36 (by rfl) (by simp only [addC]; (repeat' split) <;> first | rfl | contradiction | (exfalso; omega) | (simp only [I32_i32, I64_i64]; done))
  · refine A_aload_n dX4_add_7 rfl 0 rfl ?_
    refine A_geti fl_X4_19 lk_10 rfl dX4_add_8 ?_
    refine A_bipush dX4_add_11 (by decide +kernel) ?_
    refine J_icmp_ge (tgt := 36) dX4_add_13 (by decide) (by first | exact i32_eq (by assumption) | exact i32_eq ⟨by omega, by omega⟩ | with_reducible exact i32_i32 _ | with_reducible exact i32_eq (b2i_inr _) | rfl) (by first | exact i32_eq (by assumption) | exact i32_eq ⟨by omega, by omega⟩ | with_reducible exact i32_i32 _ | with_reducible exact i32_eq (b2i_inr _) | rfl) (fun h13 => ?_) (fun h13 => ?_)
    · exact A_vret dX4_add_36 (by rfl) (by simp only [addC]; (repeat' split) <;> first | rfl | contradiction | (exfalso; omega) | (simp only [I32_i32, I64_i64]; done))
    · refine A_aload_n dX4_add_16 rfl 0 rfl ?_
      refine A_getr fl_X4_9 lk_10 rfl dX4_add_17 ?_
      refine A_aload_n dX4_add_20 rfl 0 rfl ?_
      refine A_geti fl_X4_19 lk_10 rfl dX4_add_21 ?_
      refine A_lload_n dX4_add_24 rfl 1 rfl ?_
      refine J_last lk_11 (by first | exact i32_eq (by assumption) | exact i32_eq ⟨by omega, by omega⟩ | with_reducible exact i32_i32 _ | with_reducible exact i32_eq (b2i_inr _) | rfl) (by omega) (by omega) (by decide) dX4_add_25 ?_
      refine A_aload_n dX4_add_26 rfl 0 rfl ?_
      refine A_dup dX4_add_27 rfl ?_
      refine A_geti fl_X4_19 lk_10 rfl dX4_add_28 ?_
      try simp (disch := decide) only [up_k, up_j, up_s]
      refine A_iconst dX4_add_31 ?_
      refine A_iadd dX4_add_32 ?_
      refine A_puti fl_X4_19 lk_10 rfl dX4_add_33 ?_
      exact A_vret dX4_add_36 (by rfl) (by simp only [addC]; (repeat' split) <;> first | rfl | contradiction | (exfalso; omega) | (simp only [I32_i32, I64_i64]; done))
set_option maxRecDepth 100000 in
set_option maxHeartbeats 4000000 in
theorem c_X4_isFull_10 (σ : Sg)  : Ct l G yX4_isFull cX4_isFull 1 (some .boolean) 0 0 0 [.ref (lay G 10)] σ (some (.int (I32 (b2i (fullC σ 10))))) (σ) := by
  refine Ct.of (by decide +kernel) (Nat.le_of_ble_eq_true rfl) (fun f => ?_)
  show AW _ _ _ _ _ _ _ _ _ _ [(0, _)] _ _
  refine A_aload_n dX4_isFull_0 rfl 0 rfl ?_
  refine A_geti fl_X4_19 lk_10 rfl dX4_isFull_1 ?_
  refine A_aload_n dX4_isFull_4 rfl 0 rfl ?_
  refine A_geti fl_X4_15 lk_10 rfl dX4_isFull_5 ?_
  refine J_icmp_lt (tgt := 15) dX4_isFull_8 (by decide) (by first | exact i32_eq (by assumption) | exact i32_eq ⟨by omega, by omega⟩ | with_reducible exact i32_i32 _ | with_reducible exact i32_eq (b2i_inr _) | rfl) (by first | exact i32_eq (by assumption) | exact i32_eq ⟨by omega, by omega⟩ | with_reducible exact i32_i32 _ | with_reducible exact i32_eq (b2i_inr _) | rfl) (fun h8 => ?_) (fun h8 => ?_)
  · refine A_iconst dX4_isFull_15 ?_
    exact A_zret2 dX4_isFull_16 (by decide) (by simp only [fullC]; first | (rw [decide_eq_true (by omega), b2i_t]; done) | (rw [decide_eq_false (by omega), b2i_f]; done)) (by rfl)
  · refine A_iconst dX4_isFull_11 ?_
    refine A_goto (tgt := 16) dX4_isFull_12 (by decide) ?_
    exact A_zret2 dX4_isFull_16 (by decide) (by simp only [fullC]; first | (rw [decide_eq_true (by omega), b2i_t]; done) | (rw [decide_eq_false (by omega), b2i_f]; done)) (by rfl)
set_option maxRecDepth 100000 in
set_option maxHeartbeats 4000000 in
theorem w_X4_indexOf_12 {f : Fm} (σ : Sg) (v : Int)  : ∀ (n : Nat) (i : Int) (r : Option Value), 0 ≤ i → i + n = 16 → r = some (.int (I32 (idxF σ 12 v n i))) → AW l G f (RX4, cX4_indexOf, 4, (some .int)) (1, 0, 0) (QT G f 0 0 r σ) [] 0 0 2 [(3, .int (I32 i)), (0, .ref (lay G 12)), (1, .long (I64 v))] [] σ := by
  intro n
  induction n using Nat.strongRecOn with | _ n ih =>
  intro i r h0 hn hr
  refine A_iload_n dX4_indexOf_2 rfl 0 rfl ?_
  refine A_aload_n dX4_indexOf_3 rfl 1 rfl ?_
  refine A_geti fl_X4_19 lk_12 rfl dX4_indexOf_4 ?_
  refine J_icmp_ge (tgt := 35) dX4_indexOf_7 (by decide) (by first | exact i32_eq (by assumption) | exact i32_eq ⟨by omega, by omega⟩ | with_reducible exact i32_i32 _ | with_reducible exact i32_eq (b2i_inr _) | rfl) (by first | exact i32_eq (by assumption) | exact i32_eq ⟨by omega, by omega⟩ | with_reducible exact i32_i32 _ | with_reducible exact i32_eq (b2i_inr _) | rfl) (fun h7 => ?_) (fun h7 => ?_)
  · refine A_iconst dX4_indexOf_35 ?_
    exact A_iret dX4_indexOf_36 (by rw [hr]; cases n <;> simp only [idxF] <;> (repeat' split) <;> first | rfl | contradiction | (exfalso; omega) | (simp only [I32_i32, I64_i64]; done)) (by rfl)
  · refine A_iload_n dX4_indexOf_10 rfl 0 rfl ?_
    refine A_bipush dX4_indexOf_11 (by decide +kernel) ?_
    refine J_icmp_ge (tgt := 35) dX4_indexOf_13 (by decide) (by first | exact i32_eq (by assumption) | exact i32_eq ⟨by omega, by omega⟩ | with_reducible exact i32_i32 _ | with_reducible exact i32_eq (b2i_inr _) | rfl) (by first | exact i32_eq (by assumption) | exact i32_eq ⟨by omega, by omega⟩ | with_reducible exact i32_i32 _ | with_reducible exact i32_eq (b2i_inr _) | rfl) (fun h13 => ?_) (fun h13 => ?_)
    · refine A_iconst dX4_indexOf_35 ?_
      exact A_iret dX4_indexOf_36 (by rw [hr]; cases n <;> simp only [idxF] <;> (repeat' split) <;> first | rfl | contradiction | (exfalso; omega) | (simp only [I32_i32, I64_i64]; done)) (by rfl)
    · refine A_aload_n dX4_indexOf_16 rfl 1 rfl ?_
      refine A_getr fl_X4_9 lk_12 rfl dX4_indexOf_17 ?_
      refine A_iload_n dX4_indexOf_20 rfl 0 rfl ?_
      refine J_lald lk_13 (by first | exact i32_eq (by assumption) | exact i32_eq ⟨by omega, by omega⟩ | with_reducible exact i32_i32 _ | with_reducible exact i32_eq (b2i_inr _) | rfl) (by omega) (by omega) (by decide) dX4_indexOf_21 ?_
      refine A_lload_n dX4_indexOf_22 rfl 2 rfl ?_
      refine A_lcmpE dX4_indexOf_23 ?_
      refine A_if_ne_e (tgt := 29) dX4_indexOf_24 (by decide) (fun h24 => ?_) (fun h24 => ?_)
      · refine A_iinc (lv2 := [(3, _), (0, _), (1, _)]) dX4_indexOf_29 0 rfl (by decide) rfl ?_
        refine A_goto (tgt := 2) dX4_indexOf_32 (by decide) ?_
        refine A_lv [0, 1, 2] rfl ?_
        exact ih (n - 1) (by omega) (i + 1) r (by omega) (by omega) (by rw [hr]; cases n with
          | zero => omega
          | succ n => simp only [idxF, Nat.add_sub_cancel]; (repeat' split) <;> first | rfl | contradiction | (exfalso; omega) | (simp only [I32_i32, I64_i64]; done))
      · refine A_iload_n dX4_indexOf_27 rfl 0 rfl ?_
        exact A_iret dX4_indexOf_28 (by rw [hr]; cases n <;> simp only [idxF] <;> (repeat' split) <;> first | rfl | contradiction | (exfalso; omega) | (simp only [I32_i32, I64_i64]; done)) (by rfl)
set_option maxRecDepth 100000 in
set_option maxHeartbeats 4000000 in
theorem c_X4_indexOf_12 (σ : Sg) (v : Int)  : Ct l G yX4_indexOf cX4_indexOf 4 (some .int) 1 0 0 [.ref (lay G 12), .long (I64 v)] σ (some (.int (I32 (idxC σ 12 v)))) (σ) := by
  refine Ct.of (by decide +kernel) (Nat.le_of_ble_eq_true rfl) (fun f => ?_)
  show AW _ _ _ _ _ _ _ _ _ _ [(0, _), (1, _)] _ _
  refine A_iconst dX4_indexOf_0 ?_
  refine A_istore_n (lv2 := [(3, _), (0, _), (1, _)]) dX4_indexOf_1 rfl (by decide) rfl ?_
  refine A_lv [0, 1, 2] rfl ?_
  exact w_X4_indexOf_12 σ v 16 0 _ (by omega) (by omega) rfl
set_option maxRecDepth 100000 in
set_option maxHeartbeats 4000000 in
theorem c_X4_has_12 (σ : Sg) (i : Int)  : Ct l G yX4_has cX4_has 2 (some .boolean) 0 0 0 [.ref (lay G 12), .int (I32 i)] σ (some (.int (I32 (b2i (hasC σ 12 i))))) (σ) := by
  refine Ct.of (by decide +kernel) (Nat.le_of_ble_eq_true rfl) (fun f => ?_)
  show AW _ _ _ _ _ _ _ _ _ _ [(0, _), (1, _)] _ _
  refine A_iload_n dX4_has_0 rfl 1 rfl ?_
  refine J_if_lt (tgt := 22) dX4_has_1 (by decide) (by first | exact i32_eq (by assumption) | exact i32_eq ⟨by omega, by omega⟩ | with_reducible exact i32_i32 _ | with_reducible exact i32_eq (b2i_inr _) | rfl) (fun h1 => ?_) (fun h1 => ?_)
  · refine A_iconst dX4_has_22 ?_
    exact A_zret2 dX4_has_23 (by decide) (by simp only [hasC]; first | (rw [decide_eq_true (by omega), b2i_t]; done) | (rw [decide_eq_false (by omega), b2i_f]; done)) (by rfl)
  · refine A_iload_n dX4_has_4 rfl 1 rfl ?_
    refine A_aload_n dX4_has_5 rfl 0 rfl ?_
    refine A_geti fl_X4_19 lk_12 rfl dX4_has_6 ?_
    refine J_icmp_ge (tgt := 22) dX4_has_9 (by decide) (by first | exact i32_eq (by assumption) | exact i32_eq ⟨by omega, by omega⟩ | with_reducible exact i32_i32 _ | with_reducible exact i32_eq (b2i_inr _) | rfl) (by first | exact i32_eq (by assumption) | exact i32_eq ⟨by omega, by omega⟩ | with_reducible exact i32_i32 _ | with_reducible exact i32_eq (b2i_inr _) | rfl) (fun h9 => ?_) (fun h9 => ?_)
    · refine A_iconst dX4_has_22 ?_
      exact A_zret2 dX4_has_23 (by decide) (by simp only [hasC]; first | (rw [decide_eq_true (by omega), b2i_t]; done) | (rw [decide_eq_false (by omega), b2i_f]; done)) (by rfl)
    · refine A_iload_n dX4_has_12 rfl 1 rfl ?_
      refine A_bipush dX4_has_13 (by decide +kernel) ?_
      refine J_icmp_ge (tgt := 22) dX4_has_15 (by decide) (by first | exact i32_eq (by assumption) | exact i32_eq ⟨by omega, by omega⟩ | with_reducible exact i32_i32 _ | with_reducible exact i32_eq (b2i_inr _) | rfl) (by first | exact i32_eq (by assumption) | exact i32_eq ⟨by omega, by omega⟩ | with_reducible exact i32_i32 _ | with_reducible exact i32_eq (b2i_inr _) | rfl) (fun h15 => ?_) (fun h15 => ?_)
      · refine A_iconst dX4_has_22 ?_
        exact A_zret2 dX4_has_23 (by decide) (by simp only [hasC]; first | (rw [decide_eq_true (by omega), b2i_t]; done) | (rw [decide_eq_false (by omega), b2i_f]; done)) (by rfl)
      · refine A_iconst dX4_has_18 ?_
        refine A_goto (tgt := 23) dX4_has_19 (by decide) ?_
        exact A_zret2 dX4_has_23 (by decide) (by simp only [hasC]; first | (rw [decide_eq_true (by omega), b2i_t]; done) | (rw [decide_eq_false (by omega), b2i_f]; done)) (by rfl)
set_option maxRecDepth 100000 in
set_option maxHeartbeats 4000000 in
theorem c_X4_add_12 (σ : Sg) (v : Int)  : Ct l G yX4_add cX4_add 3 none 0 0 0 [.ref (lay G 12), .long (I64 v)] σ (none) (addC σ 12 v) := by
  refine Ct.of (by decide +kernel) (Nat.le_of_ble_eq_true rfl) (fun f => ?_)
  show AW _ _ _ _ _ _ _ _ _ _ [(0, _), (1, _)] _ _
  refine A_aload_n dX4_add_0 rfl 0 rfl ?_
  refine A_geti fl_X4_19 lk_12 rfl dX4_add_1 ?_
  refine J_if_lt (tgt := 36) dX4_add_4 (by decide) (by first | exact i32_eq (by assumption) | exact i32_eq ⟨by omega, by omega⟩ | with_reducible exact i32_i32 _ | with_reducible exact i32_eq (b2i_inr _) | rfl) (fun h4 => ?_) (fun h4 => ?_)
  · exact A_vret dX4_add_36 (by rfl) (by simp only [addC]; (repeat' split) <;> first | rfl | contradiction | (exfalso; omega) | (simp only [I32_i32, I64_i64]; done))
  · refine A_aload_n dX4_add_7 rfl 0 rfl ?_
    refine A_geti fl_X4_19 lk_12 rfl dX4_add_8 ?_
    refine A_bipush dX4_add_11 (by decide +kernel) ?_
    refine J_icmp_ge (tgt := 36) dX4_add_13 (by decide) (by first | exact i32_eq (by assumption) | exact i32_eq ⟨by omega, by omega⟩ | with_reducible exact i32_i32 _ | with_reducible exact i32_eq (b2i_inr _) | rfl) (by first | exact i32_eq (by assumption) | exact i32_eq ⟨by omega, by omega⟩ | with_reducible exact i32_i32 _ | with_reducible exact i32_eq (b2i_inr _) | rfl) (fun h13 => ?_) (fun h13 => ?_)
    · exact A_vret dX4_add_36 (by rfl) (by simp only [addC]; (repeat' split) <;> first | rfl | contradiction | (exfalso; omega) | (simp only [I32_i32, I64_i64]; done))
    · refine A_aload_n dX4_add_16 rfl 0 rfl ?_
      refine A_getr fl_X4_9 lk_12 rfl dX4_add_17 ?_
      refine A_aload_n dX4_add_20 rfl 0 rfl ?_
      refine A_geti fl_X4_19 lk_12 rfl dX4_add_21 ?_
      refine A_lload_n dX4_add_24 rfl 1 rfl ?_
      refine J_last lk_13 (by first | exact i32_eq (by assumption) | exact i32_eq ⟨by omega, by omega⟩ | with_reducible exact i32_i32 _ | with_reducible exact i32_eq (b2i_inr _) | rfl) (by omega) (by omega) (by decide) dX4_add_25 ?_
      refine A_aload_n dX4_add_26 rfl 0 rfl ?_
      refine A_dup dX4_add_27 rfl ?_
      refine A_geti fl_X4_19 lk_12 rfl dX4_add_28 ?_
      try simp (disch := decide) only [up_k, up_j, up_s]
      refine A_iconst dX4_add_31 ?_
      refine A_iadd dX4_add_32 ?_
      refine A_puti fl_X4_19 lk_12 rfl dX4_add_33 ?_
      exact A_vret dX4_add_36 (by rfl) (by simp only [addC]; (repeat' split) <;> first | rfl | contradiction | (exfalso; omega) | (simp only [I32_i32, I64_i64]; done))
set_option maxRecDepth 100000 in
set_option maxHeartbeats 4000000 in
theorem c_X4_isFull_12 (σ : Sg)  : Ct l G yX4_isFull cX4_isFull 1 (some .boolean) 0 0 0 [.ref (lay G 12)] σ (some (.int (I32 (b2i (fullC σ 12))))) (σ) := by
  refine Ct.of (by decide +kernel) (Nat.le_of_ble_eq_true rfl) (fun f => ?_)
  show AW _ _ _ _ _ _ _ _ _ _ [(0, _)] _ _
  refine A_aload_n dX4_isFull_0 rfl 0 rfl ?_
  refine A_geti fl_X4_19 lk_12 rfl dX4_isFull_1 ?_
  refine A_aload_n dX4_isFull_4 rfl 0 rfl ?_
  refine A_geti fl_X4_15 lk_12 rfl dX4_isFull_5 ?_
  refine J_icmp_lt (tgt := 15) dX4_isFull_8 (by decide) (by first | exact i32_eq (by assumption) | exact i32_eq ⟨by omega, by omega⟩ | with_reducible exact i32_i32 _ | with_reducible exact i32_eq (b2i_inr _) | rfl) (by first | exact i32_eq (by assumption) | exact i32_eq ⟨by omega, by omega⟩ | with_reducible exact i32_i32 _ | with_reducible exact i32_eq (b2i_inr _) | rfl) (fun h8 => ?_) (fun h8 => ?_)
  · refine A_iconst dX4_isFull_15 ?_
    exact A_zret2 dX4_isFull_16 (by decide) (by simp only [fullC]; first | (rw [decide_eq_true (by omega), b2i_t]; done) | (rw [decide_eq_false (by omega), b2i_f]; done)) (by rfl)
  · refine A_iconst dX4_isFull_11 ?_
    refine A_goto (tgt := 16) dX4_isFull_12 (by decide) ?_
    exact A_zret2 dX4_isFull_16 (by decide) (by simp only [fullC]; first | (rw [decide_eq_true (by omega), b2i_t]; done) | (rw [decide_eq_false (by omega), b2i_f]; done)) (by rfl)
set_option maxRecDepth 100000 in
set_option maxHeartbeats 4000000 in
theorem w_X4_indexOf_14 {f : Fm} (σ : Sg) (v : Int)  : ∀ (n : Nat) (i : Int) (r : Option Value), 0 ≤ i → i + n = 16 → r = some (.int (I32 (idxF σ 14 v n i))) → AW l G f (RX4, cX4_indexOf, 4, (some .int)) (1, 0, 0) (QT G f 0 0 r σ) [] 0 0 2 [(3, .int (I32 i)), (0, .ref (lay G 14)), (1, .long (I64 v))] [] σ := by
  intro n
  induction n using Nat.strongRecOn with | _ n ih =>
  intro i r h0 hn hr
  refine A_iload_n dX4_indexOf_2 rfl 0 rfl ?_
  refine A_aload_n dX4_indexOf_3 rfl 1 rfl ?_
  refine A_geti fl_X4_19 lk_14 rfl dX4_indexOf_4 ?_
  refine J_icmp_ge (tgt := 35) dX4_indexOf_7 (by decide) (by first | exact i32_eq (by assumption) | exact i32_eq ⟨by omega, by omega⟩ | with_reducible exact i32_i32 _ | with_reducible exact i32_eq (b2i_inr _) | rfl) (by first | exact i32_eq (by assumption) | exact i32_eq ⟨by omega, by omega⟩ | with_reducible exact i32_i32 _ | with_reducible exact i32_eq (b2i_inr _) | rfl) (fun h7 => ?_) (fun h7 => ?_)
  · refine A_iconst dX4_indexOf_35 ?_
    exact A_iret dX4_indexOf_36 (by rw [hr]; cases n <;> simp only [idxF] <;> (repeat' split) <;> first | rfl | contradiction | (exfalso; omega) | (simp only [I32_i32, I64_i64]; done)) (by rfl)
  · refine A_iload_n dX4_indexOf_10 rfl 0 rfl ?_
    refine A_bipush dX4_indexOf_11 (by decide +kernel) ?_
    refine J_icmp_ge (tgt := 35) dX4_indexOf_13 (by decide) (by first | exact i32_eq (by assumption) | exact i32_eq ⟨by omega, by omega⟩ | with_reducible exact i32_i32 _ | with_reducible exact i32_eq (b2i_inr _) | rfl) (by first | exact i32_eq (by assumption) | exact i32_eq ⟨by omega, by omega⟩ | with_reducible exact i32_i32 _ | with_reducible exact i32_eq (b2i_inr _) | rfl) (fun h13 => ?_) (fun h13 => ?_)
    · refine A_iconst dX4_indexOf_35 ?_
      exact A_iret dX4_indexOf_36 (by rw [hr]; cases n <;> simp only [idxF] <;> (repeat' split) <;> first | rfl | contradiction | (exfalso; omega) | (simp only [I32_i32, I64_i64]; done)) (by rfl)
    · refine A_aload_n dX4_indexOf_16 rfl 1 rfl ?_
      refine A_getr fl_X4_9 lk_14 rfl dX4_indexOf_17 ?_
      refine A_iload_n dX4_indexOf_20 rfl 0 rfl ?_
      refine J_lald lk_15 (by first | exact i32_eq (by assumption) | exact i32_eq ⟨by omega, by omega⟩ | with_reducible exact i32_i32 _ | with_reducible exact i32_eq (b2i_inr _) | rfl) (by omega) (by omega) (by decide) dX4_indexOf_21 ?_
      refine A_lload_n dX4_indexOf_22 rfl 2 rfl ?_
      refine A_lcmpE dX4_indexOf_23 ?_
      refine A_if_ne_e (tgt := 29) dX4_indexOf_24 (by decide) (fun h24 => ?_) (fun h24 => ?_)
      · refine A_iinc (lv2 := [(3, _), (0, _), (1, _)]) dX4_indexOf_29 0 rfl (by decide) rfl ?_
        refine A_goto (tgt := 2) dX4_indexOf_32 (by decide) ?_
        refine A_lv [0, 1, 2] rfl ?_
        exact ih (n - 1) (by omega) (i + 1) r (by omega) (by omega) (by rw [hr]; cases n with
          | zero => omega
          | succ n => simp only [idxF, Nat.add_sub_cancel]; (repeat' split) <;> first | rfl | contradiction | (exfalso; omega) | (simp only [I32_i32, I64_i64]; done))
      · refine A_iload_n dX4_indexOf_27 rfl 0 rfl ?_
        exact A_iret dX4_indexOf_28 (by rw [hr]; cases n <;> simp only [idxF] <;> (repeat' split) <;> first | rfl | contradiction | (exfalso; omega) | (simp only [I32_i32, I64_i64]; done)) (by rfl)
set_option maxRecDepth 100000 in
set_option maxHeartbeats 4000000 in
theorem c_X4_indexOf_14 (σ : Sg) (v : Int)  : Ct l G yX4_indexOf cX4_indexOf 4 (some .int) 1 0 0 [.ref (lay G 14), .long (I64 v)] σ (some (.int (I32 (idxC σ 14 v)))) (σ) := by
  refine Ct.of (by decide +kernel) (Nat.le_of_ble_eq_true rfl) (fun f => ?_)
  show AW _ _ _ _ _ _ _ _ _ _ [(0, _), (1, _)] _ _
  refine A_iconst dX4_indexOf_0 ?_
  refine A_istore_n (lv2 := [(3, _), (0, _), (1, _)]) dX4_indexOf_1 rfl (by decide) rfl ?_
  refine A_lv [0, 1, 2] rfl ?_
  exact w_X4_indexOf_14 σ v 16 0 _ (by omega) (by omega) rfl
set_option maxRecDepth 100000 in
set_option maxHeartbeats 4000000 in
theorem c_X4_has_14 (σ : Sg) (i : Int)  : Ct l G yX4_has cX4_has 2 (some .boolean) 0 0 0 [.ref (lay G 14), .int (I32 i)] σ (some (.int (I32 (b2i (hasC σ 14 i))))) (σ) := by
  refine Ct.of (by decide +kernel) (Nat.le_of_ble_eq_true rfl) (fun f => ?_)
  show AW _ _ _ _ _ _ _ _ _ _ [(0, _), (1, _)] _ _
  refine A_iload_n dX4_has_0 rfl 1 rfl ?_
  refine J_if_lt (tgt := 22) dX4_has_1 (by decide) (by first | exact i32_eq (by assumption) | exact i32_eq ⟨by omega, by omega⟩ | with_reducible exact i32_i32 _ | with_reducible exact i32_eq (b2i_inr _) | rfl) (fun h1 => ?_) (fun h1 => ?_)
  · refine A_iconst dX4_has_22 ?_
    exact A_zret2 dX4_has_23 (by decide) (by simp only [hasC]; first | (rw [decide_eq_true (by omega), b2i_t]; done) | (rw [decide_eq_false (by omega), b2i_f]; done)) (by rfl)
  · refine A_iload_n dX4_has_4 rfl 1 rfl ?_
    refine A_aload_n dX4_has_5 rfl 0 rfl ?_
    refine A_geti fl_X4_19 lk_14 rfl dX4_has_6 ?_
    refine J_icmp_ge (tgt := 22) dX4_has_9 (by decide) (by first | exact i32_eq (by assumption) | exact i32_eq ⟨by omega, by omega⟩ | with_reducible exact i32_i32 _ | with_reducible exact i32_eq (b2i_inr _) | rfl) (by first | exact i32_eq (by assumption) | exact i32_eq ⟨by omega, by omega⟩ | with_reducible exact i32_i32 _ | with_reducible exact i32_eq (b2i_inr _) | rfl) (fun h9 => ?_) (fun h9 => ?_)
    · refine A_iconst dX4_has_22 ?_
      exact A_zret2 dX4_has_23 (by decide) (by simp only [hasC]; first | (rw [decide_eq_true (by omega), b2i_t]; done) | (rw [decide_eq_false (by omega), b2i_f]; done)) (by rfl)
    · refine A_iload_n dX4_has_12 rfl 1 rfl ?_
      refine A_bipush dX4_has_13 (by decide +kernel) ?_
      refine J_icmp_ge (tgt := 22) dX4_has_15 (by decide) (by first | exact i32_eq (by assumption) | exact i32_eq ⟨by omega, by omega⟩ | with_reducible exact i32_i32 _ | with_reducible exact i32_eq (b2i_inr _) | rfl) (by first | exact i32_eq (by assumption) | exact i32_eq ⟨by omega, by omega⟩ | with_reducible exact i32_i32 _ | with_reducible exact i32_eq (b2i_inr _) | rfl) (fun h15 => ?_) (fun h15 => ?_)
      · refine A_iconst dX4_has_22 ?_
        exact A_zret2 dX4_has_23 (by decide) (by simp only [hasC]; first | (rw [decide_eq_true (by omega), b2i_t]; done) | (rw [decide_eq_false (by omega), b2i_f]; done)) (by rfl)
      · refine A_iconst dX4_has_18 ?_
        refine A_goto (tgt := 23) dX4_has_19 (by decide) ?_
        exact A_zret2 dX4_has_23 (by decide) (by simp only [hasC]; first | (rw [decide_eq_true (by omega), b2i_t]; done) | (rw [decide_eq_false (by omega), b2i_f]; done)) (by rfl)
set_option maxRecDepth 100000 in
set_option maxHeartbeats 4000000 in
theorem c_X4_add_14 (σ : Sg) (v : Int)  : Ct l G yX4_add cX4_add 3 none 0 0 0 [.ref (lay G 14), .long (I64 v)] σ (none) (addC σ 14 v) := by
  refine Ct.of (by decide +kernel) (Nat.le_of_ble_eq_true rfl) (fun f => ?_)
  show AW _ _ _ _ _ _ _ _ _ _ [(0, _), (1, _)] _ _
  refine A_aload_n dX4_add_0 rfl 0 rfl ?_
  refine A_geti fl_X4_19 lk_14 rfl dX4_add_1 ?_
  refine J_if_lt (tgt := 36) dX4_add_4 (by decide) (by first | exact i32_eq (by assumption) | exact i32_eq ⟨by omega, by omega⟩ | with_reducible exact i32_i32 _ | with_reducible exact i32_eq (b2i_inr _) | rfl) (fun h4 => ?_) (fun h4 => ?_)
  · exact A_vret dX4_add_36 (by rfl) (by simp only [addC]; (repeat' split) <;> first | rfl | contradiction | (exfalso; omega) | (simp only [I32_i32, I64_i64]; done))
  · refine A_aload_n dX4_add_7 rfl 0 rfl ?_
    refine A_geti fl_X4_19 lk_14 rfl dX4_add_8 ?_
    refine A_bipush dX4_add_11 (by decide +kernel) ?_
    refine J_icmp_ge (tgt := 36) dX4_add_13 (by decide) (by first | exact i32_eq (by assumption) | exact i32_eq ⟨by omega, by omega⟩ | with_reducible exact i32_i32 _ | with_reducible exact i32_eq (b2i_inr _) | rfl) (by first | exact i32_eq (by assumption) | exact i32_eq ⟨by omega, by omega⟩ | with_reducible exact i32_i32 _ | with_reducible exact i32_eq (b2i_inr _) | rfl) (fun h13 => ?_) (fun h13 => ?_)
    · exact A_vret dX4_add_36 (by rfl) (by simp only [addC]; (repeat' split) <;> first | rfl | contradiction | (exfalso; omega) | (simp only [I32_i32, I64_i64]; done))
    · refine A_aload_n dX4_add_16 rfl 0 rfl ?_
      refine A_getr fl_X4_9 lk_14 rfl dX4_add_17 ?_
      refine A_aload_n dX4_add_20 rfl 0 rfl ?_
      refine A_geti fl_X4_19 lk_14 rfl dX4_add_21 ?_
      refine A_lload_n dX4_add_24 rfl 1 rfl ?_
      refine J_last lk_15 (by first | exact i32_eq (by assumption) | exact i32_eq ⟨by omega, by omega⟩ | with_reducible exact i32_i32 _ | with_reducible exact i32_eq (b2i_inr _) | rfl) (by omega) (by omega) (by decide) dX4_add_25 ?_
      refine A_aload_n dX4_add_26 rfl 0 rfl ?_
      refine A_dup dX4_add_27 rfl ?_
      refine A_geti fl_X4_19 lk_14 rfl dX4_add_28 ?_
      try simp (disch := decide) only [up_k, up_j, up_s]
      refine A_iconst dX4_add_31 ?_
      refine A_iadd dX4_add_32 ?_
      refine A_puti fl_X4_19 lk_14 rfl dX4_add_33 ?_
      exact A_vret dX4_add_36 (by rfl) (by simp only [addC]; (repeat' split) <;> first | rfl | contradiction | (exfalso; omega) | (simp only [I32_i32, I64_i64]; done))
set_option maxRecDepth 100000 in
set_option maxHeartbeats 4000000 in
theorem c_X4_isFull_14 (σ : Sg)  : Ct l G yX4_isFull cX4_isFull 1 (some .boolean) 0 0 0 [.ref (lay G 14)] σ (some (.int (I32 (b2i (fullC σ 14))))) (σ) := by
  refine Ct.of (by decide +kernel) (Nat.le_of_ble_eq_true rfl) (fun f => ?_)
  show AW _ _ _ _ _ _ _ _ _ _ [(0, _)] _ _
  refine A_aload_n dX4_isFull_0 rfl 0 rfl ?_
  refine A_geti fl_X4_19 lk_14 rfl dX4_isFull_1 ?_
  refine A_aload_n dX4_isFull_4 rfl 0 rfl ?_
  refine A_geti fl_X4_15 lk_14 rfl dX4_isFull_5 ?_
  refine J_icmp_lt (tgt := 15) dX4_isFull_8 (by decide) (by first | exact i32_eq (by assumption) | exact i32_eq ⟨by omega, by omega⟩ | with_reducible exact i32_i32 _ | with_reducible exact i32_eq (b2i_inr _) | rfl) (by first | exact i32_eq (by assumption) | exact i32_eq ⟨by omega, by omega⟩ | with_reducible exact i32_i32 _ | with_reducible exact i32_eq (b2i_inr _) | rfl) (fun h8 => ?_) (fun h8 => ?_)
  · refine A_iconst dX4_isFull_15 ?_
    exact A_zret2 dX4_isFull_16 (by decide) (by simp only [fullC]; first | (rw [decide_eq_true (by omega), b2i_t]; done) | (rw [decide_eq_false (by omega), b2i_f]; done)) (by rfl)
  · refine A_iconst dX4_isFull_11 ?_
    refine A_goto (tgt := 16) dX4_isFull_12 (by decide) ?_
    exact A_zret2 dX4_isFull_16 (by decide) (by simp only [fullC]; first | (rw [decide_eq_true (by omega), b2i_t]; done) | (rw [decide_eq_false (by omega), b2i_f]; done)) (by rfl)
set_option maxRecDepth 100000 in
set_option maxHeartbeats 4000000 in
theorem w_X4_indexOf_16 {f : Fm} (σ : Sg) (v : Int)  : ∀ (n : Nat) (i : Int) (r : Option Value), 0 ≤ i → i + n = 16 → r = some (.int (I32 (idxF σ 16 v n i))) → AW l G f (RX4, cX4_indexOf, 4, (some .int)) (1, 0, 0) (QT G f 0 0 r σ) [] 0 0 2 [(3, .int (I32 i)), (0, .ref (lay G 16)), (1, .long (I64 v))] [] σ := by
  intro n
  induction n using Nat.strongRecOn with | _ n ih =>
  intro i r h0 hn hr
  refine A_iload_n dX4_indexOf_2 rfl 0 rfl ?_
  refine A_aload_n dX4_indexOf_3 rfl 1 rfl ?_
  refine A_geti fl_X4_19 lk_16 rfl dX4_indexOf_4 ?_
  refine J_icmp_ge (tgt := 35) dX4_indexOf_7 (by decide) (by first | exact i32_eq (by assumption) | exact i32_eq ⟨by omega, by omega⟩ | with_reducible exact i32_i32 _ | with_reducible exact i32_eq (b2i_inr _) | rfl) (by first | exact i32_eq (by assumption) | exact i32_eq ⟨by omega, by omega⟩ | with_reducible exact i32_i32 _ | with_reducible exact i32_eq (b2i_inr _) | rfl) (fun h7 => ?_) (fun h7 => ?_)
  · refine A_iconst dX4_indexOf_35 ?_
    exact A_iret dX4_indexOf_36 (by rw [hr]; cases n <;> simp only [idxF] <;> (repeat' split) <;> first | rfl | contradiction | (exfalso; omega) | (simp only [I32_i32, I64_i64]; done)) (by rfl)
  · refine A_iload_n dX4_indexOf_10 rfl 0 rfl ?_
    refine A_bipush dX4_indexOf_11 (by decide +kernel) ?_
    refine J_icmp_ge (tgt := 35) dX4_indexOf_13 (by decide) (by first | exact i32_eq (by assumption) | exact i32_eq ⟨by omega, by omega⟩ | with_reducible exact i32_i32 _ | with_reducible exact i32_eq (b2i_inr _) | rfl) (by first | exact i32_eq (by assumption) | exact i32_eq ⟨by omega, by omega⟩ | with_reducible exact i32_i32 _ | with_reducible exact i32_eq (b2i_inr _) | rfl) (fun h13 => ?_) (fun h13 => ?_)
    · refine A_iconst dX4_indexOf_35 ?_
      exact A_iret dX4_indexOf_36 (by rw [hr]; cases n <;> simp only [idxF] <;> (repeat' split) <;> first | rfl | contradiction | (exfalso; omega) | (simp only [I32_i32, I64_i64]; done)) (by rfl)
    · refine A_aload_n dX4_indexOf_16 rfl 1 rfl ?_
      refine A_getr fl_X4_9 lk_16 rfl dX4_indexOf_17 ?_
      refine A_iload_n dX4_indexOf_20 rfl 0 rfl ?_
      refine J_lald lk_17 (by first | exact i32_eq (by assumption) | exact i32_eq ⟨by omega, by omega⟩ | with_reducible exact i32_i32 _ | with_reducible exact i32_eq (b2i_inr _) | rfl) (by omega) (by omega) (by decide) dX4_indexOf_21 ?_
      refine A_lload_n dX4_indexOf_22 rfl 2 rfl ?_
      refine A_lcmpE dX4_indexOf_23 ?_
      refine A_if_ne_e (tgt := 29) dX4_indexOf_24 (by decide) (fun h24 => ?_) (fun h24 => ?_)
      · refine A_iinc (lv2 := [(3, _), (0, _), (1, _)]) dX4_indexOf_29 0 rfl (by decide) rfl ?_
        refine A_goto (tgt := 2) dX4_indexOf_32 (by decide) ?_
        refine A_lv [0, 1, 2] rfl ?_
        exact ih (n - 1) (by omega) (i + 1) r (by omega) (by omega) (by rw [hr]; cases n with
          | zero => omega
          | succ n => simp only [idxF, Nat.add_sub_cancel]; (repeat' split) <;> first | rfl | contradiction | (exfalso; omega) | (simp only [I32_i32, I64_i64]; done))
      · refine A_iload_n dX4_indexOf_27 rfl 0 rfl ?_
        exact A_iret dX4_indexOf_28 (by rw [hr]; cases n <;> simp only [idxF] <;> (repeat' split) <;> first | rfl | contradiction | (exfalso; omega) | (simp only [I32_i32, I64_i64]; done)) (by rfl)
set_option maxRecDepth 100000 in
set_option maxHeartbeats 4000000 in
theorem c_X4_indexOf_16 (σ : Sg) (v : Int)  : Ct l G yX4_indexOf cX4_indexOf 4 (some .int) 1 0 0 [.ref (lay G 16), .long (I64 v)] σ (some (.int (I32 (idxC σ 16 v)))) (σ) := by
  refine Ct.of (by decide +kernel) (Nat.le_of_ble_eq_true rfl) (fun f => ?_)
  show AW _ _ _ _ _ _ _ _ _ _ [(0, _), (1, _)] _ _
  refine A_iconst dX4_indexOf_0 ?_
  refine A_istore_n (lv2 := [(3, _), (0, _), (1, _)]) dX4_indexOf_1 rfl (by decide) rfl ?_
  refine A_lv [0, 1, 2] rfl ?_
  exact w_X4_indexOf_16 σ v 16 0 _ (by omega) (by omega) rfl
set_option maxRecDepth 100000 in
set_option maxHeartbeats 4000000 in
theorem c_X4_has_16 (σ : Sg) (i : Int)  : Ct l G yX4_has cX4_has 2 (some .boolean) 0 0 0 [.ref (lay G 16), .int (I32 i)] σ (some (.int (I32 (b2i (hasC σ 16 i))))) (σ) := by
  refine Ct.of (by decide +kernel) (Nat.le_of_ble_eq_true rfl) (fun f => ?_)
  show AW _ _ _ _ _ _ _ _ _ _ [(0, _), (1, _)] _ _
  refine A_iload_n dX4_has_0 rfl 1 rfl ?_
  refine J_if_lt (tgt := 22) dX4_has_1 (by decide) (by first | exact i32_eq (by assumption) | exact i32_eq ⟨by omega, by omega⟩ | with_reducible exact i32_i32 _ | with_reducible exact i32_eq (b2i_inr _) | rfl) (fun h1 => ?_) (fun h1 => ?_)
  · refine A_iconst dX4_has_22 ?_
    exact A_zret2 dX4_has_23 (by decide) (by simp only [hasC]; first | (rw [decide_eq_true (by omega), b2i_t]; done) | (rw [decide_eq_false (by omega), b2i_f]; done)) (by rfl)
  · refine A_iload_n dX4_has_4 rfl 1 rfl ?_
    refine A_aload_n dX4_has_5 rfl 0 rfl ?_
    refine A_geti fl_X4_19 lk_16 rfl dX4_has_6 ?_
    refine J_icmp_ge (tgt := 22) dX4_has_9 (by decide) (by first | exact i32_eq (by assumption) | exact i32_eq ⟨by omega, by omega⟩ | with_reducible exact i32_i32 _ | with_reducible exact i32_eq (b2i_inr _) | rfl) (by first | exact i32_eq (by assumption) | exact i32_eq ⟨by omega, by omega⟩ | with_reducible exact i32_i32 _ | with_reducible exact i32_eq (b2i_inr _) | rfl) (fun h9 => ?_) (fun h9 => ?_)
    · refine A_iconst dX4_has_22 ?_
      exact A_zret2 dX4_has_23 (by decide) (by simp only [hasC]; first | (rw [decide_eq_true (by omega), b2i_t]; done) | (rw [decide_eq_false (by omega), b2i_f]; done)) (by rfl)
    · refine A_iload_n dX4_has_12 rfl 1 rfl ?_
      refine A_bipush dX4_has_13 (by decide +kernel) ?_
      refine J_icmp_ge (tgt := 22) dX4_has_15 (by decide) (by first | exact i32_eq (by assumption) | exact i32_eq ⟨by omega, by omega⟩ | with_reducible exact i32_i32 _ | with_reducible exact i32_eq (b2i_inr _) | rfl) (by first | exact i32_eq (by assumption) | exact i32_eq ⟨by omega, by omega⟩ | with_reducible exact i32_i32 _ | with_reducible exact i32_eq (b2i_inr _) | rfl) (fun h15 => ?_) (fun h15 => ?_)
      · refine A_iconst dX4_has_22 ?_
        exact A_zret2 dX4_has_23 (by decide) (by simp only [hasC]; first | (rw [decide_eq_true (by omega), b2i_t]; done) | (rw [decide_eq_false (by omega), b2i_f]; done)) (by rfl)
      · refine A_iconst dX4_has_18 ?_
        refine A_goto (tgt := 23) dX4_has_19 (by decide) ?_
        exact A_zret2 dX4_has_23 (by decide) (by simp only [hasC]; first | (rw [decide_eq_true (by omega), b2i_t]; done) | (rw [decide_eq_false (by omega), b2i_f]; done)) (by rfl)
set_option maxRecDepth 100000 in
set_option maxHeartbeats 4000000 in
theorem c_X4_add_16 (σ : Sg) (v : Int)  : Ct l G yX4_add cX4_add 3 none 0 0 0 [.ref (lay G 16), .long (I64 v)] σ (none) (addC σ 16 v) := by
  refine Ct.of (by decide +kernel) (Nat.le_of_ble_eq_true rfl) (fun f => ?_)
  show AW _ _ _ _ _ _ _ _ _ _ [(0, _), (1, _)] _ _
  refine A_aload_n dX4_add_0 rfl 0 rfl ?_
  refine A_geti fl_X4_19 lk_16 rfl dX4_add_1 ?_
  refine J_if_lt (tgt := 36) dX4_add_4 (by decide) (by first | exact i32_eq (by assumption) | exact i32_eq ⟨by omega, by omega⟩ | with_reducible exact i32_i32 _ | with_reducible exact i32_eq (b2i_inr _) | rfl) (fun h4 => ?_) (fun h4 => ?_)
  · exact A_vret dX4_add_36 (by rfl) (by simp only [addC]; (repeat' split) <;> first | rfl | contradiction | (exfalso; omega) | (simp only [I32_i32, I64_i64]; done))
  · refine A_aload_n dX4_add_7 rfl 0 rfl ?_
    refine A_geti fl_X4_19 lk_16 rfl dX4_add_8 ?_
    refine A_bipush dX4_add_11 (by decide +kernel) ?_
    refine J_icmp_ge (tgt := 36) dX4_add_13 (by decide) (by first | exact i32_eq (by assumption) | exact i32_eq ⟨by omega, by omega⟩ | with_reducible exact i32_i32 _ | with_reducible exact i32_eq (b2i_inr _) | rfl) (by first | exact i32_eq (by assumption) | exact i32_eq ⟨by omega, by omega⟩ | with_reducible exact i32_i32 _ | with_reducible exact i32_eq (b2i_inr _) | rfl) (fun h13 => ?_) (fun h13 => ?_)
    · exact A_vret dX4_add_36 (by rfl) (by simp only [addC]; (repeat' split) <;> first | rfl | contradiction | (exfalso; omega) | (simp only [I32_i32, I64_i64]; done))
    · refine A_aload_n dX4_add_16 rfl 0 rfl ?_
      refine A_getr fl_X4_9 lk_16 rfl dX4_add_17 ?_
      refine A_aload_n dX4_add_20 rfl 0 rfl ?_
      refine A_geti fl_X4_19 lk_16 rfl dX4_add_21 ?_
      refine A_lload_n dX4_add_24 rfl 1 rfl ?_
      refine J_last lk_17 (by first | exact i32_eq (by assumption) | exact i32_eq ⟨by omega, by omega⟩ | with_reducible exact i32_i32 _ | with_reducible exact i32_eq (b2i_inr _) | rfl) (by omega) (by omega) (by decide) dX4_add_25 ?_
      refine A_aload_n dX4_add_26 rfl 0 rfl ?_
      refine A_dup dX4_add_27 rfl ?_
      refine A_geti fl_X4_19 lk_16 rfl dX4_add_28 ?_
      try simp (disch := decide) only [up_k, up_j, up_s]
      refine A_iconst dX4_add_31 ?_
      refine A_iadd dX4_add_32 ?_
      refine A_puti fl_X4_19 lk_16 rfl dX4_add_33 ?_
      exact A_vret dX4_add_36 (by rfl) (by simp only [addC]; (repeat' split) <;> first | rfl | contradiction | (exfalso; omega) | (simp only [I32_i32, I64_i64]; done))
set_option maxRecDepth 100000 in
set_option maxHeartbeats 4000000 in
theorem c_X4_isFull_16 (σ : Sg)  : Ct l G yX4_isFull cX4_isFull 1 (some .boolean) 0 0 0 [.ref (lay G 16)] σ (some (.int (I32 (b2i (fullC σ 16))))) (σ) := by
  refine Ct.of (by decide +kernel) (Nat.le_of_ble_eq_true rfl) (fun f => ?_)
  show AW _ _ _ _ _ _ _ _ _ _ [(0, _)] _ _
  refine A_aload_n dX4_isFull_0 rfl 0 rfl ?_
  refine A_geti fl_X4_19 lk_16 rfl dX4_isFull_1 ?_
  refine A_aload_n dX4_isFull_4 rfl 0 rfl ?_
  refine A_geti fl_X4_15 lk_16 rfl dX4_isFull_5 ?_
  refine J_icmp_lt (tgt := 15) dX4_isFull_8 (by decide) (by first | exact i32_eq (by assumption) | exact i32_eq ⟨by omega, by omega⟩ | with_reducible exact i32_i32 _ | with_reducible exact i32_eq (b2i_inr _) | rfl) (by first | exact i32_eq (by assumption) | exact i32_eq ⟨by omega, by omega⟩ | with_reducible exact i32_i32 _ | with_reducible exact i32_eq (b2i_inr _) | rfl) (fun h8 => ?_) (fun h8 => ?_)
  · refine A_iconst dX4_isFull_15 ?_
    exact A_zret2 dX4_isFull_16 (by decide) (by simp only [fullC]; first | (rw [decide_eq_true (by omega), b2i_t]; done) | (rw [decide_eq_false (by omega), b2i_f]; done)) (by rfl)
  · refine A_iconst dX4_isFull_11 ?_
    refine A_goto (tgt := 16) dX4_isFull_12 (by decide) ?_
    exact A_zret2 dX4_isFull_16 (by decide) (by simp only [fullC]; first | (rw [decide_eq_true (by omega), b2i_t]; done) | (rw [decide_eq_false (by omega), b2i_f]; done)) (by rfl)
end S10
