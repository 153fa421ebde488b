/-! Tape.append, the words and numbers of Tokens, Program.addTo -/
section S22
variable {l : Launch} {G : Gx}
def tpA (σ : Sg) (x sh : Int) : Sg := if 0 ≤ i32 (σ 1 1) ∧ i32 (σ 1 1) < 1500 then up (up σ 2 (i32 (σ 1 1)).toNat (i2b (i2b (ishr x sh)))) 1 1 (σ 1 1 + 1) else σ
def tpF (x : Int) : Nat → Int → Sg → Sg
  | 0, _, σ => σ
  | n + 1, i, σ => tpF x n (i + -8) (tpA σ x i)
theorem tpF_s (x : Int) (n : Nat) (i : Int) (σ : Sg) : tpF x (n + 1) i σ = tpF x n (i + -8) (tpA σ x i) := rfl
def tpC (σ : Sg) (x : Int) : Sg := tpF x 4 24 σ
def rwF (σ : Sg) : Nat → Int → Int → Int × Int
  | 0, e, c => (e, c)
  | n + 1, e, c => if e < 1500 ∧ isLet (byteC σ e) = true then rwF σ n (e + 1) (c * 27 + i32 (byteC σ e - 97 + 1)) else (e, c)
def rnF (σ : Sg) : Nat → Int → Int → Int × Int
  | 0, e, c => (e, c)
  | n + 1, e, c => if e < 1500 ∧ isDig (byteC σ e) = true then rnF σ n (e + 1) (c * 10 + i32 (byteC σ e) - 48) else (e, c)
def rwC (σ : Sg) (p : Int) : Int × Int := rwF σ (1500 - p).toNat p 0
def rnC (σ : Sg) (p : Int) : Int × Int := rnF σ (1500 - p).toNat p 0
def rwS (σ : Sg) (p : Int) (q : Int × Int) : Sg := apC σ (if q.1 - p ≤ 10 then kwC σ q.2 else 24) p q.2
def rnS (σ : Sg) (p : Int) (q : Int × Int) : Sg := apC σ (if q.1 - p ≤ 4 then 23 else 24) p q.2
set_option maxRecDepth 100000 in
set_option maxHeartbeats 4000000 in
theorem w_X8_append {f : Fm} (x : Int) : ∀ (n : Nat) (i : Int) (σ : Sg) (σ1 : Sg), i = 8 * n - 8 → n ≤ 4 → σ1 = tpF x n i σ → AW l G f (RX8, cX8_append, 3, none) (0, 0, 0) (QT G f 0 0 none σ1) [] 0 0 3 [(2, .int (I32 i)), (0, .ref (lay G 1)), (1, .int (I32 x))] [] σ := by
  intro n
  induction n using Nat.strongRecOn with | _ n ih =>
  intro i σ σ1 h0 hn hs
  refine A_iload_n dX8_append_3 rfl 0 rfl ?_
  refine J_if_lt (tgt := 53) dX8_append_4 (by decide) (by first | exact i32_eq (by assumption) | exact i32_eq ⟨by omega, by omega⟩ | with_reducible exact i32_i32 _ | with_reducible exact i32_eq (b2i_inr _) | rfl) (fun h4 => ?_) (fun h4 => ?_)
  · exact A_vret dX8_append_53 (by rfl) (by rw [hs]; have hz : n = 0 := (by omega); subst hz; rfl)
  · refine A_aload_n dX8_append_7 rfl 1 rfl ?_
    refine A_geti fl_X8_15 lk_1 rfl dX8_append_8 ?_
    try simp (disch := omega) only [up_k, up_j, up_s]
    refine J_if_lt (tgt := 47) dX8_append_11 (by decide) (by first | exact i32_eq (by assumption) | exact i32_eq ⟨by omega, by omega⟩ | with_reducible exact i32_i32 _ | with_reducible exact i32_eq (b2i_inr _) | rfl) (fun h11 => ?_) (fun h11 => ?_)
    · refine A_iinc (lv2 := [(2, _), (0, _), (1, _)]) dX8_append_47 0 rfl (by decide) rfl ?_
      refine A_goto (tgt := 3) dX8_append_50 (by decide) ?_
      refine A_lv [0, 1, 2] rfl ?_
      refine ih (n - 1) (by omega) (i + -8) _ σ1 (by omega) (by omega) ?_
      rw [hs]
      obtain ⟨n, rfl⟩ : ∃ q, n = q + 1 := ⟨n - 1, by omega⟩
      clear ih
      rw [tpF_s, Nat.add_sub_cancel]
      unfold tpA
      first | rw [if_pos ⟨by omega, by omega⟩] | rw [if_neg (by omega)]
    · refine A_aload_n dX8_append_14 rfl 1 rfl ?_
      refine A_geti fl_X8_15 lk_1 rfl dX8_append_15 ?_
      try simp (disch := omega) only [up_k, up_j, up_s]
      refine A_sipush dX8_append_18 (by decide +kernel) ?_
      refine J_icmp_ge (tgt := 47) dX8_append_21 (by decide) (by first | exact i32_eq (by assumption) | exact i32_eq ⟨by omega, by omega⟩ | with_reducible exact i32_i32 _ | with_reducible exact i32_eq (b2i_inr _) | rfl) (by first | exact i32_eq (by assumption) | exact i32_eq ⟨by omega, by omega⟩ | with_reducible exact i32_i32 _ | with_reducible exact i32_eq (b2i_inr _) | rfl) (fun h21 => ?_) (fun h21 => ?_)
      · refine A_iinc (lv2 := [(2, _), (0, _), (1, _)]) dX8_append_47 0 rfl (by decide) rfl ?_
        refine A_goto (tgt := 3) dX8_append_50 (by decide) ?_
        refine A_lv [0, 1, 2] rfl ?_
        refine ih (n - 1) (by omega) (i + -8) _ σ1 (by omega) (by omega) ?_
        rw [hs]
        obtain ⟨n, rfl⟩ : ∃ q, n = q + 1 := ⟨n - 1, by omega⟩
        clear ih
        rw [tpF_s, Nat.add_sub_cancel]
        unfold tpA
        first | rw [if_pos ⟨by omega, by omega⟩] | rw [if_neg (by omega)]
      · refine A_aload_n dX8_append_24 rfl 1 rfl ?_
        refine A_getr fl_X8_11 lk_1 rfl dX8_append_25 ?_
        refine A_aload_n dX8_append_28 rfl 1 rfl ?_
        refine A_geti fl_X8_15 lk_1 rfl dX8_append_29 ?_
        try simp (disch := omega) only [up_k, up_j, up_s]
        refine A_iload_n dX8_append_32 rfl 2 rfl ?_
        refine A_iload_n dX8_append_33 rfl 0 rfl ?_
        refine A_ishr dX8_append_34 ?_
        refine A_i2b dX8_append_35 ?_
        refine J_bast lk_2 (by first | exact i32_eq (by assumption) | exact i32_eq ⟨by omega, by omega⟩ | with_reducible exact i32_i32 _ | with_reducible exact i32_eq (b2i_inr _) | rfl) (by omega) (by omega) (by decide) dX8_append_36 ?_
        refine A_aload_n dX8_append_37 rfl 1 rfl ?_
        refine A_dup dX8_append_38 rfl ?_
        refine A_geti fl_X8_15 lk_1 rfl dX8_append_39 ?_
        try simp (disch := omega) only [up_k, up_j, up_s]
        refine A_iconst dX8_append_42 ?_
        refine A_iadd dX8_append_43 ?_
        refine A_puti fl_X8_15 lk_1 rfl dX8_append_44 ?_
        refine A_iinc (lv2 := [(2, _), (0, _), (1, _)]) dX8_append_47 0 rfl (by decide) rfl ?_
        refine A_goto (tgt := 3) dX8_append_50 (by decide) ?_
        refine A_lv [0, 1, 2] rfl ?_
        refine ih (n - 1) (by omega) (i + -8) _ σ1 (by omega) (by omega) ?_
        rw [hs]
        obtain ⟨n, rfl⟩ : ∃ q, n = q + 1 := ⟨n - 1, by omega⟩
        clear ih
        rw [tpF_s, Nat.add_sub_cancel]
        unfold tpA
        first | rw [if_pos ⟨by omega, by omega⟩] | rw [if_neg (by omega)]
set_option maxRecDepth 100000 in
set_option maxHeartbeats 4000000 in
theorem c_X8_append (σ : Sg) (x : Int)  : Ct l G yX8_append cX8_append 3 none 0 0 0 [.ref (lay G 1), .int (I32 x)] σ (none) (tpC σ x) := by
  refine Ct.of (by decide +kernel) (Nat.le_of_ble_eq_true rfl) (fun f => ?_)
  show AW _ _ _ _ _ _ _ _ _ _ [(0, _), (1, _)] _ _
  refine A_bipush dX8_append_0 (by decide +kernel) ?_
  refine A_istore_n (lv2 := [(2, _), (0, _), (1, _)]) dX8_append_2 rfl (by decide) rfl ?_
  refine A_lv [0, 1, 2] rfl ?_
  exact w_X8_append x 4 24 σ _ (by omega) (by omega) rfl
set_option maxRecDepth 100000 in
set_option maxHeartbeats 4000000 in
theorem w_X9_readWord {f : Fm} (σ : Sg) (p : Int) (hp : 0 ≤ p ∧ p < 1500) : ∀ (n : Nat) (i c : Int) (r : Option Value) (σ1 : Sg), p ≤ i → i + n = 1500 → r = some (.int (I32 (rwF σ n i c).1)) → σ1 = rwS σ p (rwF σ n i c) → AW l G f (RX9, cX9_readWord, 6, (some .int)) (2, 0, 0) (QT G f 0 0 r σ1) [] 0 0 5 [(5, .int (I32 i)), (3, .long (I64 c)), (0, .ref (lay G 3)), (1, .ref (lay G 1)), (2, .int (I32 p))] [] σ := by
  intro n
  induction n using Nat.strongRecOn with | _ n ih =>
  intro i c r σ1 h0 hn hr hs
  refine A_iload dX9_readWord_5 0 rfl ?_
  refine A_sipush dX9_readWord_7 (by decide +kernel) ?_
  refine J_icmp_ge (tgt := 42) dX9_readWord_10 (by decide) (by first | exact i32_eq (by assumption) | exact i32_eq ⟨by omega, by omega⟩ | with_reducible exact i32_i32 _ | with_reducible exact i32_eq (b2i_inr _) | rfl) (by first | exact i32_eq (by assumption) | exact i32_eq ⟨by omega, by omega⟩ | with_reducible exact i32_i32 _ | with_reducible exact i32_eq (b2i_inr _) | rfl) (fun h10 => ?_) (fun h10 => ?_)
  · refine A_aload_n dX9_readWord_42 rfl 2 rfl ?_
    refine A_iload dX9_readWord_43 0 rfl ?_
    refine A_iload_n dX9_readWord_45 rfl 4 rfl ?_
    refine A_isub dX9_readWord_46 ?_
    refine A_bipush dX9_readWord_47 (by decide +kernel) ?_
    refine J_icmp_gt (tgt := 60) dX9_readWord_49 (by decide) (by first | exact i32_eq (by assumption) | exact i32_eq ⟨by omega, by omega⟩ | with_reducible exact i32_i32 _ | with_reducible exact i32_eq (b2i_inr _) | rfl) (by first | exact i32_eq (by assumption) | exact i32_eq ⟨by omega, by omega⟩ | with_reducible exact i32_i32 _ | with_reducible exact i32_eq (b2i_inr _) | rfl) (fun h49 => ?_) (fun h49 => ?_)
    · refine A_bipush dX9_readWord_60 (by decide +kernel) ?_
      refine A_iload_n dX9_readWord_62 rfl 4 rfl ?_
      refine A_lload_n dX9_readWord_63 rfl 1 rfl ?_
      refine A_Vv3 mv_X9_53 lk_3 rfl rfl (c_X9_append _ _ _ _) (Nat.le_of_ble_eq_true rfl) (by omega) (by omega) dX9_readWord_64 ?_
      refine A_iload dX9_readWord_67 0 rfl ?_
      exact A_iret dX9_readWord_69 (by rw [hr]; clear ih; have e : rwF σ n i c = (i, c) := (by cases n with | zero => rfl | succ n => simp only [rwF]; first | (rw [if_neg (by omega)]; done) | (rw [if_neg (fun z => absurd z.2 (by rw [h22]; decide))]; done)); rw [e]) (by rw [hs]; clear ih; have e : rwF σ n i c = (i, c) := (by cases n with | zero => rfl | succ n => simp only [rwF]; first | (rw [if_neg (by omega)]; done) | (rw [if_neg (fun z => absurd z.2 (by rw [h22]; decide))]; done)); rw [e]; simp only [rwS]; first | (rw [if_pos (by omega)]; done) | (rw [if_neg (by omega)]; done))
    · refine A_aload_n dX9_readWord_52 rfl 2 rfl ?_
      refine A_lload_n dX9_readWord_53 rfl 1 rfl ?_
      refine A_Va1 mv_X9_79 lk_3 rfl rfl (c_X9_kindOfWord _ _) (Nat.le_of_ble_eq_true rfl) (by omega) (by omega) dX9_readWord_54 ?_
      refine A_goto (tgt := 62) dX9_readWord_57 (by decide) ?_
      refine A_iload_n dX9_readWord_62 rfl 4 rfl ?_
      refine A_lload_n dX9_readWord_63 rfl 1 rfl ?_
      refine A_Vv3 mv_X9_53 lk_3 rfl rfl (c_X9_append _ _ _ _) (Nat.le_of_ble_eq_true rfl) (by omega) (by omega) dX9_readWord_64 ?_
      refine A_iload dX9_readWord_67 0 rfl ?_
      exact A_iret dX9_readWord_69 (by rw [hr]; clear ih; have e : rwF σ n i c = (i, c) := (by cases n with | zero => rfl | succ n => simp only [rwF]; first | (rw [if_neg (by omega)]; done) | (rw [if_neg (fun z => absurd z.2 (by rw [h22]; decide))]; done)); rw [e]) (by rw [hs]; clear ih; have e : rwF σ n i c = (i, c) := (by cases n with | zero => rfl | succ n => simp only [rwF]; first | (rw [if_neg (by omega)]; done) | (rw [if_neg (fun z => absurd z.2 (by rw [h22]; decide))]; done)); rw [e]; simp only [rwS]; first | (rw [if_pos (by omega)]; done) | (rw [if_neg (by omega)]; done))
  · refine A_aload_n dX9_readWord_13 rfl 3 rfl ?_
    refine A_iload dX9_readWord_14 0 rfl ?_
    refine A_Va1 mv_X9_57 lk_1 rfl rfl (c_X8_byteAt _ _) (Nat.le_of_ble_eq_true rfl) (by omega) (by omega) dX9_readWord_16 ?_
    refine A_Sa1 ms_X9_61 (c_X9_isLetter _ _) (Nat.le_of_ble_eq_true rfl) (by omega) (by omega) dX9_readWord_19 ?_
    refine A_ifeq_b (tgt := 42) dX9_readWord_22 (by decide) (fun h22 => ?_) (fun h22 => ?_)
    · refine A_aload_n dX9_readWord_42 rfl 2 rfl ?_
      refine A_iload dX9_readWord_43 0 rfl ?_
      refine A_iload_n dX9_readWord_45 rfl 4 rfl ?_
      refine A_isub dX9_readWord_46 ?_
      refine A_bipush dX9_readWord_47 (by decide +kernel) ?_
      refine J_icmp_gt (tgt := 60) dX9_readWord_49 (by decide) (by first | exact i32_eq (by assumption) | exact i32_eq ⟨by omega, by omega⟩ | with_reducible exact i32_i32 _ | with_reducible exact i32_eq (b2i_inr _) | rfl) (by first | exact i32_eq (by assumption) | exact i32_eq ⟨by omega, by omega⟩ | with_reducible exact i32_i32 _ | with_reducible exact i32_eq (b2i_inr _) | rfl) (fun h49 => ?_) (fun h49 => ?_)
      · refine A_bipush dX9_readWord_60 (by decide +kernel) ?_
        refine A_iload_n dX9_readWord_62 rfl 4 rfl ?_
        refine A_lload_n dX9_readWord_63 rfl 1 rfl ?_
        refine A_Vv3 mv_X9_53 lk_3 rfl rfl (c_X9_append _ _ _ _) (Nat.le_of_ble_eq_true rfl) (by omega) (by omega) dX9_readWord_64 ?_
        refine A_iload dX9_readWord_67 0 rfl ?_
        exact A_iret dX9_readWord_69 (by rw [hr]; clear ih; have e : rwF σ n i c = (i, c) := (by cases n with | zero => rfl | succ n => simp only [rwF]; first | (rw [if_neg (by omega)]; done) | (rw [if_neg (fun z => absurd z.2 (by rw [h22]; decide))]; done)); rw [e]) (by rw [hs]; clear ih; have e : rwF σ n i c = (i, c) := (by cases n with | zero => rfl | succ n => simp only [rwF]; first | (rw [if_neg (by omega)]; done) | (rw [if_neg (fun z => absurd z.2 (by rw [h22]; decide))]; done)); rw [e]; simp only [rwS]; first | (rw [if_pos (by omega)]; done) | (rw [if_neg (by omega)]; done))
      · refine A_aload_n dX9_readWord_52 rfl 2 rfl ?_
        refine A_lload_n dX9_readWord_53 rfl 1 rfl ?_
        refine A_Va1 mv_X9_79 lk_3 rfl rfl (c_X9_kindOfWord _ _) (Nat.le_of_ble_eq_true rfl) (by omega) (by omega) dX9_readWord_54 ?_
        refine A_goto (tgt := 62) dX9_readWord_57 (by decide) ?_
        refine A_iload_n dX9_readWord_62 rfl 4 rfl ?_
        refine A_lload_n dX9_readWord_63 rfl 1 rfl ?_
        refine A_Vv3 mv_X9_53 lk_3 rfl rfl (c_X9_append _ _ _ _) (Nat.le_of_ble_eq_true rfl) (by omega) (by omega) dX9_readWord_64 ?_
        refine A_iload dX9_readWord_67 0 rfl ?_
        exact A_iret dX9_readWord_69 (by rw [hr]; clear ih; have e : rwF σ n i c = (i, c) := (by cases n with | zero => rfl | succ n => simp only [rwF]; first | (rw [if_neg (by omega)]; done) | (rw [if_neg (fun z => absurd z.2 (by rw [h22]; decide))]; done)); rw [e]) (by rw [hs]; clear ih; have e : rwF σ n i c = (i, c) := (by cases n with | zero => rfl | succ n => simp only [rwF]; first | (rw [if_neg (by omega)]; done) | (rw [if_neg (fun z => absurd z.2 (by rw [h22]; decide))]; done)); rw [e]; simp only [rwS]; first | (rw [if_pos (by omega)]; done) | (rw [if_neg (by omega)]; done))
    · refine A_lload_n dX9_readWord_25 rfl 1 rfl ?_
      refine A_aload_n dX9_readWord_26 rfl 3 rfl ?_
      refine A_iload dX9_readWord_27 0 rfl ?_
      refine A_Va1 mv_X9_57 lk_1 rfl rfl (c_X8_byteAt _ _) (Nat.le_of_ble_eq_true rfl) (by omega) (by omega) dX9_readWord_29 ?_
      refine A_Sa2 ms_X9_39 (c_X9_withLetter _ _ _) (Nat.le_of_ble_eq_true rfl) (by omega) (by omega) dX9_readWord_32 ?_
      refine A_lstore_n (lv2 := [(3, _), (5, _), (0, _), (1, _), (2, _)]) dX9_readWord_35 rfl (by decide) rfl ?_
      refine A_iinc (lv2 := [(5, _), (3, _), (0, _), (1, _), (2, _)]) dX9_readWord_36 1 rfl (by decide) rfl ?_
      refine A_goto (tgt := 5) dX9_readWord_39 (by decide) ?_
      refine A_lv [0, 1, 2, 3, 4] rfl ?_
      exact ih (n - 1) (by omega) (i + 1) _ r σ1 (by omega) (by omega) (by rw [hr]; clear ih; obtain ⟨n, rfl⟩ : ∃ q, n = q + 1 := ⟨n - 1, by omega⟩; simp only [rwF, Nat.add_sub_cancel]; rw [if_pos ⟨by omega, h22⟩]) (by rw [hs]; clear ih; obtain ⟨n, rfl⟩ : ∃ q, n = q + 1 := ⟨n - 1, by omega⟩; simp only [rwF, Nat.add_sub_cancel]; rw [if_pos ⟨by omega, h22⟩])
set_option maxRecDepth 100000 in
set_option maxHeartbeats 4000000 in
theorem c_X9_readWord (σ : Sg) (p : Int) (hp : 0 ≤ p ∧ p < 1500) : Ct l G yX9_readWord cX9_readWord 6 (some .int) 2 0 0 [.ref (lay G 3), .ref (lay G 1), .int (I32 p)] σ (some (.int (I32 (rwC σ p).1))) (rwS σ p (rwC σ p)) := by
  refine Ct.of (by decide +kernel) (Nat.le_of_ble_eq_true rfl) (fun f => ?_)
  show AW _ _ _ _ _ _ _ _ _ _ [(0, _), (1, _), (2, _)] _ _
  refine A_lconst (w := 0) dX9_readWord_0 rfl ?_
  refine A_lstore_n (lv2 := [(3, _), (0, _), (1, _), (2, _)]) dX9_readWord_1 rfl (by decide) rfl ?_
  refine A_iload_n dX9_readWord_2 rfl 3 rfl ?_
  refine A_istore (lv2 := [(5, _), (3, _), (0, _), (1, _), (2, _)]) dX9_readWord_3 (by decide) rfl ?_
  refine A_lv [0, 1, 2, 3, 4] rfl ?_
  exact w_X9_readWord σ p hp (1500 - p).toNat p 0 _ _ (by omega) (by omega) rfl rfl
set_option maxRecDepth 100000 in
set_option maxHeartbeats 4000000 in
theorem w_X9_readNumber {f : Fm} (σ : Sg) (p : Int) (hp : 0 ≤ p ∧ p < 1500) : ∀ (n : Nat) (i c : Int) (r : Option Value) (σ1 : Sg), p ≤ i → i + n = 1500 → r = some (.int (I32 (rnF σ n i c).1)) → σ1 = rnS σ p (rnF σ n i c) → AW l G f (RX9, cX9_readNumber, 6, (some .int)) (2, 0, 0) (QT G f 0 0 r σ1) [] 0 0 5 [(5, .int (I32 i)), (3, .long (I64 c)), (0, .ref (lay G 3)), (1, .ref (lay G 1)), (2, .int (I32 p))] [] σ := by
  intro n
  induction n using Nat.strongRecOn with | _ n ih =>
  intro i c r σ1 h0 hn hr hs
  refine A_iload dX9_readNumber_5 0 rfl ?_
  refine A_sipush dX9_readNumber_7 (by decide +kernel) ?_
  refine J_icmp_ge (tgt := 49) dX9_readNumber_10 (by decide) (by first | exact i32_eq (by assumption) | exact i32_eq ⟨by omega, by omega⟩ | with_reducible exact i32_i32 _ | with_reducible exact i32_eq (b2i_inr _) | rfl) (by first | exact i32_eq (by assumption) | exact i32_eq ⟨by omega, by omega⟩ | with_reducible exact i32_i32 _ | with_reducible exact i32_eq (b2i_inr _) | rfl) (fun h10 => ?_) (fun h10 => ?_)
  · refine A_aload_n dX9_readNumber_49 rfl 2 rfl ?_
    refine A_iload dX9_readNumber_50 0 rfl ?_
    refine A_iload_n dX9_readNumber_52 rfl 4 rfl ?_
    refine A_isub dX9_readNumber_53 ?_
    refine A_iconst dX9_readNumber_54 ?_
    refine J_icmp_gt (tgt := 63) dX9_readNumber_55 (by decide) (by first | exact i32_eq (by assumption) | exact i32_eq ⟨by omega, by omega⟩ | with_reducible exact i32_i32 _ | with_reducible exact i32_eq (b2i_inr _) | rfl) (by first | exact i32_eq (by assumption) | exact i32_eq ⟨by omega, by omega⟩ | with_reducible exact i32_i32 _ | with_reducible exact i32_eq (b2i_inr _) | rfl) (fun h55 => ?_) (fun h55 => ?_)
    · refine A_bipush dX9_readNumber_63 (by decide +kernel) ?_
      refine A_iload_n dX9_readNumber_65 rfl 4 rfl ?_
      refine A_lload_n dX9_readNumber_66 rfl 1 rfl ?_
      refine A_Vv3 mv_X9_53 lk_3 rfl rfl (c_X9_append _ _ _ _) (Nat.le_of_ble_eq_true rfl) (by omega) (by omega) dX9_readNumber_67 ?_
      refine A_iload dX9_readNumber_70 0 rfl ?_
      exact A_iret dX9_readNumber_72 (by rw [hr]; clear ih; have e : rnF σ n i c = (i, c) := (by cases n with | zero => rfl | succ n => simp only [rnF]; first | (rw [if_neg (by omega)]; done) | (rw [if_neg (fun z => absurd z.2 (by rw [h22]; decide))]; done)); rw [e]) (by rw [hs]; clear ih; have e : rnF σ n i c = (i, c) := (by cases n with | zero => rfl | succ n => simp only [rnF]; first | (rw [if_neg (by omega)]; done) | (rw [if_neg (fun z => absurd z.2 (by rw [h22]; decide))]; done)); rw [e]; simp only [rnS]; first | (rw [if_pos (by omega)]; done) | (rw [if_neg (by omega)]; done))
    · refine A_bipush dX9_readNumber_58 (by decide +kernel) ?_
      refine A_goto (tgt := 65) dX9_readNumber_60 (by decide) ?_
      refine A_iload_n dX9_readNumber_65 rfl 4 rfl ?_
      refine A_lload_n dX9_readNumber_66 rfl 1 rfl ?_
      refine A_Vv3 mv_X9_53 lk_3 rfl rfl (c_X9_append _ _ _ _) (Nat.le_of_ble_eq_true rfl) (by omega) (by omega) dX9_readNumber_67 ?_
      refine A_iload dX9_readNumber_70 0 rfl ?_
      exact A_iret dX9_readNumber_72 (by rw [hr]; clear ih; have e : rnF σ n i c = (i, c) := (by cases n with | zero => rfl | succ n => simp only [rnF]; first | (rw [if_neg (by omega)]; done) | (rw [if_neg (fun z => absurd z.2 (by rw [h22]; decide))]; done)); rw [e]) (by rw [hs]; clear ih; have e : rnF σ n i c = (i, c) := (by cases n with | zero => rfl | succ n => simp only [rnF]; first | (rw [if_neg (by omega)]; done) | (rw [if_neg (fun z => absurd z.2 (by rw [h22]; decide))]; done)); rw [e]; simp only [rnS]; first | (rw [if_pos (by omega)]; done) | (rw [if_neg (by omega)]; done))
  · refine A_aload_n dX9_readNumber_13 rfl 3 rfl ?_
    refine A_iload dX9_readNumber_14 0 rfl ?_
    refine A_Va1 mv_X9_57 lk_1 rfl rfl (c_X8_byteAt _ _) (Nat.le_of_ble_eq_true rfl) (by omega) (by omega) dX9_readNumber_16 ?_
    refine A_Sa1 ms_X9_68 (c_X9_isDigit _ _) (Nat.le_of_ble_eq_true rfl) (by omega) (by omega) dX9_readNumber_19 ?_
    refine A_ifeq_b (tgt := 49) dX9_readNumber_22 (by decide) (fun h22 => ?_) (fun h22 => ?_)
    · refine A_aload_n dX9_readNumber_49 rfl 2 rfl ?_
      refine A_iload dX9_readNumber_50 0 rfl ?_
      refine A_iload_n dX9_readNumber_52 rfl 4 rfl ?_
      refine A_isub dX9_readNumber_53 ?_
      refine A_iconst dX9_readNumber_54 ?_
      refine J_icmp_gt (tgt := 63) dX9_readNumber_55 (by decide) (by first | exact i32_eq (by assumption) | exact i32_eq ⟨by omega, by omega⟩ | with_reducible exact i32_i32 _ | with_reducible exact i32_eq (b2i_inr _) | rfl) (by first | exact i32_eq (by assumption) | exact i32_eq ⟨by omega, by omega⟩ | with_reducible exact i32_i32 _ | with_reducible exact i32_eq (b2i_inr _) | rfl) (fun h55 => ?_) (fun h55 => ?_)
      · refine A_bipush dX9_readNumber_63 (by decide +kernel) ?_
        refine A_iload_n dX9_readNumber_65 rfl 4 rfl ?_
        refine A_lload_n dX9_readNumber_66 rfl 1 rfl ?_
        refine A_Vv3 mv_X9_53 lk_3 rfl rfl (c_X9_append _ _ _ _) (Nat.le_of_ble_eq_true rfl) (by omega) (by omega) dX9_readNumber_67 ?_
        refine A_iload dX9_readNumber_70 0 rfl ?_
        exact A_iret dX9_readNumber_72 (by rw [hr]; clear ih; have e : rnF σ n i c = (i, c) := (by cases n with | zero => rfl | succ n => simp only [rnF]; first | (rw [if_neg (by omega)]; done) | (rw [if_neg (fun z => absurd z.2 (by rw [h22]; decide))]; done)); rw [e]) (by rw [hs]; clear ih; have e : rnF σ n i c = (i, c) := (by cases n with | zero => rfl | succ n => simp only [rnF]; first | (rw [if_neg (by omega)]; done) | (rw [if_neg (fun z => absurd z.2 (by rw [h22]; decide))]; done)); rw [e]; simp only [rnS]; first | (rw [if_pos (by omega)]; done) | (rw [if_neg (by omega)]; done))
      · refine A_bipush dX9_readNumber_58 (by decide +kernel) ?_
        refine A_goto (tgt := 65) dX9_readNumber_60 (by decide) ?_
        refine A_iload_n dX9_readNumber_65 rfl 4 rfl ?_
        refine A_lload_n dX9_readNumber_66 rfl 1 rfl ?_
        refine A_Vv3 mv_X9_53 lk_3 rfl rfl (c_X9_append _ _ _ _) (Nat.le_of_ble_eq_true rfl) (by omega) (by omega) dX9_readNumber_67 ?_
        refine A_iload dX9_readNumber_70 0 rfl ?_
        exact A_iret dX9_readNumber_72 (by rw [hr]; clear ih; have e : rnF σ n i c = (i, c) := (by cases n with | zero => rfl | succ n => simp only [rnF]; first | (rw [if_neg (by omega)]; done) | (rw [if_neg (fun z => absurd z.2 (by rw [h22]; decide))]; done)); rw [e]) (by rw [hs]; clear ih; have e : rnF σ n i c = (i, c) := (by cases n with | zero => rfl | succ n => simp only [rnF]; first | (rw [if_neg (by omega)]; done) | (rw [if_neg (fun z => absurd z.2 (by rw [h22]; decide))]; done)); rw [e]; simp only [rnS]; first | (rw [if_pos (by omega)]; done) | (rw [if_neg (by omega)]; done))
    · refine A_lload_n dX9_readNumber_25 rfl 1 rfl ?_
      refine A_ldc2 kc_X9_83 dX9_readNumber_26 ?_
      refine A_lmul dX9_readNumber_29 ?_
      refine A_aload_n dX9_readNumber_30 rfl 3 rfl ?_
      refine A_iload dX9_readNumber_31 0 rfl ?_
      refine A_Va1 mv_X9_57 lk_1 rfl rfl (c_X8_byteAt _ _) (Nat.le_of_ble_eq_true rfl) (by omega) (by omega) dX9_readNumber_33 ?_
      refine J_i2l dX9_readNumber_36 (by first | exact i32_eq (by assumption) | exact i32_eq ⟨by omega, by omega⟩ | with_reducible exact i32_i32 _ | with_reducible exact i32_eq (b2i_inr _) | rfl) ?_
      refine A_ladd dX9_readNumber_37 ?_
      refine A_ldc2 kc_X9_85 dX9_readNumber_38 ?_
      refine A_lsub dX9_readNumber_41 ?_
      refine A_lstore_n (lv2 := [(3, _), (5, _), (0, _), (1, _), (2, _)]) dX9_readNumber_42 rfl (by decide) rfl ?_
      refine A_iinc (lv2 := [(5, _), (3, _), (0, _), (1, _), (2, _)]) dX9_readNumber_43 1 rfl (by decide) rfl ?_
      refine A_goto (tgt := 5) dX9_readNumber_46 (by decide) ?_
      refine A_lv [0, 1, 2, 3, 4] rfl ?_
      exact ih (n - 1) (by omega) (i + 1) _ r σ1 (by omega) (by omega) (by rw [hr]; clear ih; obtain ⟨n, rfl⟩ : ∃ q, n = q + 1 := ⟨n - 1, by omega⟩; simp only [rnF, Nat.add_sub_cancel]; rw [if_pos ⟨by omega, h22⟩]) (by rw [hs]; clear ih; obtain ⟨n, rfl⟩ : ∃ q, n = q + 1 := ⟨n - 1, by omega⟩; simp only [rnF, Nat.add_sub_cancel]; rw [if_pos ⟨by omega, h22⟩])
set_option maxRecDepth 100000 in
set_option maxHeartbeats 4000000 in
theorem c_X9_readNumber (σ : Sg) (p : Int) (hp : 0 ≤ p ∧ p < 1500) : Ct l G yX9_readNumber cX9_readNumber 6 (some .int) 2 0 0 [.ref (lay G 3), .ref (lay G 1), .int (I32 p)] σ (some (.int (I32 (rnC σ p).1))) (rnS σ p (rnC σ p)) := by
  refine Ct.of (by decide +kernel) (Nat.le_of_ble_eq_true rfl) (fun f => ?_)
  show AW _ _ _ _ _ _ _ _ _ _ [(0, _), (1, _), (2, _)] _ _
  refine A_lconst (w := 0) dX9_readNumber_0 rfl ?_
  refine A_lstore_n (lv2 := [(3, _), (0, _), (1, _), (2, _)]) dX9_readNumber_1 rfl (by decide) rfl ?_
  refine A_iload_n dX9_readNumber_2 rfl 3 rfl ?_
  refine A_istore (lv2 := [(5, _), (3, _), (0, _), (1, _), (2, _)]) dX9_readNumber_3 (by decide) rfl ?_
  refine A_lv [0, 1, 2, 3, 4] rfl ?_
  exact w_X9_readNumber σ p hp (1500 - p).toNat p 0 _ _ (by omega) (by omega) rfl rfl
def dg1 (σ : Sg) (fact : Sg → Int → Int → Int) (i w a : Int) : Int := a * 31 + i32 (fact σ i w)
def dg2 (σ : Sg) (fact : Sg → Int → Int → Int) (m : Nat) (i a : Int) : Int := fW m (dg1 σ fact i) m 0 a
def dgc (σ : Sg) (i a : Int) : Int := (a * 31 + i32 (σ 32 i.toNat)) * 31 + i32 (σ 33 i.toNat)
def paC (σ : Sg) (a : Int) : Int := fW (i32 (σ 18 4)) (dg2 σ rFact 4) (i32 (σ 18 4)).toNat 0 (fW (min (i32 (σ 9 16)) 8) (dgc σ) 8 0 (fW (i32 (σ 12 2)) (dg2 σ dFact 5) (i32 (σ 12 2)).toNat 0 (fW (i32 (σ 10 2)) (dg2 σ fFact 3) (i32 (σ 10 2)).toNat 0 a)))
set_option maxRecDepth 100000 in
set_option maxHeartbeats 4000000 in
theorem w_X6_ad20 {f : Fm} {Q : State → Prop} {xs : va_W} {kk nn rc rs : Nat} (σ : Sg) (x : Int) (hm : kk ≤ rc ∧ nn ≤ rs) : ∀ (n : Nat) (i : Int) (s : Int), 0 ≤ i → inr i → i + n = 3 → AW l G f (RX6, cX6_addTo, 7, (some .long)) (2, rc, rs) Q xs kk nn 48 [(3, .long (I64 (fW (3) (dg1 σ fFact x) n i s))), (0, .ref (lay G 9)), (5, .int (I32 x))] [] (σ) → AW l G f (RX6, cX6_addTo, 7, (some .long)) (2, rc, rs) Q xs kk nn 20 [(6, .int (I32 i)), (3, .long (I64 s)), (0, .ref (lay G 9)), (5, .int (I32 x))] [] (σ) := by
  intro n
  induction n using Nat.strongRecOn with | _ n ih =>
  intro i s h0 hii hn  hK
  obtain ⟨hi1, hi2⟩ := hii
  refine A_iload dX6_addTo_20 0 rfl ?_
  refine A_iconst dX6_addTo_22 ?_
  refine J_icmp_ge (tgt := 48) dX6_addTo_23 (by decide) (by first | exact i32_eq (by assumption) | exact i32_eq ⟨by omega, by omega⟩ | with_reducible exact i32_i32 _ | with_reducible exact i32_eq (b2i_inr _) | rfl) (by first | exact i32_eq (by assumption) | exact i32_eq ⟨by omega, by omega⟩ | with_reducible exact i32_i32 _ | with_reducible exact i32_eq (b2i_inr _) | rfl) (fun h23 => ?_) (fun h23 => ?_)
  · refine A_lv [1, 2, 3] rfl ?_
    clear ih
    rcases n with _ | n <;> simp only [fW] at hK <;> (repeat' split at hK) <;> first | contradiction | (exfalso; omega) | exact hK | (simp_all; done)
  · refine A_lload_n dX6_addTo_26 rfl 1 rfl ?_
    refine A_ldc2 kc_X6_91 dX6_addTo_27 ?_
    refine A_lmul dX6_addTo_30 ?_
    refine A_aload_n dX6_addTo_31 rfl 2 rfl ?_
    refine A_iload dX6_addTo_32 3 rfl ?_
    refine A_iload dX6_addTo_34 0 rfl ?_
    refine A_Va2 mv_X6_93 lk_9 rfl rfl (c_X6_foodFact _ _ _) (Nat.le_of_ble_eq_true rfl) (by omega) (by omega) dX6_addTo_36 ?_
    refine J_i2l dX6_addTo_39 (by first | exact i32_eq (by assumption) | exact i32_eq ⟨by omega, by omega⟩ | with_reducible exact i32_i32 _ | with_reducible exact i32_eq (b2i_inr _) | rfl) ?_
    refine A_ladd dX6_addTo_40 ?_
    refine A_lstore_n (lv2 := [(3, _), (6, _), (0, _), (5, _)]) dX6_addTo_41 rfl (by decide) rfl ?_
    refine A_iinc (lv2 := [(6, _), (3, _), (0, _), (5, _)]) dX6_addTo_42 1 rfl (by decide) rfl ?_
    refine A_goto (tgt := 20) dX6_addTo_45 (by decide) ?_
    refine A_lv [0, 1, 2, 3] rfl ?_
    refine ih (n - 1) (by omega) (i + 1) _ (by omega) ⟨by omega, by omega⟩ (by omega) ?_
    obtain ⟨n, rfl⟩ : ∃ q, n = q + 1 := ⟨n - 1, by omega⟩
    clear ih
    rw [fW_s] at hK
    simp only [Nat.add_sub_cancel]
    simp only [dg1] at hK
    (repeat' split at hK) <;> first | contradiction | (exfalso; omega) | exact hK | (simp_all; done)
set_option maxRecDepth 100000 in
set_option maxHeartbeats 4000000 in
theorem w_X6_ad5 {f : Fm} {Q : State → Prop} {xs : va_W} {kk nn rc rs : Nat} (σ : Sg) (hm : kk ≤ rc ∧ nn ≤ rs) : ∀ (n : Nat) (i : Int) (s : Int), 0 ≤ i → inr i → i32 (σ 10 2) ≤ i + n → AW l G f (RX6, cX6_addTo, 7, (some .long)) (2, rc, rs) Q xs kk nn 54 [(3, .long (I64 (fW (i32 (σ 10 2)) (dg2 σ fFact 3) n i s))), (0, .ref (lay G 9))] [] (σ) → AW l G f (RX6, cX6_addTo, 7, (some .long)) (2, rc, rs) Q xs kk nn 5 [(5, .int (I32 i)), (3, .long (I64 s)), (0, .ref (lay G 9))] [] (σ) := by
  intro n
  induction n using Nat.strongRecOn with | _ n ih =>
  intro i s h0 hii hn  hK
  obtain ⟨hi1, hi2⟩ := hii
  obtain ⟨hz1, hz2⟩ := i32_inr (σ 10 2)
  refine A_iload dX6_addTo_5 0 rfl ?_
  refine A_aload_n dX6_addTo_7 rfl 2 rfl ?_
  refine A_getr fl_X6_14 lk_9 rfl dX6_addTo_8 ?_
  refine A_geti fl_X6_72 lk_10 rfl dX6_addTo_11 ?_
  refine J_icmp_ge (tgt := 54) dX6_addTo_14 (by decide) (by first | exact i32_eq (by assumption) | exact i32_eq ⟨by omega, by omega⟩ | with_reducible exact i32_i32 _ | with_reducible exact i32_eq (b2i_inr _) | rfl) (by first | exact i32_eq (by assumption) | exact i32_eq ⟨by omega, by omega⟩ | with_reducible exact i32_i32 _ | with_reducible exact i32_eq (b2i_inr _) | rfl) (fun h14 => ?_) (fun h14 => ?_)
  · refine A_lv [1, 2] rfl ?_
    clear ih
    rcases n with _ | n <;> simp only [fW] at hK <;> (repeat' split at hK) <;> first | contradiction | (exfalso; omega) | exact hK | (simp_all; done)
  · refine A_iconst dX6_addTo_17 ?_
    refine A_istore (lv2 := [(6, _), (5, _), (3, _), (0, _)]) dX6_addTo_18 (by decide) rfl ?_
    refine A_lv [0, 2, 3, 1] rfl ?_
    refine w_X6_ad20 σ i hm 3 0 _ (by omega) ⟨by omega, by omega⟩ (by omega) ?_
    refine A_iinc (lv2 := [(5, _), (3, _), (0, _)]) dX6_addTo_48 2 rfl (by decide) rfl ?_
    refine A_goto (tgt := 5) dX6_addTo_51 (by decide) ?_
    refine ih (n - 1) (by omega) (i + 1) _ (by omega) ⟨by omega, by omega⟩ (by omega) ?_
    obtain ⟨n, rfl⟩ : ∃ q, n = q + 1 := ⟨n - 1, by omega⟩
    clear ih
    rw [fW_s] at hK
    simp only [Nat.add_sub_cancel]
    rw [if_pos (by omega)] at hK
    exact hK
set_option maxRecDepth 100000 in
set_option maxHeartbeats 4000000 in
theorem w_X6_ad72 {f : Fm} {Q : State → Prop} {xs : va_W} {kk nn rc rs : Nat} (σ : Sg) (x : Int) (hm : kk ≤ rc ∧ nn ≤ rs) : ∀ (n : Nat) (i : Int) (s : Int), 0 ≤ i → inr i → i + n = 5 → AW l G f (RX6, cX6_addTo, 7, (some .long)) (2, rc, rs) Q xs kk nn 100 [(3, .long (I64 (fW (5) (dg1 σ dFact x) n i s))), (0, .ref (lay G 9)), (5, .int (I32 x))] [] (σ) → AW l G f (RX6, cX6_addTo, 7, (some .long)) (2, rc, rs) Q xs kk nn 72 [(6, .int (I32 i)), (3, .long (I64 s)), (0, .ref (lay G 9)), (5, .int (I32 x))] [] (σ) := by
  intro n
  induction n using Nat.strongRecOn with | _ n ih =>
  intro i s h0 hii hn  hK
  obtain ⟨hi1, hi2⟩ := hii
  refine A_iload dX6_addTo_72 0 rfl ?_
  refine A_iconst dX6_addTo_74 ?_
  refine J_icmp_ge (tgt := 100) dX6_addTo_75 (by decide) (by first | exact i32_eq (by assumption) | exact i32_eq ⟨by omega, by omega⟩ | with_reducible exact i32_i32 _ | with_reducible exact i32_eq (b2i_inr _) | rfl) (by first | exact i32_eq (by assumption) | exact i32_eq ⟨by omega, by omega⟩ | with_reducible exact i32_i32 _ | with_reducible exact i32_eq (b2i_inr _) | rfl) (fun h75 => ?_) (fun h75 => ?_)
  · refine A_lv [1, 2, 3] rfl ?_
    clear ih
    rcases n with _ | n <;> simp only [fW] at hK <;> (repeat' split at hK) <;> first | contradiction | (exfalso; omega) | exact hK | (simp_all; done)
  · refine A_lload_n dX6_addTo_78 rfl 1 rfl ?_
    refine A_ldc2 kc_X6_91 dX6_addTo_79 ?_
    refine A_lmul dX6_addTo_82 ?_
    refine A_aload_n dX6_addTo_83 rfl 2 rfl ?_
    refine A_iload dX6_addTo_84 3 rfl ?_
    refine A_iload dX6_addTo_86 0 rfl ?_
    refine A_Va2 mv_X6_97 lk_9 rfl rfl (c_X6_dishFact _ _ _) (Nat.le_of_ble_eq_true rfl) (by omega) (by omega) dX6_addTo_88 ?_
    refine J_i2l dX6_addTo_91 (by first | exact i32_eq (by assumption) | exact i32_eq ⟨by omega, by omega⟩ | with_reducible exact i32_i32 _ | with_reducible exact i32_eq (b2i_inr _) | rfl) ?_
    refine A_ladd dX6_addTo_92 ?_
    refine A_lstore_n (lv2 := [(3, _), (6, _), (0, _), (5, _)]) dX6_addTo_93 rfl (by decide) rfl ?_
    refine A_iinc (lv2 := [(6, _), (3, _), (0, _), (5, _)]) dX6_addTo_94 1 rfl (by decide) rfl ?_
    refine A_goto (tgt := 72) dX6_addTo_97 (by decide) ?_
    refine A_lv [0, 1, 2, 3] rfl ?_
    refine ih (n - 1) (by omega) (i + 1) _ (by omega) ⟨by omega, by omega⟩ (by omega) ?_
    obtain ⟨n, rfl⟩ : ∃ q, n = q + 1 := ⟨n - 1, by omega⟩
    clear ih
    rw [fW_s] at hK
    simp only [Nat.add_sub_cancel]
    simp only [dg1] at hK
    (repeat' split at hK) <;> first | contradiction | (exfalso; omega) | exact hK | (simp_all; done)
set_option maxRecDepth 100000 in
set_option maxHeartbeats 4000000 in
theorem w_X6_ad57 {f : Fm} {Q : State → Prop} {xs : va_W} {kk nn rc rs : Nat} (σ : Sg) (hm : kk ≤ rc ∧ nn ≤ rs) : ∀ (n : Nat) (i : Int) (s : Int), 0 ≤ i → inr i → i32 (σ 12 2) ≤ i + n → AW l G f (RX6, cX6_addTo, 7, (some .long)) (2, rc, rs) Q xs kk nn 106 [(3, .long (I64 (fW (i32 (σ 12 2)) (dg2 σ dFact 5) n i s))), (0, .ref (lay G 9))] [] (σ) → AW l G f (RX6, cX6_addTo, 7, (some .long)) (2, rc, rs) Q xs kk nn 57 [(5, .int (I32 i)), (3, .long (I64 s)), (0, .ref (lay G 9))] [] (σ) := by
  intro n
  induction n using Nat.strongRecOn with | _ n ih =>
  intro i s h0 hii hn  hK
  obtain ⟨hi1, hi2⟩ := hii
  obtain ⟨hz1, hz2⟩ := i32_inr (σ 12 2)
  refine A_iload dX6_addTo_57 0 rfl ?_
  refine A_aload_n dX6_addTo_59 rfl 2 rfl ?_
  refine A_getr fl_X6_20 lk_9 rfl dX6_addTo_60 ?_
  refine A_geti fl_X6_72 lk_12 rfl dX6_addTo_63 ?_
  refine J_icmp_ge (tgt := 106) dX6_addTo_66 (by decide) (by first | exact i32_eq (by assumption) | exact i32_eq ⟨by omega, by omega⟩ | with_reducible exact i32_i32 _ | with_reducible exact i32_eq (b2i_inr _) | rfl) (by first | exact i32_eq (by assumption) | exact i32_eq ⟨by omega, by omega⟩ | with_reducible exact i32_i32 _ | with_reducible exact i32_eq (b2i_inr _) | rfl) (fun h66 => ?_) (fun h66 => ?_)
  · refine A_lv [1, 2] rfl ?_
    clear ih
    rcases n with _ | n <;> simp only [fW] at hK <;> (repeat' split at hK) <;> first | contradiction | (exfalso; omega) | exact hK | (simp_all; done)
  · refine A_iconst dX6_addTo_69 ?_
    refine A_istore (lv2 := [(6, _), (5, _), (3, _), (0, _)]) dX6_addTo_70 (by decide) rfl ?_
    refine A_lv [0, 2, 3, 1] rfl ?_
    refine w_X6_ad72 σ i hm 5 0 _ (by omega) ⟨by omega, by omega⟩ (by omega) ?_
    refine A_iinc (lv2 := [(5, _), (3, _), (0, _)]) dX6_addTo_100 2 rfl (by decide) rfl ?_
    refine A_goto (tgt := 57) dX6_addTo_103 (by decide) ?_
    refine ih (n - 1) (by omega) (i + 1) _ (by omega) ⟨by omega, by omega⟩ (by omega) ?_
    obtain ⟨n, rfl⟩ : ∃ q, n = q + 1 := ⟨n - 1, by omega⟩
    clear ih
    rw [fW_s] at hK
    simp only [Nat.add_sub_cancel]
    rw [if_pos (by omega)] at hK
    exact hK
set_option maxRecDepth 100000 in
set_option maxHeartbeats 4000000 in
theorem w_X6_ad109 {f : Fm} {Q : State → Prop} {xs : va_W} {kk nn rc rs : Nat} (σ : Sg) (hm : kk ≤ rc ∧ nn ≤ rs) : ∀ (n : Nat) (i : Int) (s : Int), 0 ≤ i → inr i → i + n = 8 → AW l G f (RX6, cX6_addTo, 7, (some .long)) (2, rc, rs) Q xs kk nn 161 [(3, .long (I64 (fW (min (i32 (σ 9 16)) 8) (dgc σ) n i s))), (0, .ref (lay G 9))] [] (σ) → AW l G f (RX6, cX6_addTo, 7, (some .long)) (2, rc, rs) Q xs kk nn 109 [(5, .int (I32 i)), (3, .long (I64 s)), (0, .ref (lay G 9))] [] (σ) := by
  intro n
  induction n using Nat.strongRecOn with | _ n ih =>
  intro i s h0 hii hn  hK
  obtain ⟨hi1, hi2⟩ := hii
  refine A_iload dX6_addTo_109 0 rfl ?_
  refine A_aload_n dX6_addTo_111 rfl 2 rfl ?_
  refine A_geti fl_X6_77 lk_9 rfl dX6_addTo_112 ?_
  refine J_icmp_ge (tgt := 161) dX6_addTo_115 (by decide) (by first | exact i32_eq (by assumption) | exact i32_eq ⟨by omega, by omega⟩ | with_reducible exact i32_i32 _ | with_reducible exact i32_eq (b2i_inr _) | rfl) (by first | exact i32_eq (by assumption) | exact i32_eq ⟨by omega, by omega⟩ | with_reducible exact i32_i32 _ | with_reducible exact i32_eq (b2i_inr _) | rfl) (fun h115 => ?_) (fun h115 => ?_)
  · refine A_lv [1, 2] rfl ?_
    clear ih
    rcases n with _ | n <;> simp only [fW] at hK <;> (repeat' split at hK) <;> first | contradiction | (exfalso; omega) | exact hK | (simp_all; done)
  · refine A_iload dX6_addTo_118 0 rfl ?_
    refine A_bipush dX6_addTo_120 (by decide +kernel) ?_
    refine J_icmp_ge (tgt := 161) dX6_addTo_122 (by decide) (by first | exact i32_eq (by assumption) | exact i32_eq ⟨by omega, by omega⟩ | with_reducible exact i32_i32 _ | with_reducible exact i32_eq (b2i_inr _) | rfl) (by first | exact i32_eq (by assumption) | exact i32_eq ⟨by omega, by omega⟩ | with_reducible exact i32_i32 _ | with_reducible exact i32_eq (b2i_inr _) | rfl) (fun h122 => ?_) (fun h122 => ?_)
    · refine A_lv [1, 2] rfl ?_
      clear ih
      rcases n with _ | n <;> simp only [fW] at hK <;> (repeat' split at hK) <;> first | contradiction | (exfalso; omega) | exact hK | (simp_all; done)
    · refine A_lload_n dX6_addTo_125 rfl 1 rfl ?_
      refine A_ldc2 kc_X6_91 dX6_addTo_126 ?_
      refine A_lmul dX6_addTo_129 ?_
      refine A_aload_n dX6_addTo_130 rfl 2 rfl ?_
      refine A_getr fl_X6_66 lk_9 rfl dX6_addTo_131 ?_
      refine A_iload dX6_addTo_134 0 rfl ?_
      refine J_iald lk_32 (by first | exact i32_eq (by assumption) | exact i32_eq ⟨by omega, by omega⟩ | with_reducible exact i32_i32 _ | with_reducible exact i32_eq (b2i_inr _) | rfl) (by omega) (by omega) (by decide) dX6_addTo_136 ?_
      refine J_i2l dX6_addTo_137 (by first | exact i32_eq (by assumption) | exact i32_eq ⟨by omega, by omega⟩ | with_reducible exact i32_i32 _ | with_reducible exact i32_eq (b2i_inr _) | rfl) ?_
      refine A_ladd dX6_addTo_138 ?_
      refine A_lstore_n (lv2 := [(3, _), (5, _), (0, _)]) dX6_addTo_139 rfl (by decide) rfl ?_
      refine A_lload_n dX6_addTo_140 rfl 0 rfl ?_
      refine A_ldc2 kc_X6_91 dX6_addTo_141 ?_
      refine A_lmul dX6_addTo_144 ?_
      refine A_aload_n dX6_addTo_145 rfl 2 rfl ?_
      refine A_getr fl_X6_69 lk_9 rfl dX6_addTo_146 ?_
      refine A_iload dX6_addTo_149 1 rfl ?_
      refine J_iald lk_33 (by first | exact i32_eq (by assumption) | exact i32_eq ⟨by omega, by omega⟩ | with_reducible exact i32_i32 _ | with_reducible exact i32_eq (b2i_inr _) | rfl) (by omega) (by omega) (by decide) dX6_addTo_151 ?_
      refine J_i2l dX6_addTo_152 (by first | exact i32_eq (by assumption) | exact i32_eq ⟨by omega, by omega⟩ | with_reducible exact i32_i32 _ | with_reducible exact i32_eq (b2i_inr _) | rfl) ?_
      refine A_ladd dX6_addTo_153 ?_
      refine A_lstore_n (lv2 := [(3, _), (5, _), (0, _)]) dX6_addTo_154 rfl (by decide) rfl ?_
      refine A_iinc (lv2 := [(5, _), (3, _), (0, _)]) dX6_addTo_155 1 rfl (by decide) rfl ?_
      refine A_goto (tgt := 109) dX6_addTo_158 (by decide) ?_
      refine A_lv [0, 1, 2] rfl ?_
      refine ih (n - 1) (by omega) (i + 1) _ (by omega) ⟨by omega, by omega⟩ (by omega) ?_
      obtain ⟨n, rfl⟩ : ∃ q, n = q + 1 := ⟨n - 1, by omega⟩
      clear ih
      rw [fW_s] at hK
      simp only [Nat.add_sub_cancel]
      simp only [dgc] at hK
      (repeat' split at hK) <;> first | contradiction | (exfalso; omega) | exact hK | (simp_all; done)
set_option maxRecDepth 100000 in
set_option maxHeartbeats 4000000 in
theorem w_X6_ad179 {f : Fm} {Q : State → Prop} {xs : va_W} {kk nn rc rs : Nat} (σ : Sg) (x : Int) (hm : kk ≤ rc ∧ nn ≤ rs) : ∀ (n : Nat) (i : Int) (s : Int), 0 ≤ i → inr i → i + n = 4 → AW l G f (RX6, cX6_addTo, 7, (some .long)) (2, rc, rs) Q xs kk nn 210 [(3, .long (I64 (fW (4) (dg1 σ rFact x) n i s))), (0, .ref (lay G 9)), (5, .int (I32 x))] [] (σ) → AW l G f (RX6, cX6_addTo, 7, (some .long)) (2, rc, rs) Q xs kk nn 179 [(6, .int (I32 i)), (3, .long (I64 s)), (0, .ref (lay G 9)), (5, .int (I32 x))] [] (σ) := by
  intro n
  induction n using Nat.strongRecOn with | _ n ih =>
  intro i s h0 hii hn  hK
  obtain ⟨hi1, hi2⟩ := hii
  refine A_iload dX6_addTo_179 0 rfl ?_
  refine A_iconst dX6_addTo_181 ?_
  refine J_icmp_ge (tgt := 210) dX6_addTo_182 (by decide) (by first | exact i32_eq (by assumption) | exact i32_eq ⟨by omega, by omega⟩ | with_reducible exact i32_i32 _ | with_reducible exact i32_eq (b2i_inr _) | rfl) (by first | exact i32_eq (by assumption) | exact i32_eq ⟨by omega, by omega⟩ | with_reducible exact i32_i32 _ | with_reducible exact i32_eq (b2i_inr _) | rfl) (fun h182 => ?_) (fun h182 => ?_)
  · refine A_lv [1, 2, 3] rfl ?_
    clear ih
    rcases n with _ | n <;> simp only [fW] at hK <;> (repeat' split at hK) <;> first | contradiction | (exfalso; omega) | exact hK | (simp_all; done)
  · refine A_lload_n dX6_addTo_185 rfl 1 rfl ?_
    refine A_ldc2 kc_X6_91 dX6_addTo_186 ?_
    refine A_lmul dX6_addTo_189 ?_
    refine A_aload_n dX6_addTo_190 rfl 2 rfl ?_
    refine A_getr fl_X6_32 lk_9 rfl dX6_addTo_191 ?_
    refine A_iload dX6_addTo_194 3 rfl ?_
    refine A_iload dX6_addTo_196 0 rfl ?_
    refine A_Va2 mv_X6_100 lk_18 rfl rfl (c_X7_fact _ _ _) (Nat.le_of_ble_eq_true rfl) (by omega) (by omega) dX6_addTo_198 ?_
    refine J_i2l dX6_addTo_201 (by first | exact i32_eq (by assumption) | exact i32_eq ⟨by omega, by omega⟩ | with_reducible exact i32_i32 _ | with_reducible exact i32_eq (b2i_inr _) | rfl) ?_
    refine A_ladd dX6_addTo_202 ?_
    refine A_lstore_n (lv2 := [(3, _), (6, _), (0, _), (5, _)]) dX6_addTo_203 rfl (by decide) rfl ?_
    refine A_iinc (lv2 := [(6, _), (3, _), (0, _), (5, _)]) dX6_addTo_204 1 rfl (by decide) rfl ?_
    refine A_goto (tgt := 179) dX6_addTo_207 (by decide) ?_
    refine A_lv [0, 1, 2, 3] rfl ?_
    refine ih (n - 1) (by omega) (i + 1) _ (by omega) ⟨by omega, by omega⟩ (by omega) ?_
    obtain ⟨n, rfl⟩ : ∃ q, n = q + 1 := ⟨n - 1, by omega⟩
    clear ih
    rw [fW_s] at hK
    simp only [Nat.add_sub_cancel]
    simp only [dg1] at hK
    (repeat' split at hK) <;> first | contradiction | (exfalso; omega) | exact hK | (simp_all; done)
set_option maxRecDepth 100000 in
set_option maxHeartbeats 4000000 in
theorem w_X6_ad164 {f : Fm} {Q : State → Prop} {xs : va_W} {kk nn rc rs : Nat} (σ : Sg) (hm : kk ≤ rc ∧ nn ≤ rs) : ∀ (n : Nat) (i : Int) (s : Int), 0 ≤ i → inr i → i32 (σ 18 4) ≤ i + n → AW l G f (RX6, cX6_addTo, 7, (some .long)) (2, rc, rs) Q xs kk nn 216 [(3, .long (I64 (fW (i32 (σ 18 4)) (dg2 σ rFact 4) n i s))), (0, .ref (lay G 9))] [] (σ) → AW l G f (RX6, cX6_addTo, 7, (some .long)) (2, rc, rs) Q xs kk nn 164 [(5, .int (I32 i)), (3, .long (I64 s)), (0, .ref (lay G 9))] [] (σ) := by
  intro n
  induction n using Nat.strongRecOn with | _ n ih =>
  intro i s h0 hii hn  hK
  obtain ⟨hi1, hi2⟩ := hii
  obtain ⟨hz1, hz2⟩ := i32_inr (σ 18 4)
  refine A_iload dX6_addTo_164 0 rfl ?_
  refine A_aload_n dX6_addTo_166 rfl 2 rfl ?_
  refine A_getr fl_X6_32 lk_9 rfl dX6_addTo_167 ?_
  refine A_geti fl_X6_76 lk_18 rfl dX6_addTo_170 ?_
  refine J_icmp_ge (tgt := 216) dX6_addTo_173 (by decide) (by first | exact i32_eq (by assumption) | exact i32_eq ⟨by omega, by omega⟩ | with_reducible exact i32_i32 _ | with_reducible exact i32_eq (b2i_inr _) | rfl) (by first | exact i32_eq (by assumption) | exact i32_eq ⟨by omega, by omega⟩ | with_reducible exact i32_i32 _ | with_reducible exact i32_eq (b2i_inr _) | rfl) (fun h173 => ?_) (fun h173 => ?_)
  · refine A_lv [1, 2] rfl ?_
    clear ih
    rcases n with _ | n <;> simp only [fW] at hK <;> (repeat' split at hK) <;> first | contradiction | (exfalso; omega) | exact hK | (simp_all; done)
  · refine A_iconst dX6_addTo_176 ?_
    refine A_istore (lv2 := [(6, _), (5, _), (3, _), (0, _)]) dX6_addTo_177 (by decide) rfl ?_
    refine A_lv [0, 2, 3, 1] rfl ?_
    refine w_X6_ad179 σ i hm 4 0 _ (by omega) ⟨by omega, by omega⟩ (by omega) ?_
    refine A_iinc (lv2 := [(5, _), (3, _), (0, _)]) dX6_addTo_210 2 rfl (by decide) rfl ?_
    refine A_goto (tgt := 164) dX6_addTo_213 (by decide) ?_
    refine ih (n - 1) (by omega) (i + 1) _ (by omega) ⟨by omega, by omega⟩ (by omega) ?_
    obtain ⟨n, rfl⟩ : ∃ q, n = q + 1 := ⟨n - 1, by omega⟩
    clear ih
    rw [fW_s] at hK
    simp only [Nat.add_sub_cancel]
    rw [if_pos (by omega)] at hK
    exact hK
set_option maxRecDepth 100000 in
set_option maxHeartbeats 4000000 in
theorem c_X6_addTo (σ : Sg) (a : Int)  : Ct l G yX6_addTo cX6_addTo 7 (some .long) 2 0 0 [.ref (lay G 9), .long (I64 a)] σ (some (.long (I64 (paC σ a)))) (σ) := by
  refine Ct.of (by decide +kernel) (Nat.le_of_ble_eq_true rfl) (fun f => ?_)
  show AW _ _ _ _ _ _ _ _ _ _ [(0, _), (1, _)] _ _
  refine A_lload_n dX6_addTo_0 rfl 1 rfl ?_
  refine A_lstore_n (lv2 := [(3, _), (0, _), (1, _)]) dX6_addTo_1 rfl (by decide) rfl ?_
  refine A_iconst dX6_addTo_2 ?_
  refine A_istore (lv2 := [(5, _), (3, _), (0, _), (1, _)]) dX6_addTo_3 (by decide) rfl ?_
  refine A_lv [0, 1, 2] rfl ?_
  refine w_X6_ad5 σ (by omega) (i32 (σ 10 2)).toNat 0 _ (by omega) ⟨by omega, by omega⟩ (by omega) ?_
  refine A_iconst dX6_addTo_54 ?_
  refine A_istore (lv2 := [(5, _), (3, _), (0, _)]) dX6_addTo_55 (by decide) rfl ?_
  refine A_lv [0, 1, 2] rfl ?_
  refine w_X6_ad57 σ (by omega) (i32 (σ 12 2)).toNat 0 _ (by omega) ⟨by omega, by omega⟩ (by omega) ?_
  refine A_iconst dX6_addTo_106 ?_
  refine A_istore (lv2 := [(5, _), (3, _), (0, _)]) dX6_addTo_107 (by decide) rfl ?_
  refine A_lv [0, 1, 2] rfl ?_
  refine w_X6_ad109 σ (by omega) 8 0 _ (by omega) ⟨by omega, by omega⟩ (by omega) ?_
  refine A_iconst dX6_addTo_161 ?_
  refine A_istore (lv2 := [(5, _), (3, _), (0, _)]) dX6_addTo_162 (by decide) rfl ?_
  refine A_lv [0, 1, 2] rfl ?_
  refine w_X6_ad164 σ (by omega) (i32 (σ 18 4)).toNat 0 _ (by omega) ⟨by omega, by omega⟩ (by omega) ?_
  refine A_lload_n dX6_addTo_216 rfl 0 rfl ?_
  exact A_lret dX6_addTo_217 (by rfl) (by rfl)
end S22
