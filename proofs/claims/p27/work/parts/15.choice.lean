/-! ChoiceReader -/
section S15
variable {l : Launch} {G : Gx}
def insC (σ : Sg) (t : Int) : Bool := decide ((KC σ t = 22 ∧ (¬ idxC σ 12 (VC σ t) = -1 ∨ ¬ idxC σ 16 (VC σ t) = -1)) ∨ KC σ t = 13 ∨ KC σ t = 14 ∨ KC σ t = 15 ∨ KC σ t = 20 ∨ KC σ t = 21)
def eouF (σ : Sg) : Nat → Int → Int
  | 0, t => t
  | n + 1, t => if insC σ t = true then eouF σ n (t + 1) else t
def eouC (σ : Sg) (t : Int) : Int := eouF σ 30 t
def dnC (σ : Sg) (v : Int) : Int := if ¬ idxC σ 12 v = -1 ∧ idxC σ 12 v < i32 (σ 50 3) then ishl 1 (idxC σ 12 v) else dwtC σ (idxC σ 16 v)
def stE (σ : Sg) (a : Int) : Sg := up σ 50 2 a
theorem idxF_fr {σ τ : Sg} {k : Nat} (h2 : τ k 2 = σ k 2) (h : ∀ j, τ (k + 1) j = σ (k + 1) j) (v : Int) : ∀ (n : Nat) (i : Int), idxF τ k v n i = idxF σ k v n i := by
  intro n
  induction n with
  | zero => intro i; rfl
  | succ n ih => intro i; simp only [idxF, h2, h, ih]
theorem fW_ext {α : Type} {sz : Int} {g h : Int → α → α} (e : ∀ i a, g i a = h i a) : ∀ (n : Nat) (i : Int) (a : α), fW sz g n i a = fW sz h n i a := by
  intro n
  induction n with
  | zero => intro i a; rfl
  | succ n ih => intro i a; simp only [fW, e, ih]
theorem dwtC_fr {σ τ : Sg} (h2 : τ 12 2 = σ 12 2) (h : ∀ j, τ 29 j = σ 29 j) (t : Int) : dwtC τ t = dwtC σ t := by
  simp only [dwtC, h2]
  exact fW_ext (fun i a => by simp only [dwtG, h]) _ _ _
theorem KC_stE (σ : Sg) (a : Int) : KC (stE σ a) = KC σ := rfl
theorem VC_stE (σ : Sg) (a : Int) : VC (stE σ a) = VC σ := rfl
theorem stE_1 (σ : Sg) (a : Int) : stE σ a 50 2 = a := rfl
theorem stE_3 (σ : Sg) (a : Int) : stE σ a 50 3 = σ 50 3 := rfl
theorem stE_12 (σ : Sg) (a : Int) : stE σ a 12 2 = σ 12 2 := rfl
theorem stE_u (σ : Sg) (a b : Int) : up (stE σ a) 50 2 b = stE σ b := up_up σ 50 2 a b
theorem dnC_stE (σ : Sg) (a v : Int) : dnC (stE σ a) v = dnC σ v := by
  have e1 : idxC (stE σ a) 12 v = idxC σ 12 v := idxF_fr (σ := σ) (τ := stE σ a) (k := 12) rfl (fun _ => rfl) v 16 0
  have e2 : idxC (stE σ a) 16 v = idxC σ 16 v := idxF_fr (σ := σ) (τ := stE σ a) (k := 16) rfl (fun _ => rfl) v 16 0
  unfold dnC
  rw [e1, e2, dwtC_fr (σ := σ) (τ := stE σ a) rfl (fun _ => rfl), stE_3]
/-- behind the first of an expression: 'or' begins a new one of both, 'and' goes on -/
def evJ (K : Int → Int) (one : Int → Int × Int) : Nat → Int × Int × Int → Int × Int × Int
  | 0, q => q
  | n + 1, q => if K q.2.2 = 14 ∨ K q.2.2 = 13 then (if K q.2.2 = 14 then evJ K one n (ior q.1 q.2.1, (one (q.2.2 + 1)).1, (one (q.2.2 + 1)).2) else evJ K one n (q.1, iand q.2.1 (one (q.2.2 + 1)).1, (one (q.2.2 + 1)).2)) else q
def evE (K : Int → Int) (one : Int → Int × Int) (a : Int) : Int × Int := (ior (evJ K one 30 (0, (one a).1, (one a).2)).1 (evJ K one 30 (0, (one a).1, (one a).2)).2.1, (evJ K one 30 (0, (one a).1, (one a).2)).2.2)
def evO (σ : Sg) : Nat → Int → Int × Int
  | 0, a => if KC σ a = 22 then (dnC σ (VC σ a), a + 1) else (0, a + 1)
  | m + 1, a => if KC σ a = 22 then (dnC σ (VC σ a), a + 1) else if KC σ a = 15 then (iand (ishl 1 (σ 12 2) - 1) (ixor (evO σ m (a + 1)).1 (-1)), (evO σ m (a + 1)).2) else ((evE (KC σ) (evO σ m) (a + 1)).1, (evE (KC σ) (evO σ m) (a + 1)).2 + 1)
set_option maxRecDepth 100000 in
set_option maxHeartbeats 4000000 in
theorem c_X0_isInside (σ : Sg) (t : Int)  : Ct l G yX0_isInside cX0_isInside 4 (some .boolean) 2 0 0 [.ref (lay G 50), .int (I32 t)] σ (some (.int (I32 (b2i (insC σ t))))) (σ) := by
  refine Ct.of (by decide +kernel) (Nat.le_of_ble_eq_true rfl) (fun f => ?_)
  show AW _ _ _ _ _ _ _ _ _ _ [(0, _), (1, _)] _ _
  refine A_aload_n dX0_isInside_0 rfl 0 rfl ?_
  refine A_getr fl_X0_9 lk_50 rfl dX0_isInside_1 ?_
  refine A_iload_n dX0_isInside_4 rfl 1 rfl ?_
  refine A_Va1 mv_X0_34 lk_3 rfl rfl (c_X9_kindOf _ _) (Nat.le_of_ble_eq_true rfl) (by omega) (by omega) dX0_isInside_5 ?_
  by_cases h8_13 : KC σ t = 13
  · refine J_tsIn (tgt := 109) dX0_isInside_8 ((i32_eq (KC_inr _ _)).trans h8_13) ⟨by decide, by decide⟩ (by decide) (by decide) rfl (by decide) ?_
    refine A_iconst dX0_isInside_109 ?_
    exact A_zret2 dX0_isInside_110 (by decide) (by simp only [insC]; first | (rw [decide_eq_true (by simp_all), b2i_t]; done) | (rw [decide_eq_false (by simp_all), b2i_f]; done)) (by rfl)
  by_cases h8_14 : KC σ t = 14
  · refine J_tsIn (tgt := 109) dX0_isInside_8 ((i32_eq (KC_inr _ _)).trans h8_14) ⟨by decide, by decide⟩ (by decide) (by decide) rfl (by decide) ?_
    refine A_iconst dX0_isInside_109 ?_
    exact A_zret2 dX0_isInside_110 (by decide) (by simp only [insC]; first | (rw [decide_eq_true (by simp_all), b2i_t]; done) | (rw [decide_eq_false (by simp_all), b2i_f]; done)) (by rfl)
  by_cases h8_15 : KC σ t = 15
  · refine J_tsIn (tgt := 109) dX0_isInside_8 ((i32_eq (KC_inr _ _)).trans h8_15) ⟨by decide, by decide⟩ (by decide) (by decide) rfl (by decide) ?_
    refine A_iconst dX0_isInside_109 ?_
    exact A_zret2 dX0_isInside_110 (by decide) (by simp only [insC]; first | (rw [decide_eq_true (by simp_all), b2i_t]; done) | (rw [decide_eq_false (by simp_all), b2i_f]; done)) (by rfl)
  by_cases h8_16 : KC σ t = 16
  · refine J_tsIn (tgt := 111) dX0_isInside_8 ((i32_eq (KC_inr _ _)).trans h8_16) ⟨by decide, by decide⟩ (by decide) (by decide) rfl (by decide) ?_
    refine A_iconst dX0_isInside_111 ?_
    exact A_zret2 dX0_isInside_112 (by decide) (by simp only [insC]; first | (rw [decide_eq_true (by simp_all), b2i_t]; done) | (rw [decide_eq_false (by simp_all), b2i_f]; done)) (by rfl)
  by_cases h8_17 : KC σ t = 17
  · refine J_tsIn (tgt := 111) dX0_isInside_8 ((i32_eq (KC_inr _ _)).trans h8_17) ⟨by decide, by decide⟩ (by decide) (by decide) rfl (by decide) ?_
    refine A_iconst dX0_isInside_111 ?_
    exact A_zret2 dX0_isInside_112 (by decide) (by simp only [insC]; first | (rw [decide_eq_true (by simp_all), b2i_t]; done) | (rw [decide_eq_false (by simp_all), b2i_f]; done)) (by rfl)
  by_cases h8_18 : KC σ t = 18
  · refine J_tsIn (tgt := 111) dX0_isInside_8 ((i32_eq (KC_inr _ _)).trans h8_18) ⟨by decide, by decide⟩ (by decide) (by decide) rfl (by decide) ?_
    refine A_iconst dX0_isInside_111 ?_
    exact A_zret2 dX0_isInside_112 (by decide) (by simp only [insC]; first | (rw [decide_eq_true (by simp_all), b2i_t]; done) | (rw [decide_eq_false (by simp_all), b2i_f]; done)) (by rfl)
  by_cases h8_19 : KC σ t = 19
  · refine J_tsIn (tgt := 111) dX0_isInside_8 ((i32_eq (KC_inr _ _)).trans h8_19) ⟨by decide, by decide⟩ (by decide) (by decide) rfl (by decide) ?_
    refine A_iconst dX0_isInside_111 ?_
    exact A_zret2 dX0_isInside_112 (by decide) (by simp only [insC]; first | (rw [decide_eq_true (by simp_all), b2i_t]; done) | (rw [decide_eq_false (by simp_all), b2i_f]; done)) (by rfl)
  by_cases h8_20 : KC σ t = 20
  · refine J_tsIn (tgt := 109) dX0_isInside_8 ((i32_eq (KC_inr _ _)).trans h8_20) ⟨by decide, by decide⟩ (by decide) (by decide) rfl (by decide) ?_
    refine A_iconst dX0_isInside_109 ?_
    exact A_zret2 dX0_isInside_110 (by decide) (by simp only [insC]; first | (rw [decide_eq_true (by simp_all), b2i_t]; done) | (rw [decide_eq_false (by simp_all), b2i_f]; done)) (by rfl)
  by_cases h8_21 : KC σ t = 21
  · refine J_tsIn (tgt := 109) dX0_isInside_8 ((i32_eq (KC_inr _ _)).trans h8_21) ⟨by decide, by decide⟩ (by decide) (by decide) rfl (by decide) ?_
    refine A_iconst dX0_isInside_109 ?_
    exact A_zret2 dX0_isInside_110 (by decide) (by simp only [insC]; first | (rw [decide_eq_true (by simp_all), b2i_t]; done) | (rw [decide_eq_false (by simp_all), b2i_f]; done)) (by rfl)
  by_cases h8_22 : KC σ t = 22
  · refine J_tsIn (tgt := 64) dX0_isInside_8 ((i32_eq (KC_inr _ _)).trans h8_22) ⟨by decide, by decide⟩ (by decide) (by decide) rfl (by decide) ?_
    refine A_aload_n dX0_isInside_64 rfl 0 rfl ?_
    refine A_getr fl_X0_9 lk_50 rfl dX0_isInside_65 ?_
    refine A_iload_n dX0_isInside_68 rfl 1 rfl ?_
    refine A_Va1 mv_X0_39 lk_3 rfl rfl (c_X9_valueOf _ _) (Nat.le_of_ble_eq_true rfl) (by omega) (by omega) dX0_isInside_69 ?_
    refine A_lstore_n (lv2 := [(2, _), (0, _), (1, _)]) dX0_isInside_72 rfl (by decide) rfl ?_
    refine A_aload_n dX0_isInside_73 rfl 1 rfl ?_
    refine A_getr fl_X0_15 lk_50 rfl dX0_isInside_74 ?_
    refine A_getr fl_X0_43 lk_9 rfl dX0_isInside_77 ?_
    refine A_lload_n dX0_isInside_80 rfl 0 rfl ?_
    refine A_Va1 mv_X0_49 lk_12 rfl rfl (c_X4_indexOf_12 _ _) (Nat.le_of_ble_eq_true rfl) (by omega) (by omega) dX0_isInside_81 ?_
    refine A_iconst dX0_isInside_84 ?_
    refine J_icmp_ne (tgt := 103) dX0_isInside_85 (by decide) (by first | with_reducible exact i32_eq (KC_inr _ _) | with_reducible exact idxC_i32 _ _ _ | exact i32_eq (by assumption) | exact i32_eq ⟨by omega, by omega⟩ | with_reducible exact i32_i32 _ | rfl) (by first | with_reducible exact i32_eq (KC_inr _ _) | with_reducible exact idxC_i32 _ _ _ | exact i32_eq (by assumption) | exact i32_eq ⟨by omega, by omega⟩ | with_reducible exact i32_i32 _ | rfl) (fun h85 => ?_) (fun h85 => ?_)
    · refine A_iconst dX0_isInside_103 ?_
      refine A_goto (tgt := 108) dX0_isInside_104 (by decide) ?_
      exact A_zret2 dX0_isInside_108 (by decide) (by simp only [insC]; first | (rw [decide_eq_true (by simp_all), b2i_t]; done) | (rw [decide_eq_false (by simp_all), b2i_f]; done)) (by rfl)
    · refine A_aload_n dX0_isInside_88 rfl 1 rfl ?_
      refine A_getr fl_X0_15 lk_50 rfl dX0_isInside_89 ?_
      refine A_getr fl_X0_55 lk_9 rfl dX0_isInside_92 ?_
      refine A_lload_n dX0_isInside_95 rfl 0 rfl ?_
      refine A_Va1 mv_X0_49 lk_16 rfl rfl (c_X4_indexOf_16 _ _) (Nat.le_of_ble_eq_true rfl) (by omega) (by omega) dX0_isInside_96 ?_
      refine A_iconst dX0_isInside_99 ?_
      refine J_icmp_eq (tgt := 107) dX0_isInside_100 (by decide) (by first | with_reducible exact i32_eq (KC_inr _ _) | with_reducible exact idxC_i32 _ _ _ | exact i32_eq (by assumption) | exact i32_eq ⟨by omega, by omega⟩ | with_reducible exact i32_i32 _ | rfl) (by first | with_reducible exact i32_eq (KC_inr _ _) | with_reducible exact idxC_i32 _ _ _ | exact i32_eq (by assumption) | exact i32_eq ⟨by omega, by omega⟩ | with_reducible exact i32_i32 _ | rfl) (fun h100 => ?_) (fun h100 => ?_)
      · refine A_iconst dX0_isInside_107 ?_
        exact A_zret2 dX0_isInside_108 (by decide) (by simp only [insC]; first | (rw [decide_eq_true (by simp_all), b2i_t]; done) | (rw [decide_eq_false (by simp_all), b2i_f]; done)) (by rfl)
      · refine A_iconst dX0_isInside_103 ?_
        refine A_goto (tgt := 108) dX0_isInside_104 (by decide) ?_
        exact A_zret2 dX0_isInside_108 (by decide) (by simp only [insC]; first | (rw [decide_eq_true (by simp_all), b2i_t]; done) | (rw [decide_eq_false (by simp_all), b2i_f]; done)) (by rfl)
  refine J_tsOut (tgt := 111) dX0_isInside_8 (by rw [i32_eq (KC_inr _ _)]; omega) (by decide) ?_
  refine A_iconst dX0_isInside_111 ?_
  exact A_zret2 dX0_isInside_112 (by decide) (by simp only [insC]; first | (rw [decide_eq_true (by simp_all), b2i_t]; done) | (rw [decide_eq_false (by simp_all), b2i_f]; done)) (by rfl)
set_option maxRecDepth 100000 in
set_option maxHeartbeats 4000000 in
theorem w_X0_eou {f : Fm} (σ : Sg) : ∀ (n : Nat) (i t : Int) (r : Option Value), 0 ≤ i → i + n = 30 → r = some (.int (I32 (eouF σ n t))) → AW l G f (RX0, cX0_endOrUnknownName, 4, (some .int)) (3, 0, 0) (QT G f 0 0 r σ) [] 0 0 4 [(3, .int (I32 i)), (2, .int (I32 t)), (0, .ref (lay G 50))] [] σ := by
  intro n
  induction n using Nat.strongRecOn with | _ n ih =>
  intro i t r h0 hn hr
  refine A_iload_n dX0_endOrUnknownName_4 rfl 0 rfl ?_
  refine A_bipush dX0_endOrUnknownName_5 (by decide +kernel) ?_
  refine J_icmp_ge (tgt := 27) dX0_endOrUnknownName_7 (by decide) (by first | exact i32_eq (by assumption) | exact i32_eq ⟨by omega, by omega⟩ | with_reducible exact i32_i32 _ | with_reducible exact i32_eq (b2i_inr _) | rfl) (by first | exact i32_eq (by assumption) | exact i32_eq ⟨by omega, by omega⟩ | with_reducible exact i32_i32 _ | with_reducible exact i32_eq (b2i_inr _) | rfl) (fun h7 => ?_) (fun h7 => ?_)
  · refine A_iload_n dX0_endOrUnknownName_27 rfl 1 rfl ?_
    exact A_iret dX0_endOrUnknownName_28 (by rw [hr]; clear ih; rcases n with _ | n <;> simp only [eouF] <;> (repeat' split) <;> first | contradiction | (exfalso; omega) | rfl | (simp_all; done)) (by rfl)
  · refine A_aload_n dX0_endOrUnknownName_10 rfl 2 rfl ?_
    refine A_iload_n dX0_endOrUnknownName_11 rfl 1 rfl ?_
    refine A_Va1 mv_X0_19 lk_50 rfl rfl (c_X0_isInside _ _) (Nat.le_of_ble_eq_true rfl) (by omega) (by omega) dX0_endOrUnknownName_12 ?_
    refine A_ifeq_b (tgt := 27) dX0_endOrUnknownName_15 (by decide) (fun h15 => ?_) (fun h15 => ?_)
    · refine A_iload_n dX0_endOrUnknownName_27 rfl 1 rfl ?_
      exact A_iret dX0_endOrUnknownName_28 (by rw [hr]; clear ih; rcases n with _ | n <;> simp only [eouF] <;> (repeat' split) <;> first | contradiction | (exfalso; omega) | rfl | (simp_all; done)) (by rfl)
    · refine A_iinc (lv2 := [(2, _), (3, _), (0, _)]) dX0_endOrUnknownName_18 1 rfl (by decide) rfl ?_
      refine A_iinc (lv2 := [(3, _), (2, _), (0, _)]) dX0_endOrUnknownName_21 1 rfl (by decide) rfl ?_
      refine A_goto (tgt := 4) dX0_endOrUnknownName_24 (by decide) ?_
      refine A_lv [0, 1, 2] rfl ?_
      exact ih (n - 1) (by omega) (i + 1) _ r (by omega) (by omega) (by rw [hr]; obtain ⟨n, rfl⟩ : ∃ q, n = q + 1 := ⟨n - 1, by omega⟩; simp only [eouF, Nat.add_sub_cancel]; rw [if_pos h15])
set_option maxRecDepth 100000 in
set_option maxHeartbeats 4000000 in
theorem c_X0_endOrUnknownName (σ : Sg) (t : Int)  : Ct l G yX0_endOrUnknownName cX0_endOrUnknownName 4 (some .int) 3 0 0 [.ref (lay G 50), .int (I32 t)] σ (some (.int (I32 (eouC σ t)))) (σ) := by
  refine Ct.of (by decide +kernel) (Nat.le_of_ble_eq_true rfl) (fun f => ?_)
  show AW _ _ _ _ _ _ _ _ _ _ [(0, _), (1, _)] _ _
  refine A_iload_n dX0_endOrUnknownName_0 rfl 1 rfl ?_
  refine A_istore_n (lv2 := [(2, _), (0, _), (1, _)]) dX0_endOrUnknownName_1 rfl (by decide) rfl ?_
  refine A_iconst dX0_endOrUnknownName_2 ?_
  refine A_istore_n (lv2 := [(3, _), (2, _), (0, _), (1, _)]) dX0_endOrUnknownName_3 rfl (by decide) rfl ?_
  refine A_lv [0, 1, 2] rfl ?_
  exact w_X0_eou σ 30 0 t _ (by omega) (by omega) rfl
set_option maxRecDepth 100000 in
set_option maxHeartbeats 4000000 in
theorem c_X0_dishesNamed (σ : Sg) (v : Int)  : Ct l G yX0_dishesNamed cX0_dishesNamed 4 (some .int) 3 0 0 [.ref (lay G 50), .long (I64 v)] σ (some (.int (I32 (dnC σ v)))) (σ) := by
  refine Ct.of (by decide +kernel) (Nat.le_of_ble_eq_true rfl) (fun f => ?_)
  show AW _ _ _ _ _ _ _ _ _ _ [(0, _), (1, _)] _ _
  refine A_aload_n dX0_dishesNamed_0 rfl 0 rfl ?_
  refine A_getr fl_X0_15 lk_50 rfl dX0_dishesNamed_1 ?_
  refine A_getr fl_X0_43 lk_9 rfl dX0_dishesNamed_4 ?_
  refine A_lload_n dX0_dishesNamed_7 rfl 1 rfl ?_
  refine A_Va1 mv_X0_49 lk_12 rfl rfl (c_X4_indexOf_12 _ _) (Nat.le_of_ble_eq_true rfl) (by omega) (by omega) dX0_dishesNamed_8 ?_
  refine A_istore_n (lv2 := [(3, _), (0, _), (1, _)]) dX0_dishesNamed_11 rfl (by decide) rfl ?_
  refine A_iload_n dX0_dishesNamed_12 rfl 0 rfl ?_
  refine A_iconst dX0_dishesNamed_13 ?_
  refine J_icmp_eq (tgt := 29) dX0_dishesNamed_14 (by decide) (by first | with_reducible exact i32_eq (KC_inr _ _) | with_reducible exact idxC_i32 _ _ _ | exact i32_eq (by assumption) | exact i32_eq ⟨by omega, by omega⟩ | with_reducible exact i32_i32 _ | rfl) (by first | with_reducible exact i32_eq (KC_inr _ _) | with_reducible exact idxC_i32 _ _ _ | exact i32_eq (by assumption) | exact i32_eq ⟨by omega, by omega⟩ | with_reducible exact i32_i32 _ | rfl) (fun h14 => ?_) (fun h14 => ?_)
  · refine A_aload_n dX0_dishesNamed_29 rfl 1 rfl ?_
    refine A_getr fl_X0_15 lk_50 rfl dX0_dishesNamed_30 ?_
    refine A_aload_n dX0_dishesNamed_33 rfl 1 rfl ?_
    refine A_getr fl_X0_15 lk_50 rfl dX0_dishesNamed_34 ?_
    refine A_getr fl_X0_55 lk_9 rfl dX0_dishesNamed_37 ?_
    refine A_lload_n dX0_dishesNamed_40 rfl 2 rfl ?_
    refine A_Va1 mv_X0_49 lk_16 rfl rfl (c_X4_indexOf_16 _ _) (Nat.le_of_ble_eq_true rfl) (by omega) (by omega) dX0_dishesNamed_41 ?_
    refine A_Va1 mv_X0_71 lk_9 rfl rfl (c_X6_dishesWithTag _ _) (Nat.le_of_ble_eq_true rfl) (by omega) (by omega) dX0_dishesNamed_44 ?_
    exact A_iret dX0_dishesNamed_47 (by simp only [dnC]; (repeat' split) <;> first | contradiction | (exfalso; omega) | rfl) (by rfl)
  · refine A_iload_n dX0_dishesNamed_17 rfl 0 rfl ?_
    refine A_aload_n dX0_dishesNamed_18 rfl 1 rfl ?_
    refine A_geti fl_X0_27 lk_50 rfl dX0_dishesNamed_19 ?_
    try simp (disch := omega) only [up_k, up_j, up_s]
    refine J_icmp_ge (tgt := 29) dX0_dishesNamed_22 (by decide) (by first | with_reducible exact i32_eq (KC_inr _ _) | with_reducible exact idxC_i32 _ _ _ | exact i32_eq (by assumption) | exact i32_eq ⟨by omega, by omega⟩ | with_reducible exact i32_i32 _ | rfl) (by first | with_reducible exact i32_eq (KC_inr _ _) | with_reducible exact idxC_i32 _ _ _ | exact i32_eq (by assumption) | exact i32_eq ⟨by omega, by omega⟩ | with_reducible exact i32_i32 _ | rfl) (fun h22 => ?_) (fun h22 => ?_)
    · refine A_aload_n dX0_dishesNamed_29 rfl 1 rfl ?_
      refine A_getr fl_X0_15 lk_50 rfl dX0_dishesNamed_30 ?_
      refine A_aload_n dX0_dishesNamed_33 rfl 1 rfl ?_
      refine A_getr fl_X0_15 lk_50 rfl dX0_dishesNamed_34 ?_
      refine A_getr fl_X0_55 lk_9 rfl dX0_dishesNamed_37 ?_
      refine A_lload_n dX0_dishesNamed_40 rfl 2 rfl ?_
      refine A_Va1 mv_X0_49 lk_16 rfl rfl (c_X4_indexOf_16 _ _) (Nat.le_of_ble_eq_true rfl) (by omega) (by omega) dX0_dishesNamed_41 ?_
      refine A_Va1 mv_X0_71 lk_9 rfl rfl (c_X6_dishesWithTag _ _) (Nat.le_of_ble_eq_true rfl) (by omega) (by omega) dX0_dishesNamed_44 ?_
      exact A_iret dX0_dishesNamed_47 (by simp only [dnC]; (repeat' split) <;> first | contradiction | (exfalso; omega) | rfl) (by rfl)
    · refine A_iconst dX0_dishesNamed_25 ?_
      refine A_iload_n dX0_dishesNamed_26 rfl 0 rfl ?_
      refine A_ishl dX0_dishesNamed_27 ?_
      exact A_iret dX0_dishesNamed_28 (by simp only [dnC]; (repeat' split) <;> first | contradiction | (exfalso; omega) | rfl) (by rfl)
set_option maxRecDepth 100000 in
set_option maxHeartbeats 4000000 in
theorem c_X0_isJoined (σ : Sg) (a : Int)  : Ct l G yX0_isJoined cX0_isJoined 1 (some .boolean) 2 0 0 [.ref (lay G 50)] (stE σ a) (some (.int (I32 (b2i (decide (KC σ a = 14 ∨ KC σ a = 13)))))) (stE σ a) := by
  refine Ct.of (by decide +kernel) (Nat.le_of_ble_eq_true rfl) (fun f => ?_)
  show AW _ _ _ _ _ _ _ _ _ _ [(0, _)] _ _
  refine A_aload_n dX0_isJoined_0 rfl 0 rfl ?_
  refine A_getr fl_X0_9 lk_50 rfl dX0_isJoined_1 ?_
  refine A_aload_n dX0_isJoined_4 rfl 0 rfl ?_
  refine A_geti fl_X0_23 lk_50 rfl dX0_isJoined_5 ?_
  try simp (disch := omega) only [up_k, up_j, up_s, KC_stE, VC_stE, stE_1, stE_3, stE_12, stE_u, dnC_stE]
  refine A_Va1 mv_X0_34 lk_3 rfl rfl (c_X9_kindOf _ _) (Nat.le_of_ble_eq_true rfl) (by omega) (by omega) dX0_isJoined_8 ?_
  try simp only [KC_stE, VC_stE, stE_1, stE_3, stE_12, stE_u, dnC_stE]
  refine A_bipush dX0_isJoined_11 (by decide +kernel) ?_
  refine J_icmp_eq (tgt := 32) dX0_isJoined_13 (by decide) (by first | with_reducible exact i32_eq (KC_inr _ _) | with_reducible exact idxC_i32 _ _ _ | exact i32_eq (by assumption) | exact i32_eq ⟨by omega, by omega⟩ | with_reducible exact i32_i32 _ | rfl) (by first | with_reducible exact i32_eq (KC_inr _ _) | with_reducible exact idxC_i32 _ _ _ | exact i32_eq (by assumption) | exact i32_eq ⟨by omega, by omega⟩ | with_reducible exact i32_i32 _ | rfl) (fun h13 => ?_) (fun h13 => ?_)
  · refine A_iconst dX0_isJoined_32 ?_
    refine A_goto (tgt := 37) dX0_isJoined_33 (by decide) ?_
    exact A_zret2 dX0_isJoined_37 (by decide) (by first | (rw [decide_eq_true (by omega), b2i_t]; done) | (rw [decide_eq_false (by omega), b2i_f]; done)) (by rfl)
  · refine A_aload_n dX0_isJoined_16 rfl 0 rfl ?_
    refine A_getr fl_X0_9 lk_50 rfl dX0_isJoined_17 ?_
    refine A_aload_n dX0_isJoined_20 rfl 0 rfl ?_
    refine A_geti fl_X0_23 lk_50 rfl dX0_isJoined_21 ?_
    try simp (disch := omega) only [up_k, up_j, up_s, KC_stE, VC_stE, stE_1, stE_3, stE_12, stE_u, dnC_stE]
    refine A_Va1 mv_X0_34 lk_3 rfl rfl (c_X9_kindOf _ _) (Nat.le_of_ble_eq_true rfl) (by omega) (by omega) dX0_isJoined_24 ?_
    try simp only [KC_stE, VC_stE, stE_1, stE_3, stE_12, stE_u, dnC_stE]
    refine A_bipush dX0_isJoined_27 (by decide +kernel) ?_
    refine J_icmp_ne (tgt := 36) dX0_isJoined_29 (by decide) (by first | with_reducible exact i32_eq (KC_inr _ _) | with_reducible exact idxC_i32 _ _ _ | exact i32_eq (by assumption) | exact i32_eq ⟨by omega, by omega⟩ | with_reducible exact i32_i32 _ | rfl) (by first | with_reducible exact i32_eq (KC_inr _ _) | with_reducible exact idxC_i32 _ _ _ | exact i32_eq (by assumption) | exact i32_eq ⟨by omega, by omega⟩ | with_reducible exact i32_i32 _ | rfl) (fun h29 => ?_) (fun h29 => ?_)
    · refine A_iconst dX0_isJoined_36 ?_
      exact A_zret2 dX0_isJoined_37 (by decide) (by first | (rw [decide_eq_true (by omega), b2i_t]; done) | (rw [decide_eq_false (by omega), b2i_f]; done)) (by rfl)
    · refine A_iconst dX0_isJoined_32 ?_
      refine A_goto (tgt := 37) dX0_isJoined_33 (by decide) ?_
      exact A_zret2 dX0_isJoined_37 (by decide) (by first | (rw [decide_eq_true (by omega), b2i_t]; done) | (rw [decide_eq_false (by omega), b2i_f]; done)) (by rfl)
set_option maxRecDepth 100000 in
set_option maxHeartbeats 4000000 in
theorem w_X0_expression {f : Fm} (σ : Sg) (m : Nat) (dp : Int) (hm : dp + m = 8) (o1 : ∀ (a dp : Int), dp + m = 8 → Ct l G yX0_one cX0_one 6 (some .int) (4 + 2 * m) 0 0 [.ref (lay G 50), .int (I32 dp)] (stE σ a) (some (.int (I32 (evO σ m a).1))) (stE σ (evO σ m a).2)) : ∀ (n : Nat) (i s1 s2 a : Int) (r : Option Value) (σ1 : Sg), 0 ≤ i → i + n = 30 → r = some (.int (I32 (ior (evJ (KC σ) (evO σ m) n (s1, s2, a)).1 (evJ (KC σ) (evO σ m) n (s1, s2, a)).2.1))) → σ1 = stE σ (evJ (KC σ) (evO σ m) n (s1, s2, a)).2.2 → AW l G f (RX0, cX0_expression, 6, (some .int)) (5 + 2 * m, 0, 0) (QT G f 0 0 r σ1) [] 0 0 11 [(4, .int (I32 i)), (2, .int (I32 s1)), (3, .int (I32 s2)), (0, .ref (lay G 50)), (1, .int (I32 dp))] [] (stE σ a) := by
  intro n
  induction n using Nat.strongRecOn with | _ n ih =>
  intro i s1 s2 a r σ1 h0 hn hr hs
  refine A_iload dX0_expression_11 0 rfl ?_
  refine A_bipush dX0_expression_13 (by decide +kernel) ?_
  refine J_icmp_ge (tgt := 90) dX0_expression_15 (by decide) (by first | with_reducible exact i32_eq (KC_inr _ _) | with_reducible exact idxC_i32 _ _ _ | exact i32_eq (by assumption) | exact i32_eq ⟨by omega, by omega⟩ | with_reducible exact i32_i32 _ | rfl) (by first | with_reducible exact i32_eq (KC_inr _ _) | with_reducible exact idxC_i32 _ _ _ | exact i32_eq (by assumption) | exact i32_eq ⟨by omega, by omega⟩ | with_reducible exact i32_i32 _ | rfl) (fun h15 => ?_) (fun h15 => ?_)
  · refine A_iload_n dX0_expression_90 rfl 1 rfl ?_
    refine A_iload_n dX0_expression_91 rfl 2 rfl ?_
    refine A_ior dX0_expression_92 ?_
    exact A_iret dX0_expression_93 (by rw [hr]; clear ih; rcases n with _ | n <;> simp only [evJ] <;> (repeat' split) <;> first | contradiction | (exfalso; omega) | rfl | (simp_all; done)) (by rw [hs]; clear ih; rcases n with _ | n <;> simp only [evJ] <;> (repeat' split) <;> first | contradiction | (exfalso; omega) | with_reducible rfl | (simp_all; done))
  · refine A_aload_n dX0_expression_18 rfl 3 rfl ?_
    refine A_Va0 mv_X0_61 lk_50 rfl rfl (c_X0_isJoined _ _) (Nat.le_of_ble_eq_true rfl) (by omega) (by omega) dX0_expression_19 ?_
    try simp only [KC_stE, VC_stE, stE_1, stE_3, stE_12, stE_u, dnC_stE]
    refine A_ifeq_b (tgt := 90) dX0_expression_22 (by decide) (fun h22 => ?_) (fun h22 => ?_)
    · have hj := of_decide_eq_false h22
      refine A_iload_n dX0_expression_90 rfl 1 rfl ?_
      refine A_iload_n dX0_expression_91 rfl 2 rfl ?_
      refine A_ior dX0_expression_92 ?_
      exact A_iret dX0_expression_93 (by rw [hr]; clear ih; rcases n with _ | n <;> simp only [evJ] <;> (repeat' split) <;> first | contradiction | (exfalso; omega) | rfl | (simp_all; done)) (by rw [hs]; clear ih; rcases n with _ | n <;> simp only [evJ] <;> (repeat' split) <;> first | contradiction | (exfalso; omega) | with_reducible rfl | (simp_all; done))
    · have hj := of_decide_eq_true h22
      refine A_aload_n dX0_expression_25 rfl 3 rfl ?_
      refine A_getr fl_X0_9 lk_50 rfl dX0_expression_26 ?_
      refine A_aload_n dX0_expression_29 rfl 3 rfl ?_
      refine A_geti fl_X0_23 lk_50 rfl dX0_expression_30 ?_
      try simp (disch := omega) only [up_k, up_j, up_s, KC_stE, VC_stE, stE_1, stE_3, stE_12, stE_u, dnC_stE]
      refine A_Va1 mv_X0_34 lk_3 rfl rfl (c_X9_kindOf _ _) (Nat.le_of_ble_eq_true rfl) (by omega) (by omega) dX0_expression_33 ?_
      try simp only [KC_stE, VC_stE, stE_1, stE_3, stE_12, stE_u, dnC_stE]
      refine A_bipush dX0_expression_36 (by decide +kernel) ?_
      refine J_icmp_ne (tgt := 45) dX0_expression_38 (by decide) (by first | with_reducible exact i32_eq (KC_inr _ _) | with_reducible exact idxC_i32 _ _ _ | exact i32_eq (by assumption) | exact i32_eq ⟨by omega, by omega⟩ | with_reducible exact i32_i32 _ | rfl) (by first | with_reducible exact i32_eq (KC_inr _ _) | with_reducible exact idxC_i32 _ _ _ | exact i32_eq (by assumption) | exact i32_eq ⟨by omega, by omega⟩ | with_reducible exact i32_i32 _ | rfl) (fun h38 => ?_) (fun h38 => ?_)
      · refine A_iconst dX0_expression_45 ?_
        refine A_istore (lv2 := [(5, _), (4, _), (2, _), (3, _), (0, _), (1, _)]) dX0_expression_46 (by decide) rfl ?_
        refine A_aload_n dX0_expression_48 rfl 4 rfl ?_
        refine A_dup dX0_expression_49 rfl ?_
        refine A_geti fl_X0_23 lk_50 rfl dX0_expression_50 ?_
        try simp (disch := omega) only [up_k, up_j, up_s, KC_stE, VC_stE, stE_1, stE_3, stE_12, stE_u, dnC_stE]
        refine A_iconst dX0_expression_53 ?_
        refine A_iadd dX0_expression_54 ?_
        refine A_puti fl_X0_23 lk_50 rfl dX0_expression_55 ?_
        try simp only [KC_stE, VC_stE, stE_1, stE_3, stE_12, stE_u, dnC_stE]
        refine A_iload dX0_expression_58 0 rfl ?_
        refine A_if_eq (tgt := 76) dX0_expression_60 (by decide) ⟨by decide, by decide⟩ (fun _ => ?_) (fun h => absurd h (by decide))
        refine A_iload_n dX0_expression_76 rfl 3 rfl ?_
        refine A_aload_n dX0_expression_77 rfl 4 rfl ?_
        refine A_iload_n dX0_expression_78 rfl 5 rfl ?_
        refine A_Va1 mv_X0_58 lk_50 rfl rfl (o1 _ _ hm) (Nat.le_of_ble_eq_true rfl) (by omega) (by omega) dX0_expression_79 ?_
        try simp only [KC_stE, VC_stE, stE_1, stE_3, stE_12, stE_u, dnC_stE]
        refine A_iand dX0_expression_82 ?_
        refine A_istore_n (lv2 := [(3, _), (5, _), (4, _), (2, _), (0, _), (1, _)]) dX0_expression_83 rfl (by decide) rfl ?_
        refine A_iinc (lv2 := [(4, _), (3, _), (5, _), (2, _), (0, _), (1, _)]) dX0_expression_84 2 rfl (by decide) rfl ?_
        refine A_goto (tgt := 11) dX0_expression_87 (by decide) ?_
        refine A_lv [0, 3, 1, 4, 5] rfl ?_
        exact ih (n - 1) (by omega) (i + 1) _ _ _ r σ1 (by omega) (by omega) (by rw [hr]; clear ih; obtain ⟨n, rfl⟩ : ∃ q, n = q + 1 := ⟨n - 1, by omega⟩; simp only [evJ, Nat.add_sub_cancel]; (repeat' split) <;> first | contradiction | (exfalso; omega) | rfl | (simp_all; done)) (by rw [hs]; clear ih; obtain ⟨n, rfl⟩ : ∃ q, n = q + 1 := ⟨n - 1, by omega⟩; simp only [evJ, Nat.add_sub_cancel]; (repeat' split) <;> first | contradiction | (exfalso; omega) | with_reducible rfl | (simp_all; done))
      · refine A_iconst dX0_expression_41 ?_
        refine A_goto (tgt := 46) dX0_expression_42 (by decide) ?_
        refine A_istore (lv2 := [(5, _), (4, _), (2, _), (3, _), (0, _), (1, _)]) dX0_expression_46 (by decide) rfl ?_
        refine A_aload_n dX0_expression_48 rfl 4 rfl ?_
        refine A_dup dX0_expression_49 rfl ?_
        refine A_geti fl_X0_23 lk_50 rfl dX0_expression_50 ?_
        try simp (disch := omega) only [up_k, up_j, up_s, KC_stE, VC_stE, stE_1, stE_3, stE_12, stE_u, dnC_stE]
        refine A_iconst dX0_expression_53 ?_
        refine A_iadd dX0_expression_54 ?_
        refine A_puti fl_X0_23 lk_50 rfl dX0_expression_55 ?_
        try simp only [KC_stE, VC_stE, stE_1, stE_3, stE_12, stE_u, dnC_stE]
        refine A_iload dX0_expression_58 0 rfl ?_
        refine A_if_eq (tgt := 76) dX0_expression_60 (by decide) ⟨by decide, by decide⟩ (fun h => absurd h (by decide)) (fun _ => ?_)
        refine A_iload_n dX0_expression_63 rfl 2 rfl ?_
        refine A_iload_n dX0_expression_64 rfl 3 rfl ?_
        refine A_ior dX0_expression_65 ?_
        refine A_istore_n (lv2 := [(2, _), (5, _), (4, _), (3, _), (0, _), (1, _)]) dX0_expression_66 rfl (by decide) rfl ?_
        refine A_aload_n dX0_expression_67 rfl 4 rfl ?_
        refine A_iload_n dX0_expression_68 rfl 5 rfl ?_
        refine A_Va1 mv_X0_58 lk_50 rfl rfl (o1 _ _ hm) (Nat.le_of_ble_eq_true rfl) (by omega) (by omega) dX0_expression_69 ?_
        try simp only [KC_stE, VC_stE, stE_1, stE_3, stE_12, stE_u, dnC_stE]
        refine A_istore_n (lv2 := [(3, _), (2, _), (5, _), (4, _), (0, _), (1, _)]) dX0_expression_72 rfl (by decide) rfl ?_
        refine A_goto (tgt := 84) dX0_expression_73 (by decide) ?_
        refine A_iinc (lv2 := [(4, _), (3, _), (2, _), (5, _), (0, _), (1, _)]) dX0_expression_84 3 rfl (by decide) rfl ?_
        refine A_goto (tgt := 11) dX0_expression_87 (by decide) ?_
        refine A_lv [0, 2, 1, 4, 5] rfl ?_
        exact ih (n - 1) (by omega) (i + 1) _ _ _ r σ1 (by omega) (by omega) (by rw [hr]; clear ih; obtain ⟨n, rfl⟩ : ∃ q, n = q + 1 := ⟨n - 1, by omega⟩; simp only [evJ, Nat.add_sub_cancel]; (repeat' split) <;> first | contradiction | (exfalso; omega) | rfl | (simp_all; done)) (by rw [hs]; clear ih; obtain ⟨n, rfl⟩ : ∃ q, n = q + 1 := ⟨n - 1, by omega⟩; simp only [evJ, Nat.add_sub_cancel]; (repeat' split) <;> first | contradiction | (exfalso; omega) | with_reducible rfl | (simp_all; done))
set_option maxRecDepth 100000 in
set_option maxHeartbeats 4000000 in
theorem w_X0_ex (σ : Sg) (m : Nat) (a dp : Int) (hm : dp + m = 8) (o1 : ∀ (a dp : Int), dp + m = 8 → Ct l G yX0_one cX0_one 6 (some .int) (4 + 2 * m) 0 0 [.ref (lay G 50), .int (I32 dp)] (stE σ a) (some (.int (I32 (evO σ m a).1))) (stE σ (evO σ m a).2)) : Ct l G yX0_expression cX0_expression 6 (some .int) (5 + 2 * m) 0 0 [.ref (lay G 50), .int (I32 dp)] (stE σ a) (some (.int (I32 (evE (KC σ) (evO σ m) a).1))) (stE σ (evE (KC σ) (evO σ m) a).2) := by
  refine Ct.of (by decide +kernel) (Nat.le_of_ble_eq_true rfl) (fun f => ?_)
  show AW _ _ _ _ _ _ _ _ _ _ [(0, _), (1, _)] _ _
  refine A_iconst dX0_expression_0 ?_
  refine A_istore_n (lv2 := [(2, _), (0, _), (1, _)]) dX0_expression_1 rfl (by decide) rfl ?_
  refine A_aload_n dX0_expression_2 rfl 1 rfl ?_
  refine A_iload_n dX0_expression_3 rfl 2 rfl ?_
  refine A_Va1 mv_X0_58 lk_50 rfl rfl (o1 _ _ hm) (Nat.le_of_ble_eq_true rfl) (by omega) (by omega) dX0_expression_4 ?_
  try simp only [KC_stE, VC_stE, stE_1, stE_3, stE_12, stE_u, dnC_stE]
  refine A_istore_n (lv2 := [(3, _), (2, _), (0, _), (1, _)]) dX0_expression_7 rfl (by decide) rfl ?_
  refine A_iconst dX0_expression_8 ?_
  refine A_istore (lv2 := [(4, _), (3, _), (2, _), (0, _), (1, _)]) dX0_expression_9 (by decide) rfl ?_
  refine A_lv [0, 2, 1, 3, 4] rfl ?_
  exact w_X0_expression σ m dp hm o1 30 0 _ _ _ _ _ (by omega) (by omega) rfl rfl
set_option maxRecDepth 100000 in
set_option maxHeartbeats 4000000 in
theorem w_X0_one (σ : Sg) (m : Nat) (a dp : Int) (hm : dp + m = 8) (hmm : m ≤ 8) (o1 : ∀ q, m = q + 1 → ∀ (a dp : Int), dp + q = 8 → Ct l G yX0_one cX0_one 6 (some .int) (4 + 2 * q) 0 0 [.ref (lay G 50), .int (I32 dp)] (stE σ a) (some (.int (I32 (evO σ q a).1))) (stE σ (evO σ q a).2)) (o2 : ∀ q, m = q + 1 → ∀ (a dp : Int), dp + q = 8 → Ct l G yX0_expression cX0_expression 6 (some .int) (5 + 2 * q) 0 0 [.ref (lay G 50), .int (I32 dp)] (stE σ a) (some (.int (I32 (evE (KC σ) (evO σ q) a).1))) (stE σ (evE (KC σ) (evO σ q) a).2)) : Ct l G yX0_one cX0_one 6 (some .int) (4 + 2 * m) 0 0 [.ref (lay G 50), .int (I32 dp)] (stE σ a) (some (.int (I32 (evO σ m a).1))) (stE σ (evO σ m a).2) := by
  refine Ct.of (by decide +kernel) (Nat.le_of_ble_eq_true rfl) (fun f => ?_)
  show AW _ _ _ _ _ _ _ _ _ _ [(0, _), (1, _)] _ _
  refine A_aload_n dX0_one_0 rfl 0 rfl ?_
  refine A_getr fl_X0_9 lk_50 rfl dX0_one_1 ?_
  refine A_aload_n dX0_one_4 rfl 0 rfl ?_
  refine A_geti fl_X0_23 lk_50 rfl dX0_one_5 ?_
  try simp (disch := omega) only [up_k, up_j, up_s, KC_stE, VC_stE, stE_1, stE_3, stE_12, stE_u, dnC_stE]
  refine A_Va1 mv_X0_34 lk_3 rfl rfl (c_X9_kindOf _ _) (Nat.le_of_ble_eq_true rfl) (by omega) (by omega) dX0_one_8 ?_
  try simp only [KC_stE, VC_stE, stE_1, stE_3, stE_12, stE_u, dnC_stE]
  refine A_istore_n (lv2 := [(2, _), (0, _), (1, _)]) dX0_one_11 rfl (by decide) rfl ?_
  refine A_aload_n dX0_one_12 rfl 1 rfl ?_
  refine A_getr fl_X0_9 lk_50 rfl dX0_one_13 ?_
  refine A_aload_n dX0_one_16 rfl 1 rfl ?_
  refine A_geti fl_X0_23 lk_50 rfl dX0_one_17 ?_
  try simp (disch := omega) only [up_k, up_j, up_s, KC_stE, VC_stE, stE_1, stE_3, stE_12, stE_u, dnC_stE]
  refine A_Va1 mv_X0_39 lk_3 rfl rfl (c_X9_valueOf _ _) (Nat.le_of_ble_eq_true rfl) (by omega) (by omega) dX0_one_20 ?_
  try simp only [KC_stE, VC_stE, stE_1, stE_3, stE_12, stE_u, dnC_stE]
  refine A_lstore_n (lv2 := [(3, _), (2, _), (0, _), (1, _)]) dX0_one_23 rfl (by decide) rfl ?_
  refine A_aload_n dX0_one_24 rfl 2 rfl ?_
  refine A_dup dX0_one_25 rfl ?_
  refine A_geti fl_X0_23 lk_50 rfl dX0_one_26 ?_
  try simp (disch := omega) only [up_k, up_j, up_s, KC_stE, VC_stE, stE_1, stE_3, stE_12, stE_u, dnC_stE]
  refine A_iconst dX0_one_29 ?_
  refine A_iadd dX0_one_30 ?_
  refine A_puti fl_X0_23 lk_50 rfl dX0_one_31 ?_
  try simp only [KC_stE, VC_stE, stE_1, stE_3, stE_12, stE_u, dnC_stE]
  refine A_iload_n dX0_one_34 rfl 1 rfl ?_
  refine A_bipush dX0_one_35 (by decide +kernel) ?_
  refine J_icmp_ne (tgt := 46) dX0_one_37 (by decide) (by first | with_reducible exact i32_eq (KC_inr _ _) | with_reducible exact idxC_i32 _ _ _ | exact i32_eq (by assumption) | exact i32_eq ⟨by omega, by omega⟩ | with_reducible exact i32_i32 _ | rfl) (by first | with_reducible exact i32_eq (KC_inr _ _) | with_reducible exact idxC_i32 _ _ _ | exact i32_eq (by assumption) | exact i32_eq ⟨by omega, by omega⟩ | with_reducible exact i32_i32 _ | rfl) (fun h37 => ?_) (fun h37 => ?_)
  · refine A_iload_n dX0_one_46 rfl 3 rfl ?_
    refine A_bipush dX0_one_47 (by decide +kernel) ?_
    refine J_icmp_lt (tgt := 54) dX0_one_49 (by decide) (by first | with_reducible exact i32_eq (KC_inr _ _) | with_reducible exact idxC_i32 _ _ _ | exact i32_eq (by assumption) | exact i32_eq ⟨by omega, by omega⟩ | with_reducible exact i32_i32 _ | rfl) (by first | with_reducible exact i32_eq (KC_inr _ _) | with_reducible exact idxC_i32 _ _ _ | exact i32_eq (by assumption) | exact i32_eq ⟨by omega, by omega⟩ | with_reducible exact i32_i32 _ | rfl) (fun h49 => ?_) (fun h49 => ?_)
    · obtain ⟨q, rfl⟩ : ∃ q, m = q + 1 := ⟨m - 1, by omega⟩
      have e1 := o1 q rfl
      have e2 := o2 q rfl
      clear o1 o2
      refine A_iload_n dX0_one_54 rfl 1 rfl ?_
      refine A_bipush dX0_one_55 (by decide +kernel) ?_
      refine J_icmp_ne (tgt := 85) dX0_one_57 (by decide) (by first | with_reducible exact i32_eq (KC_inr _ _) | with_reducible exact idxC_i32 _ _ _ | exact i32_eq (by assumption) | exact i32_eq ⟨by omega, by omega⟩ | with_reducible exact i32_i32 _ | rfl) (by first | with_reducible exact i32_eq (KC_inr _ _) | with_reducible exact idxC_i32 _ _ _ | exact i32_eq (by assumption) | exact i32_eq ⟨by omega, by omega⟩ | with_reducible exact i32_i32 _ | rfl) (fun h57 => ?_) (fun h57 => ?_)
      · refine A_aload_n dX0_one_85 rfl 2 rfl ?_
        refine A_iload_n dX0_one_86 rfl 3 rfl ?_
        refine A_iconst dX0_one_87 ?_
        refine A_iadd dX0_one_88 ?_
        refine A_Va1 mv_X0_30 lk_50 rfl rfl (e2 _ _ (by omega)) (Nat.le_of_ble_eq_true rfl) (by omega) (by omega) dX0_one_89 ?_
        try simp only [KC_stE, VC_stE, stE_1, stE_3, stE_12, stE_u, dnC_stE]
        refine A_istore (lv2 := [(5, _), (3, _), (2, _), (0, _), (1, _)]) dX0_one_92 (by decide) rfl ?_
        refine A_aload_n dX0_one_94 rfl 3 rfl ?_
        refine A_dup dX0_one_95 rfl ?_
        refine A_geti fl_X0_23 lk_50 rfl dX0_one_96 ?_
        try simp (disch := omega) only [up_k, up_j, up_s, KC_stE, VC_stE, stE_1, stE_3, stE_12, stE_u, dnC_stE]
        refine A_iconst dX0_one_99 ?_
        refine A_iadd dX0_one_100 ?_
        refine A_puti fl_X0_23 lk_50 rfl dX0_one_101 ?_
        try simp only [KC_stE, VC_stE, stE_1, stE_3, stE_12, stE_u, dnC_stE]
        refine A_iload dX0_one_104 0 rfl ?_
        exact A_iret dX0_one_106 (by first | (simp only [evO]; (repeat' split) <;> first | contradiction | (exfalso; omega) | rfl; done) | (cases m <;> simp only [evO] <;> (repeat' split) <;> first | contradiction | (exfalso; omega) | rfl | (simp_all; done))) (by first | (simp only [evO]; (repeat' split) <;> first | contradiction | (exfalso; omega) | with_reducible rfl; done) | (cases m <;> simp only [evO] <;> (repeat' split) <;> first | contradiction | (exfalso; omega) | with_reducible rfl | (simp_all; done)))
      · refine A_iconst dX0_one_60 ?_
        refine A_aload_n dX0_one_61 rfl 2 rfl ?_
        refine A_getr fl_X0_15 lk_50 rfl dX0_one_62 ?_
        refine A_getr fl_X0_43 lk_9 rfl dX0_one_65 ?_
        refine A_geti fl_X0_68 lk_12 rfl dX0_one_68 ?_
        try simp (disch := omega) only [up_k, up_j, up_s, KC_stE, VC_stE, stE_1, stE_3, stE_12, stE_u, dnC_stE]
        refine A_ishl dX0_one_71 ?_
        refine A_iconst dX0_one_72 ?_
        refine A_isub dX0_one_73 ?_
        refine A_aload_n dX0_one_74 rfl 2 rfl ?_
        refine A_iload_n dX0_one_75 rfl 3 rfl ?_
        refine A_iconst dX0_one_76 ?_
        refine A_iadd dX0_one_77 ?_
        refine A_Va1 mv_X0_58 lk_50 rfl rfl (e1 _ _ (by omega)) (Nat.le_of_ble_eq_true rfl) (by omega) (by omega) dX0_one_78 ?_
        try simp only [KC_stE, VC_stE, stE_1, stE_3, stE_12, stE_u, dnC_stE]
        refine A_iconst dX0_one_81 ?_
        refine A_ixor dX0_one_82 ?_
        refine A_iand dX0_one_83 ?_
        exact A_iret dX0_one_84 (by first | (simp only [evO]; (repeat' split) <;> first | contradiction | (exfalso; omega) | rfl; done) | (cases m <;> simp only [evO] <;> (repeat' split) <;> first | contradiction | (exfalso; omega) | rfl | (simp_all; done))) (by first | (simp only [evO]; (repeat' split) <;> first | contradiction | (exfalso; omega) | with_reducible rfl; done) | (cases m <;> simp only [evO] <;> (repeat' split) <;> first | contradiction | (exfalso; omega) | with_reducible rfl | (simp_all; done)))
    · obtain rfl : m = 0 := by omega
      refine A_iconst dX0_one_52 ?_
      exact A_iret dX0_one_53 (by first | (simp only [evO]; (repeat' split) <;> first | contradiction | (exfalso; omega) | rfl; done) | (cases m <;> simp only [evO] <;> (repeat' split) <;> first | contradiction | (exfalso; omega) | rfl | (simp_all; done))) (by first | (simp only [evO]; (repeat' split) <;> first | contradiction | (exfalso; omega) | with_reducible rfl; done) | (cases m <;> simp only [evO] <;> (repeat' split) <;> first | contradiction | (exfalso; omega) | with_reducible rfl | (simp_all; done)))
  · refine A_aload_n dX0_one_40 rfl 2 rfl ?_
    refine A_lload_n dX0_one_41 rfl 0 rfl ?_
    refine A_Va1 mv_X0_65 lk_50 rfl rfl (c_X0_dishesNamed _ _) (Nat.le_of_ble_eq_true rfl) (by omega) (by omega) dX0_one_42 ?_
    try simp only [KC_stE, VC_stE, stE_1, stE_3, stE_12, stE_u, dnC_stE]
    exact A_iret dX0_one_45 (by first | (simp only [evO]; (repeat' split) <;> first | contradiction | (exfalso; omega) | rfl; done) | (cases m <;> simp only [evO] <;> (repeat' split) <;> first | contradiction | (exfalso; omega) | rfl | (simp_all; done))) (by first | (simp only [evO]; (repeat' split) <;> first | contradiction | (exfalso; omega) | with_reducible rfl; done) | (cases m <;> simp only [evO] <;> (repeat' split) <;> first | contradiction | (exfalso; omega) | with_reducible rfl | (simp_all; done)))
theorem c_X0_oneex (σ : Sg) : ∀ m : Nat, m ≤ 8 → (∀ (a dp : Int), dp + m = 8 → Ct l G yX0_one cX0_one 6 (some .int) (4 + 2 * m) 0 0 [.ref (lay G 50), .int (I32 dp)] (stE σ a) (some (.int (I32 (evO σ m a).1))) (stE σ (evO σ m a).2)) ∧ (∀ (a dp : Int), dp + m = 8 → Ct l G yX0_expression cX0_expression 6 (some .int) (5 + 2 * m) 0 0 [.ref (lay G 50), .int (I32 dp)] (stE σ a) (some (.int (I32 (evE (KC σ) (evO σ m) a).1))) (stE σ (evE (KC σ) (evO σ m) a).2)) := by
  intro m
  induction m with
  | zero =>
    intro h8
    have h1 : ∀ (a dp : Int), dp + 0 = 8 → Ct l G yX0_one cX0_one 6 (some .int) (4 + 2 * 0) 0 0 [.ref (lay G 50), .int (I32 dp)] (stE σ a) (some (.int (I32 (evO σ 0 a).1))) (stE σ (evO σ 0 a).2) := fun a dp h => w_X0_one σ 0 a dp h h8 (fun q hq => by omega) (fun q hq => by omega)
    exact ⟨h1, fun a dp h => w_X0_ex σ 0 a dp h h1⟩
  | succ m ih =>
    intro h8
    have ih := ih (by omega)
    have h1 : ∀ (a dp : Int), dp + ((m + 1 : Nat) : Int) = 8 → Ct l G yX0_one cX0_one 6 (some .int) (4 + 2 * (m + 1)) 0 0 [.ref (lay G 50), .int (I32 dp)] (stE σ a) (some (.int (I32 (evO σ (m + 1) a).1))) (stE σ (evO σ (m + 1) a).2) := fun a dp h => w_X0_one σ (m + 1) a dp h h8 (fun q hq => by cases hq; exact ih.1) (fun q hq => by cases hq; exact ih.2)
    exact ⟨h1, fun a dp h => w_X0_ex σ (m + 1) a dp h h1⟩
theorem c_X0_expr0 (σ : Sg) (a : Int) : Ct l G yX0_expression cX0_expression 6 (some .int) 21 0 0 [.ref (lay G 50), .int (I32 0)] (stE σ a) (some (.int (I32 (evE (KC σ) (evO σ 8) a).1))) (stE σ (evE (KC σ) (evO σ 8) a).2) := (c_X0_oneex (l := l) (G := G) σ 8 (by omega)).2 a 0 (by omega)
/-- suiting(first, ahead) -/
def suS (σ : Sg) (t ah : Int) : Sg := stE (up σ 50 3 ah) (evE (KC σ) (evO (up σ 50 3 ah) 8) t).2
def suV (σ : Sg) (t ah : Int) : Int := (evE (KC σ) (evO (up σ 50 3 ah) 8) t).1
set_option maxRecDepth 100000 in
set_option maxHeartbeats 4000000 in
theorem c_X0_suiting (σ : Sg) (t ah : Int)  : Ct l G yX0_suiting cX0_suiting 3 (some .int) 22 0 0 [.ref (lay G 50), .int (I32 t), .int (I32 ah)] σ (some (.int (I32 (suV σ t ah)))) (suS σ t ah) := by
  refine Ct.of (by decide +kernel) (Nat.le_of_ble_eq_true rfl) (fun f => ?_)
  show AW _ _ _ _ _ _ _ _ _ _ [(0, _), (1, _), (2, _)] _ _
  refine A_aload_n dX0_suiting_0 rfl 0 rfl ?_
  refine A_iload_n dX0_suiting_1 rfl 1 rfl ?_
  refine A_puti fl_X0_23 lk_50 rfl dX0_suiting_2 ?_
  refine A_aload_n dX0_suiting_5 rfl 0 rfl ?_
  refine A_iload_n dX0_suiting_6 rfl 2 rfl ?_
  refine A_puti fl_X0_27 lk_50 rfl dX0_suiting_7 ?_
  rw [show up (up σ 50 2 t) 50 3 ah = stE (up σ 50 3 ah) t from up_swap σ t ah (by decide)]
  refine A_aload_n dX0_suiting_10 rfl 0 rfl ?_
  refine A_iconst dX0_suiting_11 ?_
  refine A_Va1 mv_X0_30 lk_50 rfl rfl (c_X0_expr0 (up σ 50 3 ah) t) (Nat.le_of_ble_eq_true rfl) (by omega) (by omega) dX0_suiting_12 ?_
  exact A_iret dX0_suiting_15 (by rfl) (by rfl)
end S15
