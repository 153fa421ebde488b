/-! RuleRow, Program, ChoiceReader -/
section S12
variable {l : Launch} {G : Gx}
section JLS
variable {f : Fm} {own : String} {cc : ByteArray} {nL : Nat} {rt : Option FieldType} {b : Nat × Nat × Nat} {Q : State → Prop} {xs : va_W} {k n pc : Nat} {lv : List (Nat × Value)} {rest : List Value} {σ : Sg}
theorem J_ls {dflt off : Int} {ps : Array (Int × Int)} {psl : List (Int × Int)} {len tgt : Nat} {x z : Int} (d : decode cc pc = .ok (.lookupswitch dflt ps, len)) (hps : ps.toList = psl) (hp : (psl.zip (psl.drop 1)).all (fun (a, next) => a.1 < next.1) = true) (e : i32 x = z) (ho : Op.lookupswitch.offset psl dflt z = off) (ht : (pc : Int) + off = (tgt : Int)) (g : AW l G f (own, cc, nL, rt) b Q xs k n tgt lv rest σ) : AW l G f (own, cc, nL, rt) b Q xs k n pc lv (.int (I32 x) :: rest) σ := fun ok H locs ls hl hP hD hS => by
  subst e; subst hps
  exact lv_lookup ok.1 ok.2.1 d hp ho ht (g ok H locs ls hl hP hD hS)
end JLS
/-- a loop that counts up -/
def fW {α : Type} (sz : Int) (g : Int → α → α) : Nat → Int → α → α
  | 0, _, a => a
  | n + 1, i, a => if i < sz then fW sz g n (i + 1) (g i a) else a
theorem fW_s {α : Type} (sz : Int) (g : Int → α → α) (n : Nat) (i : Int) (a : α) : fW sz g (n + 1) i a = if i < sz then fW sz g n (i + 1) (g i a) else a := rfl
def rHas (σ : Sg) (i : Int) : Bool := decide (0 ≤ i32 i ∧ i32 i < i32 (σ 18 4) ∧ i32 i < 8)
def rFact (σ : Sg) (i w : Int) : Int := if 0 ≤ i32 i ∧ i32 i < i32 (σ 18 4) ∧ i32 i < 8 then (if i32 w = 0 then σ 19 (i32 i).toNat else if i32 w = 1 then σ 20 (i32 i).toNat else if i32 w = 2 then σ 21 (i32 i).toNat else σ 22 (i32 i).toNat) else 0
def clrC (σ : Sg) : Sg := up (up (up (up (up (up σ 10 2 0) 12 2 0) 14 2 0) 16 2 0) 18 4 0) 9 16 0
def hasCh (σ : Sg) (i : Int) : Bool := decide (0 ≤ i32 i ∧ i32 i < i32 (σ 9 16) ∧ i32 i < 8)
def namedC (σ : Sg) (v : Int) : Bool := decide (¬ idxC σ 10 v = -1 ∨ ¬ idxC σ 12 v = -1 ∨ ¬ idxC σ 14 v = -1)
def suitC (σ : Sg) (c d : Int) : Bool := decide (hasCh σ c = true ∧ hasC σ 12 d = true ∧ i32 (iand (ishr (σ 33 (i32 c).toNat) d) 1) = 1)
def dwtG (σ : Sg) (tag d set : Int) : Int := if 0 ≤ i32 tag ∧ i32 (iand (ishr (σ 29 d.toNat) tag) 1) = 1 then ior set (ishl 1 d) else set
def dwtC (σ : Sg) (tag : Int) : Int := fW (min (i32 (σ 12 2)) 16) (dwtG σ tag) 16 0 0
def fFact (σ : Sg) (i w : Int) : Int := if hasC σ 10 i = true then (if i32 w = 0 then σ 23 (i32 i).toNat else if i32 w = 1 then σ 24 (i32 i).toNat else σ 25 (i32 i).toNat) else 0
def dFact (σ : Sg) (i w : Int) : Int := if hasC σ 12 i = true then (if i32 w = 0 then σ 26 (i32 i).toNat else if i32 w = 1 then σ 27 (i32 i).toNat else if i32 w = 2 then σ 28 (i32 i).toNat else if i32 w = 3 then σ 29 (i32 i).toNat else σ 30 (i32 i).toNat) else 0
def grC (σ : Sg) (d i : Int) : Int := if hasC σ 12 d = true ∧ hasC σ 10 i = true then σ (34 + (i32 d).toNat) (i32 i).toNat else 0
def gfC (σ : Sg) (m d i : Int) : Int := if i32 d < 0 ∨ 16 ≤ i32 d ∨ i32 i < 0 ∨ 16 ≤ i32 i ∨ i32 (σ 26 (i32 d).toNat) < 1 then 0 else (i64 (i32 m * i32 (σ (34 + (i32 d).toNat) (i32 i).toNat))).tdiv (i32 (σ 26 (i32 d).toNat))
theorem hasC_t {σ : Sg} {k : Nat} {i : Int} (h : hasC σ k i = true) : 0 ≤ i32 i ∧ i32 i < i32 (σ k 2) ∧ i32 i < 16 := of_decide_eq_true h
theorem hasCh_t {σ : Sg} {i : Int} (h : hasCh σ i = true) : 0 ≤ i32 i ∧ i32 i < i32 (σ 9 16) ∧ i32 i < 8 := of_decide_eq_true h
theorem rHas_t {σ : Sg} {i : Int} (h : rHas σ i = true) : 0 ≤ i32 i ∧ i32 i < i32 (σ 18 4) ∧ i32 i < 8 := of_decide_eq_true h
theorem idxF_inr (σ : Sg) (k : Nat) (v : Int) : ∀ (n : Nat) (i : Int), 0 ≤ i → i + n = 16 → -1 ≤ idxF σ k v n i ∧ idxF σ k v n i < 16 := by
  intro n
  induction n with
  | zero => intro i h0 hn; simp only [idxF]; omega
  | succ n ih =>
    intro i h0 hn
    simp only [idxF]
    split
    · split
      · omega
      · exact ih (i + 1) (by omega) (by omega)
    · omega
theorem idxC_in (σ : Sg) (k : Nat) (v : Int) : -1 ≤ idxC σ k v ∧ idxC σ k v < 16 := idxF_inr σ k v 16 0 (by omega) (by omega)
theorem idxC_i32 (σ : Sg) (k : Nat) (v : Int) : i32 (idxC σ k v) = idxC σ k v := by
  have h := idxC_in σ k v
  exact i32_eq ⟨by omega, by omega⟩
set_option maxRecDepth 100000 in
set_option maxHeartbeats 4000000 in
theorem c_X7_has (σ : Sg) (i : Int)  : Ct l G yX7_has cX7_has 2 (some .boolean) 0 0 0 [.ref (lay G 18), .int (I32 i)] σ (some (.int (I32 (b2i (rHas σ i))))) (σ) := by
  refine Ct.of (by decide +kernel) (Nat.le_of_ble_eq_true rfl) (fun f => ?_)
  show AW _ _ _ _ _ _ _ _ _ _ [(0, _), (1, _)] _ _
  refine A_iload_n dX7_has_0 rfl 1 rfl ?_
  refine J_if_lt (tgt := 22) dX7_has_1 (by decide) (by first | exact i32_eq (by assumption) | exact i32_eq ⟨by omega, by omega⟩ | with_reducible exact i32_i32 _ | with_reducible exact i32_eq (b2i_inr _) | rfl) (fun h1 => ?_) (fun h1 => ?_)
  · refine A_iconst dX7_has_22 ?_
    exact A_zret2 dX7_has_23 (by decide) (by simp only [rHas]; first | (rw [decide_eq_true (by omega), b2i_t]; done) | (rw [decide_eq_false (by omega), b2i_f]; done)) (by rfl)
  · refine A_iload_n dX7_has_4 rfl 1 rfl ?_
    refine A_aload_n dX7_has_5 rfl 0 rfl ?_
    refine A_geti fl_X7_24 lk_18 rfl dX7_has_6 ?_
    refine J_icmp_ge (tgt := 22) dX7_has_9 (by decide) (by first | exact i32_eq (by assumption) | exact i32_eq ⟨by omega, by omega⟩ | with_reducible exact i32_i32 _ | with_reducible exact i32_eq (b2i_inr _) | rfl) (by first | exact i32_eq (by assumption) | exact i32_eq ⟨by omega, by omega⟩ | with_reducible exact i32_i32 _ | with_reducible exact i32_eq (b2i_inr _) | rfl) (fun h9 => ?_) (fun h9 => ?_)
    · refine A_iconst dX7_has_22 ?_
      exact A_zret2 dX7_has_23 (by decide) (by simp only [rHas]; first | (rw [decide_eq_true (by omega), b2i_t]; done) | (rw [decide_eq_false (by omega), b2i_f]; done)) (by rfl)
    · refine A_iload_n dX7_has_12 rfl 1 rfl ?_
      refine A_bipush dX7_has_13 (by decide +kernel) ?_
      refine J_icmp_ge (tgt := 22) dX7_has_15 (by decide) (by first | exact i32_eq (by assumption) | exact i32_eq ⟨by omega, by omega⟩ | with_reducible exact i32_i32 _ | with_reducible exact i32_eq (b2i_inr _) | rfl) (by first | exact i32_eq (by assumption) | exact i32_eq ⟨by omega, by omega⟩ | with_reducible exact i32_i32 _ | with_reducible exact i32_eq (b2i_inr _) | rfl) (fun h15 => ?_) (fun h15 => ?_)
      · refine A_iconst dX7_has_22 ?_
        exact A_zret2 dX7_has_23 (by decide) (by simp only [rHas]; first | (rw [decide_eq_true (by omega), b2i_t]; done) | (rw [decide_eq_false (by omega), b2i_f]; done)) (by rfl)
      · refine A_iconst dX7_has_18 ?_
        refine A_goto (tgt := 23) dX7_has_19 (by decide) ?_
        exact A_zret2 dX7_has_23 (by decide) (by simp only [rHas]; first | (rw [decide_eq_true (by omega), b2i_t]; done) | (rw [decide_eq_false (by omega), b2i_f]; done)) (by rfl)
set_option maxRecDepth 100000 in
set_option maxHeartbeats 4000000 in
theorem c_X7_fact (σ : Sg) (i w : Int)  : Ct l G yX7_fact cX7_fact 3 (some .int) 1 0 0 [.ref (lay G 18), .int (I32 i), .int (I32 w)] σ (some (.int (I32 (rFact σ i w)))) (σ) := by
  refine Ct.of (by decide +kernel) (Nat.le_of_ble_eq_true rfl) (fun f => ?_)
  show AW _ _ _ _ _ _ _ _ _ _ [(0, _), (1, _), (2, _)] _ _
  refine A_aload_n dX7_fact_0 rfl 0 rfl ?_
  refine A_iload_n dX7_fact_1 rfl 1 rfl ?_
  refine A_Va1 mv_X7_28 lk_18 rfl rfl (c_X7_has _ _) (Nat.le_of_ble_eq_true rfl) (by omega) (by omega) dX7_fact_2 ?_
  refine A_ifne_b (tgt := 10) dX7_fact_5 (by decide) (fun h5 => ?_) (fun h5 => ?_)
  · have hh := rHas_t h5
    refine A_iload_n dX7_fact_10 rfl 2 rfl ?_
    by_cases h11_0 : i32 (w) = 0
    · refine J_tsIn (tgt := 36) dX7_fact_11 h11_0 ⟨by decide, by decide⟩ (by decide) (by decide) rfl (by decide) ?_
      refine A_aload_n dX7_fact_36 rfl 0 rfl ?_
      refine A_getr fl_X7_9 lk_18 rfl dX7_fact_37 ?_
      refine A_iload_n dX7_fact_40 rfl 1 rfl ?_
      refine J_iald lk_19 (by first | exact i32_eq (by assumption) | exact i32_eq ⟨by omega, by omega⟩ | with_reducible exact i32_i32 _ | with_reducible exact i32_eq (b2i_inr _) | rfl) (by omega) (by omega) (by decide) dX7_fact_41 ?_
      try simp (disch := omega) only [up_k, up_j, up_s]
      exact A_iret dX7_fact_42 (by simp only [rFact]; (repeat' split) <;> first | rfl | contradiction | (exfalso; omega) | (simp only [I32_i32, I64_i64]; done)) (by rfl)
    by_cases h11_1 : i32 (w) = 1
    · refine J_tsIn (tgt := 43) dX7_fact_11 h11_1 ⟨by decide, by decide⟩ (by decide) (by decide) rfl (by decide) ?_
      refine A_aload_n dX7_fact_43 rfl 0 rfl ?_
      refine A_getr fl_X7_15 lk_18 rfl dX7_fact_44 ?_
      refine A_iload_n dX7_fact_47 rfl 1 rfl ?_
      refine J_iald lk_20 (by first | exact i32_eq (by assumption) | exact i32_eq ⟨by omega, by omega⟩ | with_reducible exact i32_i32 _ | with_reducible exact i32_eq (b2i_inr _) | rfl) (by omega) (by omega) (by decide) dX7_fact_48 ?_
      try simp (disch := omega) only [up_k, up_j, up_s]
      exact A_iret dX7_fact_49 (by simp only [rFact]; (repeat' split) <;> first | rfl | contradiction | (exfalso; omega) | (simp only [I32_i32, I64_i64]; done)) (by rfl)
    by_cases h11_2 : i32 (w) = 2
    · refine J_tsIn (tgt := 50) dX7_fact_11 h11_2 ⟨by decide, by decide⟩ (by decide) (by decide) rfl (by decide) ?_
      refine A_aload_n dX7_fact_50 rfl 0 rfl ?_
      refine A_getr fl_X7_18 lk_18 rfl dX7_fact_51 ?_
      refine A_iload_n dX7_fact_54 rfl 1 rfl ?_
      refine J_iald lk_21 (by first | exact i32_eq (by assumption) | exact i32_eq ⟨by omega, by omega⟩ | with_reducible exact i32_i32 _ | with_reducible exact i32_eq (b2i_inr _) | rfl) (by omega) (by omega) (by decide) dX7_fact_55 ?_
      try simp (disch := omega) only [up_k, up_j, up_s]
      exact A_iret dX7_fact_56 (by simp only [rFact]; (repeat' split) <;> first | rfl | contradiction | (exfalso; omega) | (simp only [I32_i32, I64_i64]; done)) (by rfl)
    refine J_tsOut (tgt := 57) dX7_fact_11 (by omega) (by decide) ?_
    refine A_aload_n dX7_fact_57 rfl 0 rfl ?_
    refine A_getr fl_X7_21 lk_18 rfl dX7_fact_58 ?_
    refine A_iload_n dX7_fact_61 rfl 1 rfl ?_
    refine J_iald lk_22 (by first | exact i32_eq (by assumption) | exact i32_eq ⟨by omega, by omega⟩ | with_reducible exact i32_i32 _ | with_reducible exact i32_eq (b2i_inr _) | rfl) (by omega) (by omega) (by decide) dX7_fact_62 ?_
    try simp (disch := omega) only [up_k, up_j, up_s]
    exact A_iret dX7_fact_63 (by simp only [rFact]; (repeat' split) <;> first | rfl | contradiction | (exfalso; omega) | (simp only [I32_i32, I64_i64]; done)) (by rfl)
  · have hh : ¬ (0 ≤ i32 i ∧ i32 i < i32 (σ 18 4) ∧ i32 i < 8) := of_decide_eq_false h5
    refine A_iconst dX7_fact_8 ?_
    exact A_iret dX7_fact_9 (by simp only [rFact]; (repeat' split) <;> first | rfl | contradiction | (exfalso; omega) | (simp only [I32_i32, I64_i64]; done)) (by rfl)
set_option maxRecDepth 100000 in
set_option maxHeartbeats 4000000 in
theorem c_X6_clear (σ : Sg)  : Ct l G yX6_clear cX6_clear 1 none 0 0 0 [.ref (lay G 9)] σ (none) (clrC σ) := by
  refine Ct.of (by decide +kernel) (Nat.le_of_ble_eq_true rfl) (fun f => ?_)
  show AW _ _ _ _ _ _ _ _ _ _ [(0, _)] _ _
  refine A_aload_n dX6_clear_0 rfl 0 rfl ?_
  refine A_getr fl_X6_14 lk_9 rfl dX6_clear_1 ?_
  refine A_iconst dX6_clear_4 ?_
  refine A_puti fl_X6_72 lk_10 rfl dX6_clear_5 ?_
  refine A_aload_n dX6_clear_8 rfl 0 rfl ?_
  refine A_getr fl_X6_20 lk_9 rfl dX6_clear_9 ?_
  refine A_iconst dX6_clear_12 ?_
  refine A_puti fl_X6_72 lk_12 rfl dX6_clear_13 ?_
  refine A_aload_n dX6_clear_16 rfl 0 rfl ?_
  refine A_getr fl_X6_23 lk_9 rfl dX6_clear_17 ?_
  refine A_iconst dX6_clear_20 ?_
  refine A_puti fl_X6_72 lk_14 rfl dX6_clear_21 ?_
  refine A_aload_n dX6_clear_24 rfl 0 rfl ?_
  refine A_getr fl_X6_26 lk_9 rfl dX6_clear_25 ?_
  refine A_iconst dX6_clear_28 ?_
  refine A_puti fl_X6_72 lk_16 rfl dX6_clear_29 ?_
  refine A_aload_n dX6_clear_32 rfl 0 rfl ?_
  refine A_getr fl_X6_32 lk_9 rfl dX6_clear_33 ?_
  refine A_iconst dX6_clear_36 ?_
  refine A_puti fl_X6_76 lk_18 rfl dX6_clear_37 ?_
  refine A_aload_n dX6_clear_40 rfl 0 rfl ?_
  refine A_iconst dX6_clear_41 ?_
  refine A_puti fl_X6_77 lk_9 rfl dX6_clear_42 ?_
  exact A_vret dX6_clear_45 (by rfl) (by rfl)
set_option maxRecDepth 100000 in
set_option maxHeartbeats 4000000 in
theorem c_X6_hasChoice (σ : Sg) (i : Int)  : Ct l G yX6_hasChoice cX6_hasChoice 2 (some .boolean) 0 0 0 [.ref (lay G 9), .int (I32 i)] σ (some (.int (I32 (b2i (hasCh σ i))))) (σ) := by
  refine Ct.of (by decide +kernel) (Nat.le_of_ble_eq_true rfl) (fun f => ?_)
  show AW _ _ _ _ _ _ _ _ _ _ [(0, _), (1, _)] _ _
  refine A_iload_n dX6_hasChoice_0 rfl 1 rfl ?_
  refine J_if_lt (tgt := 22) dX6_hasChoice_1 (by decide) (by first | exact i32_eq (by assumption) | exact i32_eq ⟨by omega, by omega⟩ | with_reducible exact i32_i32 _ | with_reducible exact i32_eq (b2i_inr _) | rfl) (fun h1 => ?_) (fun h1 => ?_)
  · refine A_iconst dX6_hasChoice_22 ?_
    exact A_zret2 dX6_hasChoice_23 (by decide) (by simp only [hasCh]; first | (rw [decide_eq_true (by omega), b2i_t]; done) | (rw [decide_eq_false (by omega), b2i_f]; done)) (by rfl)
  · refine A_iload_n dX6_hasChoice_4 rfl 1 rfl ?_
    refine A_aload_n dX6_hasChoice_5 rfl 0 rfl ?_
    refine A_geti fl_X6_77 lk_9 rfl dX6_hasChoice_6 ?_
    refine J_icmp_ge (tgt := 22) dX6_hasChoice_9 (by decide) (by first | exact i32_eq (by assumption) | exact i32_eq ⟨by omega, by omega⟩ | with_reducible exact i32_i32 _ | with_reducible exact i32_eq (b2i_inr _) | rfl) (by first | exact i32_eq (by assumption) | exact i32_eq ⟨by omega, by omega⟩ | with_reducible exact i32_i32 _ | with_reducible exact i32_eq (b2i_inr _) | rfl) (fun h9 => ?_) (fun h9 => ?_)
    · refine A_iconst dX6_hasChoice_22 ?_
      exact A_zret2 dX6_hasChoice_23 (by decide) (by simp only [hasCh]; first | (rw [decide_eq_true (by omega), b2i_t]; done) | (rw [decide_eq_false (by omega), b2i_f]; done)) (by rfl)
    · refine A_iload_n dX6_hasChoice_12 rfl 1 rfl ?_
      refine A_bipush dX6_hasChoice_13 (by decide +kernel) ?_
      refine J_icmp_ge (tgt := 22) dX6_hasChoice_15 (by decide) (by first | exact i32_eq (by assumption) | exact i32_eq ⟨by omega, by omega⟩ | with_reducible exact i32_i32 _ | with_reducible exact i32_eq (b2i_inr _) | rfl) (by first | exact i32_eq (by assumption) | exact i32_eq ⟨by omega, by omega⟩ | with_reducible exact i32_i32 _ | with_reducible exact i32_eq (b2i_inr _) | rfl) (fun h15 => ?_) (fun h15 => ?_)
      · refine A_iconst dX6_hasChoice_22 ?_
        exact A_zret2 dX6_hasChoice_23 (by decide) (by simp only [hasCh]; first | (rw [decide_eq_true (by omega), b2i_t]; done) | (rw [decide_eq_false (by omega), b2i_f]; done)) (by rfl)
      · refine A_iconst dX6_hasChoice_18 ?_
        refine A_goto (tgt := 23) dX6_hasChoice_19 (by decide) ?_
        exact A_zret2 dX6_hasChoice_23 (by decide) (by simp only [hasCh]; first | (rw [decide_eq_true (by omega), b2i_t]; done) | (rw [decide_eq_false (by omega), b2i_f]; done)) (by rfl)
set_option maxRecDepth 100000 in
set_option maxHeartbeats 4000000 in
theorem c_X6_isNamed (σ : Sg) (v : Int)  : Ct l G yX6_isNamed cX6_isNamed 3 (some .boolean) 2 0 0 [.ref (lay G 9), .long (I64 v)] σ (some (.int (I32 (b2i (namedC σ v))))) (σ) := by
  refine Ct.of (by decide +kernel) (Nat.le_of_ble_eq_true rfl) (fun f => ?_)
  show AW _ _ _ _ _ _ _ _ _ _ [(0, _), (1, _)] _ _
  refine A_aload_n dX6_isNamed_0 rfl 0 rfl ?_
  refine A_getr fl_X6_14 lk_9 rfl dX6_isNamed_1 ?_
  refine A_lload_n dX6_isNamed_4 rfl 1 rfl ?_
  refine A_Va1 mv_X6_80 lk_10 rfl rfl (c_X4_indexOf_10 _ _) (Nat.le_of_ble_eq_true rfl) (by omega) (by omega) dX6_isNamed_5 ?_
  refine A_iconst dX6_isNamed_8 ?_
  refine J_icmp_ne (tgt := 36) dX6_isNamed_9 (by decide) (by first | exact idxC_i32 _ _ _ | exact i32_eq (by assumption) | exact i32_eq ⟨by omega, by omega⟩ | with_reducible exact i32_i32 _ | rfl) (by first | exact idxC_i32 _ _ _ | exact i32_eq (by assumption) | exact i32_eq ⟨by omega, by omega⟩ | with_reducible exact i32_i32 _ | rfl) (fun h9 => ?_) (fun h9 => ?_)
  · refine A_iconst dX6_isNamed_36 ?_
    refine A_goto (tgt := 41) dX6_isNamed_37 (by decide) ?_
    exact A_zret2 dX6_isNamed_41 (by decide) (by simp only [namedC]; first | (rw [decide_eq_true (by omega), b2i_t]; done) | (rw [decide_eq_false (by omega), b2i_f]; done)) (by rfl)
  · refine A_aload_n dX6_isNamed_12 rfl 0 rfl ?_
    refine A_getr fl_X6_20 lk_9 rfl dX6_isNamed_13 ?_
    refine A_lload_n dX6_isNamed_16 rfl 1 rfl ?_
    refine A_Va1 mv_X6_80 lk_12 rfl rfl (c_X4_indexOf_12 _ _) (Nat.le_of_ble_eq_true rfl) (by omega) (by omega) dX6_isNamed_17 ?_
    refine A_iconst dX6_isNamed_20 ?_
    refine J_icmp_ne (tgt := 36) dX6_isNamed_21 (by decide) (by first | exact idxC_i32 _ _ _ | exact i32_eq (by assumption) | exact i32_eq ⟨by omega, by omega⟩ | with_reducible exact i32_i32 _ | rfl) (by first | exact idxC_i32 _ _ _ | exact i32_eq (by assumption) | exact i32_eq ⟨by omega, by omega⟩ | with_reducible exact i32_i32 _ | rfl) (fun h21 => ?_) (fun h21 => ?_)
    · refine A_iconst dX6_isNamed_36 ?_
      refine A_goto (tgt := 41) dX6_isNamed_37 (by decide) ?_
      exact A_zret2 dX6_isNamed_41 (by decide) (by simp only [namedC]; first | (rw [decide_eq_true (by omega), b2i_t]; done) | (rw [decide_eq_false (by omega), b2i_f]; done)) (by rfl)
    · refine A_aload_n dX6_isNamed_24 rfl 0 rfl ?_
      refine A_getr fl_X6_23 lk_9 rfl dX6_isNamed_25 ?_
      refine A_lload_n dX6_isNamed_28 rfl 1 rfl ?_
      refine A_Va1 mv_X6_80 lk_14 rfl rfl (c_X4_indexOf_14 _ _) (Nat.le_of_ble_eq_true rfl) (by omega) (by omega) dX6_isNamed_29 ?_
      refine A_iconst dX6_isNamed_32 ?_
      refine J_icmp_eq (tgt := 40) dX6_isNamed_33 (by decide) (by first | exact idxC_i32 _ _ _ | exact i32_eq (by assumption) | exact i32_eq ⟨by omega, by omega⟩ | with_reducible exact i32_i32 _ | rfl) (by first | exact idxC_i32 _ _ _ | exact i32_eq (by assumption) | exact i32_eq ⟨by omega, by omega⟩ | with_reducible exact i32_i32 _ | rfl) (fun h33 => ?_) (fun h33 => ?_)
      · refine A_iconst dX6_isNamed_40 ?_
        exact A_zret2 dX6_isNamed_41 (by decide) (by simp only [namedC]; first | (rw [decide_eq_true (by omega), b2i_t]; done) | (rw [decide_eq_false (by omega), b2i_f]; done)) (by rfl)
      · refine A_iconst dX6_isNamed_36 ?_
        refine A_goto (tgt := 41) dX6_isNamed_37 (by decide) ?_
        exact A_zret2 dX6_isNamed_41 (by decide) (by simp only [namedC]; first | (rw [decide_eq_true (by omega), b2i_t]; done) | (rw [decide_eq_false (by omega), b2i_f]; done)) (by rfl)
set_option maxRecDepth 100000 in
set_option maxHeartbeats 4000000 in
theorem c_X6_isSuiting (σ : Sg) (c d : Int)  : Ct l G yX6_isSuiting cX6_isSuiting 3 (some .boolean) 1 0 0 [.ref (lay G 9), .int (I32 c), .int (I32 d)] σ (some (.int (I32 (b2i (suitC σ c d))))) (σ) := by
  refine Ct.of (by decide +kernel) (Nat.le_of_ble_eq_true rfl) (fun f => ?_)
  show AW _ _ _ _ _ _ _ _ _ _ [(0, _), (1, _), (2, _)] _ _
  refine A_aload_n dX6_isSuiting_0 rfl 0 rfl ?_
  refine A_iload_n dX6_isSuiting_1 rfl 1 rfl ?_
  refine A_Va1 mv_X6_84 lk_9 rfl rfl (c_X6_hasChoice _ _) (Nat.le_of_ble_eq_true rfl) (by omega) (by omega) dX6_isSuiting_2 ?_
  refine A_ifeq_b (tgt := 37) dX6_isSuiting_5 (by decide) (fun h5 => ?_) (fun h5 => ?_)
  · refine A_iconst dX6_isSuiting_37 ?_
    exact A_zret2 dX6_isSuiting_38 (by decide) (by simp only [suitC]; first | (rw [decide_eq_true (by simp_all), b2i_t]; done) | (rw [decide_eq_false (by simp_all), b2i_f]; done)) (by rfl)
  · have hh := hasCh_t h5
    refine A_aload_n dX6_isSuiting_8 rfl 0 rfl ?_
    refine A_getr fl_X6_20 lk_9 rfl dX6_isSuiting_9 ?_
    refine A_iload_n dX6_isSuiting_12 rfl 2 rfl ?_
    refine A_Va1 mv_X6_88 lk_12 rfl rfl (c_X4_has_12 _ _) (Nat.le_of_ble_eq_true rfl) (by omega) (by omega) dX6_isSuiting_13 ?_
    refine A_ifeq_b (tgt := 37) dX6_isSuiting_16 (by decide) (fun h16 => ?_) (fun h16 => ?_)
    · refine A_iconst dX6_isSuiting_37 ?_
      exact A_zret2 dX6_isSuiting_38 (by decide) (by simp only [suitC]; first | (rw [decide_eq_true (by simp_all), b2i_t]; done) | (rw [decide_eq_false (by simp_all), b2i_f]; done)) (by rfl)
    · refine A_aload_n dX6_isSuiting_19 rfl 0 rfl ?_
      refine A_getr fl_X6_69 lk_9 rfl dX6_isSuiting_20 ?_
      refine A_iload_n dX6_isSuiting_23 rfl 1 rfl ?_
      refine J_iald lk_33 (by first | exact i32_eq (by assumption) | exact i32_eq ⟨by omega, by omega⟩ | with_reducible exact i32_i32 _ | with_reducible exact i32_eq (b2i_inr _) | rfl) (by omega) (by omega) (by decide) dX6_isSuiting_24 ?_
      try simp (disch := omega) only [up_k, up_j, up_s]
      refine A_iload_n dX6_isSuiting_25 rfl 2 rfl ?_
      refine A_ishr dX6_isSuiting_26 ?_
      refine A_iconst dX6_isSuiting_27 ?_
      refine A_iand dX6_isSuiting_28 ?_
      refine A_iconst dX6_isSuiting_29 ?_
      refine J_icmp_ne (tgt := 37) dX6_isSuiting_30 (by decide) (by first | exact i32_eq (by assumption) | exact i32_eq ⟨by omega, by omega⟩ | with_reducible exact i32_i32 _ | with_reducible exact i32_eq (b2i_inr _) | rfl) (by first | exact i32_eq (by assumption) | exact i32_eq ⟨by omega, by omega⟩ | with_reducible exact i32_i32 _ | with_reducible exact i32_eq (b2i_inr _) | rfl) (fun h30 => ?_) (fun h30 => ?_)
      · refine A_iconst dX6_isSuiting_37 ?_
        exact A_zret2 dX6_isSuiting_38 (by decide) (by simp only [suitC]; first | (rw [decide_eq_true (by simp_all), b2i_t]; done) | (rw [decide_eq_false (by simp_all), b2i_f]; done)) (by rfl)
      · refine A_iconst dX6_isSuiting_33 ?_
        refine A_goto (tgt := 38) dX6_isSuiting_34 (by decide) ?_
        exact A_zret2 dX6_isSuiting_38 (by decide) (by simp only [suitC]; first | (rw [decide_eq_true (by simp_all), b2i_t]; done) | (rw [decide_eq_false (by simp_all), b2i_f]; done)) (by rfl)
set_option maxRecDepth 100000 in
set_option maxHeartbeats 4000000 in
theorem w_X6_dishesWithTag {f : Fm} {Q : State → Prop} {xs : va_W} {kk nn rc rs : Nat} (σ : Sg) (tag : Int) (hm : kk ≤ rc ∧ nn ≤ rs) : ∀ (n : Nat) (i : Int) (s : Int), 0 ≤ i → inr i → i + n = 16 → AW l G f (RX6, cX6_dishesWithTag, 4, (some .int)) (1, rc, rs) Q xs kk nn 51 [(2, .int (I32 (fW (min (i32 (σ 12 2)) 16) (dwtG σ tag) n i s))), (0, .ref (lay G 9)), (1, .int (I32 tag))] [] (σ) → AW l G f (RX6, cX6_dishesWithTag, 4, (some .int)) (1, rc, rs) Q xs kk nn 4 [(3, .int (I32 i)), (2, .int (I32 s)), (0, .ref (lay G 9)), (1, .int (I32 tag))] [] (σ) := by
  intro n
  induction n using Nat.strongRecOn with | _ n ih =>
  intro i s h0 hii hn  hK
  obtain ⟨hi1, hi2⟩ := hii
  refine A_iload_n dX6_dishesWithTag_4 rfl 0 rfl ?_
  refine A_aload_n dX6_dishesWithTag_5 rfl 2 rfl ?_
  refine A_getr fl_X6_20 lk_9 rfl dX6_dishesWithTag_6 ?_
  refine A_geti fl_X6_72 lk_12 rfl dX6_dishesWithTag_9 ?_
  refine J_icmp_ge (tgt := 51) dX6_dishesWithTag_12 (by decide) (by first | exact i32_eq (by assumption) | exact i32_eq ⟨by omega, by omega⟩ | with_reducible exact i32_i32 _ | with_reducible exact i32_eq (b2i_inr _) | rfl) (by first | exact i32_eq (by assumption) | exact i32_eq ⟨by omega, by omega⟩ | with_reducible exact i32_i32 _ | with_reducible exact i32_eq (b2i_inr _) | rfl) (fun h12 => ?_) (fun h12 => ?_)
  · refine A_lv [1, 2, 3] rfl ?_
    clear ih
    rcases n with _ | n <;> simp only [fW] at hK <;> (repeat' split at hK) <;> first | exact hK | contradiction | (exfalso; omega) | (simp_all; done)
  · refine A_iload_n dX6_dishesWithTag_15 rfl 0 rfl ?_
    refine A_bipush dX6_dishesWithTag_16 (by decide +kernel) ?_
    refine J_icmp_ge (tgt := 51) dX6_dishesWithTag_18 (by decide) (by first | exact i32_eq (by assumption) | exact i32_eq ⟨by omega, by omega⟩ | with_reducible exact i32_i32 _ | with_reducible exact i32_eq (b2i_inr _) | rfl) (by first | exact i32_eq (by assumption) | exact i32_eq ⟨by omega, by omega⟩ | with_reducible exact i32_i32 _ | with_reducible exact i32_eq (b2i_inr _) | rfl) (fun h18 => ?_) (fun h18 => ?_)
    · refine A_lv [1, 2, 3] rfl ?_
      clear ih
      rcases n with _ | n <;> simp only [fW] at hK <;> (repeat' split at hK) <;> first | exact hK | contradiction | (exfalso; omega) | (simp_all; done)
    · refine A_iload_n dX6_dishesWithTag_21 rfl 3 rfl ?_
      refine J_if_lt (tgt := 45) dX6_dishesWithTag_22 (by decide) (by first | exact i32_eq (by assumption) | exact i32_eq ⟨by omega, by omega⟩ | with_reducible exact i32_i32 _ | with_reducible exact i32_eq (b2i_inr _) | rfl) (fun h22 => ?_) (fun h22 => ?_)
      · refine A_iinc (lv2 := [(3, _), (2, _), (0, _), (1, _)]) dX6_dishesWithTag_45 0 rfl (by decide) rfl ?_
        refine A_goto (tgt := 4) dX6_dishesWithTag_48 (by decide) ?_
        refine A_lv [0, 1, 2, 3] rfl ?_
        refine ih (n - 1) (by omega) (i + 1) _ (by omega) ⟨by omega, by omega⟩ (by omega) ?_
        obtain ⟨n, rfl⟩ : ∃ q, n = q + 1 := ⟨n - 1, by omega⟩
        clear ih
        rw [fW_s] at hK
        simp only [Nat.add_sub_cancel]
        simp only [dwtG] at hK
        (repeat' split at hK) <;> first | exact hK | contradiction | (exfalso; omega) | (simp_all; done)
      · refine A_aload_n dX6_dishesWithTag_25 rfl 2 rfl ?_
        refine A_getr fl_X6_55 lk_9 rfl dX6_dishesWithTag_26 ?_
        refine A_iload_n dX6_dishesWithTag_29 rfl 0 rfl ?_
        refine J_iald lk_29 (by first | exact i32_eq (by assumption) | exact i32_eq ⟨by omega, by omega⟩ | with_reducible exact i32_i32 _ | with_reducible exact i32_eq (b2i_inr _) | rfl) (by omega) (by omega) (by decide) dX6_dishesWithTag_30 ?_
        refine A_iload_n dX6_dishesWithTag_31 rfl 3 rfl ?_
        refine A_ishr dX6_dishesWithTag_32 ?_
        refine A_iconst dX6_dishesWithTag_33 ?_
        refine A_iand dX6_dishesWithTag_34 ?_
        refine A_iconst dX6_dishesWithTag_35 ?_
        refine J_icmp_ne (tgt := 45) dX6_dishesWithTag_36 (by decide) (by first | exact i32_eq (by assumption) | exact i32_eq ⟨by omega, by omega⟩ | with_reducible exact i32_i32 _ | with_reducible exact i32_eq (b2i_inr _) | rfl) (by first | exact i32_eq (by assumption) | exact i32_eq ⟨by omega, by omega⟩ | with_reducible exact i32_i32 _ | with_reducible exact i32_eq (b2i_inr _) | rfl) (fun h36 => ?_) (fun h36 => ?_)
        · refine A_iinc (lv2 := [(3, _), (2, _), (0, _), (1, _)]) dX6_dishesWithTag_45 0 rfl (by decide) rfl ?_
          refine A_goto (tgt := 4) dX6_dishesWithTag_48 (by decide) ?_
          refine A_lv [0, 1, 2, 3] rfl ?_
          refine ih (n - 1) (by omega) (i + 1) _ (by omega) ⟨by omega, by omega⟩ (by omega) ?_
          obtain ⟨n, rfl⟩ : ∃ q, n = q + 1 := ⟨n - 1, by omega⟩
          clear ih
          rw [fW_s] at hK
          simp only [Nat.add_sub_cancel]
          simp only [dwtG] at hK
          (repeat' split at hK) <;> first | exact hK | contradiction | (exfalso; omega) | (simp_all; done)
        · refine A_iload_n dX6_dishesWithTag_39 rfl 1 rfl ?_
          refine A_iconst dX6_dishesWithTag_40 ?_
          refine A_iload_n dX6_dishesWithTag_41 rfl 0 rfl ?_
          refine A_ishl dX6_dishesWithTag_42 ?_
          refine A_ior dX6_dishesWithTag_43 ?_
          refine A_istore_n (lv2 := [(2, _), (3, _), (0, _), (1, _)]) dX6_dishesWithTag_44 rfl (by decide) rfl ?_
          refine A_iinc (lv2 := [(3, _), (2, _), (0, _), (1, _)]) dX6_dishesWithTag_45 1 rfl (by decide) rfl ?_
          refine A_goto (tgt := 4) dX6_dishesWithTag_48 (by decide) ?_
          refine A_lv [0, 1, 2, 3] rfl ?_
          refine ih (n - 1) (by omega) (i + 1) _ (by omega) ⟨by omega, by omega⟩ (by omega) ?_
          obtain ⟨n, rfl⟩ : ∃ q, n = q + 1 := ⟨n - 1, by omega⟩
          clear ih
          rw [fW_s] at hK
          simp only [Nat.add_sub_cancel]
          simp only [dwtG] at hK
          (repeat' split at hK) <;> first | exact hK | contradiction | (exfalso; omega) | (simp_all; done)
set_option maxRecDepth 100000 in
set_option maxHeartbeats 4000000 in
theorem c_X6_dishesWithTag (σ : Sg) (tag : Int)  : Ct l G yX6_dishesWithTag cX6_dishesWithTag 4 (some .int) 1 0 0 [.ref (lay G 9), .int (I32 tag)] σ (some (.int (I32 (dwtC σ tag)))) (σ) := by
  refine Ct.of (by decide +kernel) (Nat.le_of_ble_eq_true rfl) (fun f => ?_)
  show AW _ _ _ _ _ _ _ _ _ _ [(0, _), (1, _)] _ _
  refine A_iconst dX6_dishesWithTag_0 ?_
  refine A_istore_n (lv2 := [(2, _), (0, _), (1, _)]) dX6_dishesWithTag_1 rfl (by decide) rfl ?_
  refine A_iconst dX6_dishesWithTag_2 ?_
  refine A_istore_n (lv2 := [(3, _), (2, _), (0, _), (1, _)]) dX6_dishesWithTag_3 rfl (by decide) rfl ?_
  refine A_lv [0, 1, 2, 3] rfl ?_
  refine w_X6_dishesWithTag σ tag (by omega) 16 0 _ (by omega) ⟨by omega, by omega⟩ (by omega) ?_
  refine A_iload_n dX6_dishesWithTag_51 rfl 0 rfl ?_
  exact A_iret dX6_dishesWithTag_52 rfl rfl
set_option maxRecDepth 100000 in
set_option maxHeartbeats 4000000 in
theorem c_X6_foodFact (σ : Sg) (i w : Int)  : Ct l G yX6_foodFact cX6_foodFact 3 (some .int) 1 0 0 [.ref (lay G 9), .int (I32 i), .int (I32 w)] σ (some (.int (I32 (fFact σ i w)))) (σ) := by
  refine Ct.of (by decide +kernel) (Nat.le_of_ble_eq_true rfl) (fun f => ?_)
  show AW _ _ _ _ _ _ _ _ _ _ [(0, _), (1, _), (2, _)] _ _
  refine A_aload_n dX6_foodFact_0 rfl 0 rfl ?_
  refine A_getr fl_X6_14 lk_9 rfl dX6_foodFact_1 ?_
  refine A_iload_n dX6_foodFact_4 rfl 1 rfl ?_
  refine A_Va1 mv_X6_88 lk_10 rfl rfl (c_X4_has_10 _ _) (Nat.le_of_ble_eq_true rfl) (by omega) (by omega) dX6_foodFact_5 ?_
  refine A_ifne_b (tgt := 13) dX6_foodFact_8 (by decide) (fun h8 => ?_) (fun h8 => ?_)
  · have hh := hasC_t h8
    refine A_iload_n dX6_foodFact_13 rfl 2 rfl ?_
    by_cases h14_0 : i32 (w) = 0
    · refine J_ls (tgt := 40) dX6_foodFact_14 rfl (by decide) h14_0 (off := 26) (by decide) (by decide) ?_
      refine A_aload_n dX6_foodFact_40 rfl 0 rfl ?_
      refine A_getr fl_X6_36 lk_9 rfl dX6_foodFact_41 ?_
      refine A_iload_n dX6_foodFact_44 rfl 1 rfl ?_
      refine J_iald lk_23 (by first | exact i32_eq (by assumption) | exact i32_eq ⟨by omega, by omega⟩ | with_reducible exact i32_i32 _ | with_reducible exact i32_eq (b2i_inr _) | rfl) (by omega) (by omega) (by decide) dX6_foodFact_45 ?_
      try simp (disch := omega) only [up_k, up_j, up_s]
      exact A_iret dX6_foodFact_46 (by simp only [fFact]; (repeat' split) <;> first | rfl | contradiction | (exfalso; omega) | simp_all) (by rfl)
    by_cases h14_1 : i32 (w) = 1
    · refine J_ls (tgt := 47) dX6_foodFact_14 rfl (by decide) h14_1 (off := 33) (by decide) (by decide) ?_
      refine A_aload_n dX6_foodFact_47 rfl 0 rfl ?_
      refine A_getr fl_X6_40 lk_9 rfl dX6_foodFact_48 ?_
      refine A_iload_n dX6_foodFact_51 rfl 1 rfl ?_
      refine J_iald lk_24 (by first | exact i32_eq (by assumption) | exact i32_eq ⟨by omega, by omega⟩ | with_reducible exact i32_i32 _ | with_reducible exact i32_eq (b2i_inr _) | rfl) (by omega) (by omega) (by decide) dX6_foodFact_52 ?_
      try simp (disch := omega) only [up_k, up_j, up_s]
      exact A_iret dX6_foodFact_53 (by simp only [fFact]; (repeat' split) <;> first | rfl | contradiction | (exfalso; omega) | simp_all) (by rfl)
    refine J_ls (tgt := 54) dX6_foodFact_14 rfl (by decide) rfl (off := 40) (by simp only [Op.lookupswitch.offset_cons, Op.lookupswitch.offset_nil]; rw [if_neg (by omega), if_neg (by omega)]) (by decide) ?_
    refine A_aload_n dX6_foodFact_54 rfl 0 rfl ?_
    refine A_getr fl_X6_43 lk_9 rfl dX6_foodFact_55 ?_
    refine A_iload_n dX6_foodFact_58 rfl 1 rfl ?_
    refine J_iald lk_25 (by first | exact i32_eq (by assumption) | exact i32_eq ⟨by omega, by omega⟩ | with_reducible exact i32_i32 _ | with_reducible exact i32_eq (b2i_inr _) | rfl) (by omega) (by omega) (by decide) dX6_foodFact_59 ?_
    try simp (disch := omega) only [up_k, up_j, up_s]
    exact A_iret dX6_foodFact_60 (by simp only [fFact]; (repeat' split) <;> first | rfl | contradiction | (exfalso; omega) | simp_all) (by rfl)
  · try have hh := hasC_t h8
    refine A_iconst dX6_foodFact_11 ?_
    exact A_iret dX6_foodFact_12 (by simp only [fFact]; (repeat' split) <;> first | rfl | contradiction | (exfalso; omega) | simp_all) (by rfl)
set_option maxRecDepth 100000 in
set_option maxHeartbeats 4000000 in
theorem c_X6_dishFact (σ : Sg) (i w : Int)  : Ct l G yX6_dishFact cX6_dishFact 3 (some .int) 1 0 0 [.ref (lay G 9), .int (I32 i), .int (I32 w)] σ (some (.int (I32 (dFact σ i w)))) (σ) := by
  refine Ct.of (by decide +kernel) (Nat.le_of_ble_eq_true rfl) (fun f => ?_)
  show AW _ _ _ _ _ _ _ _ _ _ [(0, _), (1, _), (2, _)] _ _
  refine A_aload_n dX6_dishFact_0 rfl 0 rfl ?_
  refine A_getr fl_X6_20 lk_9 rfl dX6_dishFact_1 ?_
  refine A_iload_n dX6_dishFact_4 rfl 1 rfl ?_
  refine A_Va1 mv_X6_88 lk_12 rfl rfl (c_X4_has_12 _ _) (Nat.le_of_ble_eq_true rfl) (by omega) (by omega) dX6_dishFact_5 ?_
  refine A_ifne_b (tgt := 13) dX6_dishFact_8 (by decide) (fun h8 => ?_) (fun h8 => ?_)
  · have hh := hasC_t h8
    refine A_iload_n dX6_dishFact_13 rfl 2 rfl ?_
    by_cases h14_0 : i32 (w) = 0
    · refine J_tsIn (tgt := 44) dX6_dishFact_14 h14_0 ⟨by decide, by decide⟩ (by decide) (by decide) rfl (by decide) ?_
      refine A_aload_n dX6_dishFact_44 rfl 0 rfl ?_
      refine A_getr fl_X6_46 lk_9 rfl dX6_dishFact_45 ?_
      refine A_iload_n dX6_dishFact_48 rfl 1 rfl ?_
      refine J_iald lk_26 (by first | exact i32_eq (by assumption) | exact i32_eq ⟨by omega, by omega⟩ | with_reducible exact i32_i32 _ | with_reducible exact i32_eq (b2i_inr _) | rfl) (by omega) (by omega) (by decide) dX6_dishFact_49 ?_
      try simp (disch := omega) only [up_k, up_j, up_s]
      exact A_iret dX6_dishFact_50 (by simp only [dFact]; (repeat' split) <;> first | rfl | contradiction | (exfalso; omega) | simp_all) (by rfl)
    by_cases h14_1 : i32 (w) = 1
    · refine J_tsIn (tgt := 51) dX6_dishFact_14 h14_1 ⟨by decide, by decide⟩ (by decide) (by decide) rfl (by decide) ?_
      refine A_aload_n dX6_dishFact_51 rfl 0 rfl ?_
      refine A_getr fl_X6_49 lk_9 rfl dX6_dishFact_52 ?_
      refine A_iload_n dX6_dishFact_55 rfl 1 rfl ?_
      refine J_iald lk_27 (by first | exact i32_eq (by assumption) | exact i32_eq ⟨by omega, by omega⟩ | with_reducible exact i32_i32 _ | with_reducible exact i32_eq (b2i_inr _) | rfl) (by omega) (by omega) (by decide) dX6_dishFact_56 ?_
      try simp (disch := omega) only [up_k, up_j, up_s]
      exact A_iret dX6_dishFact_57 (by simp only [dFact]; (repeat' split) <;> first | rfl | contradiction | (exfalso; omega) | simp_all) (by rfl)
    by_cases h14_2 : i32 (w) = 2
    · refine J_tsIn (tgt := 58) dX6_dishFact_14 h14_2 ⟨by decide, by decide⟩ (by decide) (by decide) rfl (by decide) ?_
      refine A_aload_n dX6_dishFact_58 rfl 0 rfl ?_
      refine A_getr fl_X6_52 lk_9 rfl dX6_dishFact_59 ?_
      refine A_iload_n dX6_dishFact_62 rfl 1 rfl ?_
      refine J_iald lk_28 (by first | exact i32_eq (by assumption) | exact i32_eq ⟨by omega, by omega⟩ | with_reducible exact i32_i32 _ | with_reducible exact i32_eq (b2i_inr _) | rfl) (by omega) (by omega) (by decide) dX6_dishFact_63 ?_
      try simp (disch := omega) only [up_k, up_j, up_s]
      exact A_iret dX6_dishFact_64 (by simp only [dFact]; (repeat' split) <;> first | rfl | contradiction | (exfalso; omega) | simp_all) (by rfl)
    by_cases h14_3 : i32 (w) = 3
    · refine J_tsIn (tgt := 65) dX6_dishFact_14 h14_3 ⟨by decide, by decide⟩ (by decide) (by decide) rfl (by decide) ?_
      refine A_aload_n dX6_dishFact_65 rfl 0 rfl ?_
      refine A_getr fl_X6_55 lk_9 rfl dX6_dishFact_66 ?_
      refine A_iload_n dX6_dishFact_69 rfl 1 rfl ?_
      refine J_iald lk_29 (by first | exact i32_eq (by assumption) | exact i32_eq ⟨by omega, by omega⟩ | with_reducible exact i32_i32 _ | with_reducible exact i32_eq (b2i_inr _) | rfl) (by omega) (by omega) (by decide) dX6_dishFact_70 ?_
      try simp (disch := omega) only [up_k, up_j, up_s]
      exact A_iret dX6_dishFact_71 (by simp only [dFact]; (repeat' split) <;> first | rfl | contradiction | (exfalso; omega) | simp_all) (by rfl)
    refine J_tsOut (tgt := 72) dX6_dishFact_14 (by omega) (by decide) ?_
    refine A_aload_n dX6_dishFact_72 rfl 0 rfl ?_
    refine A_getr fl_X6_58 lk_9 rfl dX6_dishFact_73 ?_
    refine A_iload_n dX6_dishFact_76 rfl 1 rfl ?_
    refine J_iald lk_30 (by first | exact i32_eq (by assumption) | exact i32_eq ⟨by omega, by omega⟩ | with_reducible exact i32_i32 _ | with_reducible exact i32_eq (b2i_inr _) | rfl) (by omega) (by omega) (by decide) dX6_dishFact_77 ?_
    try simp (disch := omega) only [up_k, up_j, up_s]
    exact A_iret dX6_dishFact_78 (by simp only [dFact]; (repeat' split) <;> first | rfl | contradiction | (exfalso; omega) | simp_all) (by rfl)
  · try have hh := hasC_t h8
    refine A_iconst dX6_dishFact_11 ?_
    exact A_iret dX6_dishFact_12 (by simp only [dFact]; (repeat' split) <;> first | rfl | contradiction | (exfalso; omega) | simp_all) (by rfl)
set_option maxRecDepth 100000 in
set_option maxHeartbeats 4000000 in
theorem c_X6_gramsFor (σ : Sg) (m d i : Int)  : Ct l G yX6_gramsFor cX6_gramsFor 4 (some .long) 0 0 0 [.ref (lay G 9), .int (I32 m), .int (I32 d), .int (I32 i)] σ (some (.long (I64 (gfC σ m d i)))) (σ) := by
  refine Ct.of (by decide +kernel) (Nat.le_of_ble_eq_true rfl) (fun f => ?_)
  show AW _ _ _ _ _ _ _ _ _ _ [(0, _), (1, _), (2, _), (3, _)] _ _
  refine A_iload_n dX6_gramsFor_0 rfl 2 rfl ?_
  refine J_if_lt (tgt := 30) dX6_gramsFor_1 (by decide) (by first | exact i32_eq (by assumption) | exact i32_eq ⟨by omega, by omega⟩ | with_reducible exact i32_i32 _ | with_reducible exact i32_eq (b2i_inr _) | rfl) (fun h1 => ?_) (fun h1 => ?_)
  · refine A_lconst (w := 0) dX6_gramsFor_30 rfl ?_
    exact A_lret dX6_gramsFor_31 (by simp only [gfC]; (repeat' split) <;> first | rfl | contradiction | (exfalso; omega) | (simp only [I32_i32, I64_i64]; done)) (by rfl)
  · refine A_iload_n dX6_gramsFor_4 rfl 2 rfl ?_
    refine A_bipush dX6_gramsFor_5 (by decide +kernel) ?_
    refine J_icmp_ge (tgt := 30) dX6_gramsFor_7 (by decide) (by first | exact i32_eq (by assumption) | exact i32_eq ⟨by omega, by omega⟩ | with_reducible exact i32_i32 _ | with_reducible exact i32_eq (b2i_inr _) | rfl) (by first | exact i32_eq (by assumption) | exact i32_eq ⟨by omega, by omega⟩ | with_reducible exact i32_i32 _ | with_reducible exact i32_eq (b2i_inr _) | rfl) (fun h7 => ?_) (fun h7 => ?_)
    · refine A_lconst (w := 0) dX6_gramsFor_30 rfl ?_
      exact A_lret dX6_gramsFor_31 (by simp only [gfC]; (repeat' split) <;> first | rfl | contradiction | (exfalso; omega) | (simp only [I32_i32, I64_i64]; done)) (by rfl)
    · refine A_iload_n dX6_gramsFor_10 rfl 3 rfl ?_
      refine J_if_lt (tgt := 30) dX6_gramsFor_11 (by decide) (by first | exact i32_eq (by assumption) | exact i32_eq ⟨by omega, by omega⟩ | with_reducible exact i32_i32 _ | with_reducible exact i32_eq (b2i_inr _) | rfl) (fun h11 => ?_) (fun h11 => ?_)
      · refine A_lconst (w := 0) dX6_gramsFor_30 rfl ?_
        exact A_lret dX6_gramsFor_31 (by simp only [gfC]; (repeat' split) <;> first | rfl | contradiction | (exfalso; omega) | (simp only [I32_i32, I64_i64]; done)) (by rfl)
      · refine A_iload_n dX6_gramsFor_14 rfl 3 rfl ?_
        refine A_bipush dX6_gramsFor_15 (by decide +kernel) ?_
        refine J_icmp_ge (tgt := 30) dX6_gramsFor_17 (by decide) (by first | exact i32_eq (by assumption) | exact i32_eq ⟨by omega, by omega⟩ | with_reducible exact i32_i32 _ | with_reducible exact i32_eq (b2i_inr _) | rfl) (by first | exact i32_eq (by assumption) | exact i32_eq ⟨by omega, by omega⟩ | with_reducible exact i32_i32 _ | with_reducible exact i32_eq (b2i_inr _) | rfl) (fun h17 => ?_) (fun h17 => ?_)
        · refine A_lconst (w := 0) dX6_gramsFor_30 rfl ?_
          exact A_lret dX6_gramsFor_31 (by simp only [gfC]; (repeat' split) <;> first | rfl | contradiction | (exfalso; omega) | (simp only [I32_i32, I64_i64]; done)) (by rfl)
        · refine A_aload_n dX6_gramsFor_20 rfl 0 rfl ?_
          refine A_getr fl_X6_46 lk_9 rfl dX6_gramsFor_21 ?_
          refine A_iload_n dX6_gramsFor_24 rfl 2 rfl ?_
          refine J_iald lk_26 (by first | exact i32_eq (by assumption) | exact i32_eq ⟨by omega, by omega⟩ | with_reducible exact i32_i32 _ | with_reducible exact i32_eq (b2i_inr _) | rfl) (by omega) (by omega) (by decide) dX6_gramsFor_25 ?_
          refine A_iconst dX6_gramsFor_26 ?_
          refine J_icmp_ge (tgt := 32) dX6_gramsFor_27 (by decide) (by first | exact i32_eq (by assumption) | exact i32_eq ⟨by omega, by omega⟩ | with_reducible exact i32_i32 _ | with_reducible exact i32_eq (b2i_inr _) | rfl) (by first | exact i32_eq (by assumption) | exact i32_eq ⟨by omega, by omega⟩ | with_reducible exact i32_i32 _ | with_reducible exact i32_eq (b2i_inr _) | rfl) (fun h27 => ?_) (fun h27 => ?_)
          · refine A_iload_n dX6_gramsFor_32 rfl 1 rfl ?_
            refine J_i2l dX6_gramsFor_33 (by first | exact i32_eq (by assumption) | exact i32_eq ⟨by omega, by omega⟩ | with_reducible exact i32_i32 _ | with_reducible exact i32_eq (b2i_inr _) | rfl) ?_
            refine A_aload_n dX6_gramsFor_34 rfl 0 rfl ?_
            refine A_getr fl_X6_63 lk_9 rfl dX6_gramsFor_35 ?_
            refine A_iload_n dX6_gramsFor_38 rfl 2 rfl ?_
            refine J_aald lk_31 (by first | exact i32_eq (by assumption) | exact i32_eq ⟨by omega, by omega⟩ | with_reducible exact i32_i32 _ | with_reducible exact i32_eq (b2i_inr _) | rfl) (by omega) (by omega) (by decide) dX6_gramsFor_39 ?_
            refine A_iload_n dX6_gramsFor_40 rfl 3 rfl ?_
            refine J_iald (lk_row34 (by omega)) (by first | exact i32_eq (by assumption) | exact i32_eq ⟨by omega, by omega⟩ | with_reducible exact i32_i32 _ | with_reducible exact i32_eq (b2i_inr _) | rfl) (by omega) (by omega) (by decide) dX6_gramsFor_41 ?_
            refine J_i2l dX6_gramsFor_42 (by first | exact i32_eq (by assumption) | exact i32_eq ⟨by omega, by omega⟩ | with_reducible exact i32_i32 _ | with_reducible exact i32_eq (b2i_inr _) | rfl) ?_
            refine A_lmul dX6_gramsFor_43 ?_
            refine A_aload_n dX6_gramsFor_44 rfl 0 rfl ?_
            refine A_getr fl_X6_46 lk_9 rfl dX6_gramsFor_45 ?_
            refine A_iload_n dX6_gramsFor_48 rfl 2 rfl ?_
            refine J_iald lk_26 (by first | exact i32_eq (by assumption) | exact i32_eq ⟨by omega, by omega⟩ | with_reducible exact i32_i32 _ | with_reducible exact i32_eq (b2i_inr _) | rfl) (by omega) (by omega) (by decide) dX6_gramsFor_49 ?_
            refine J_i2l dX6_gramsFor_50 (by first | exact i32_eq (by assumption) | exact i32_eq ⟨by omega, by omega⟩ | with_reducible exact i32_i32 _ | with_reducible exact i32_eq (b2i_inr _) | rfl) ?_
            refine J_ldiv dX6_gramsFor_51 (by first | exact i64_eq (by obtain ⟨_, _⟩ := i32_inr (σ 26 (i32 d).toNat); exact ⟨by omega, by omega⟩) | rfl) (by first | exact i64_eq (by obtain ⟨_, _⟩ := i32_inr (σ 26 (i32 d).toNat); exact ⟨by omega, by omega⟩) | rfl) (by omega) ?_
            exact A_lret dX6_gramsFor_52 (by simp only [gfC]; (repeat' split) <;> first | rfl | contradiction | (exfalso; omega) | (simp only [I32_i32, I64_i64]; done)) (by rfl)
          · refine A_lconst (w := 0) dX6_gramsFor_30 rfl ?_
            exact A_lret dX6_gramsFor_31 (by simp only [gfC]; (repeat' split) <;> first | rfl | contradiction | (exfalso; omega) | (simp only [I32_i32, I64_i64]; done)) (by rfl)
end S12
