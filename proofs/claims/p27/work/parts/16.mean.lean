/-! MeaningReader -/
section S16
variable {l : Launch} {G : Gx}
theorem VC_inl (σ : Sg) (t : Int) : inl (VC σ t) := by
  unfold VC
  split
  · exact i64_inl _
  · exact ⟨by decide, by decide⟩
theorem i32_inl (t : Int) : inl (i32 t) := ⟨by have := (i32_inr t).1; omega, by have := (i32_inr t).2; omega⟩
theorem idxC_rng {σ : Sg} {k : Nat} {v : Int} (h : ¬ idxC σ k v = -1) : 0 ≤ idxC σ k v ∧ idxC σ k v < 16 := by
  have := idxC_in σ k v
  omega
def nxM (σ : Sg) : Sg := up σ 51 6 (σ 51 6 + 1)
def flM (σ : Sg) (c t : Int) : Sg := up (up σ 51 7 c) 51 8 t
def tnM (σ : Sg) (lo hi : Int) : Bool × Sg := if VC σ (σ 51 6) < i32 lo ∨ i32 hi < VC σ (σ 51 6) then (false, flM σ 5 (σ 51 6)) else (true, nxM (up σ 51 9 (VC σ (σ 51 6))))
def nnM (σ : Sg) : Bool × Sg := if namedC σ (VC σ (σ 51 6)) = true then (false, flM σ 3 (σ 51 6)) else (true, nxM σ)
def tmM (σ : Sg) (r : Int) : Bool × Sg := if ¬ idxC σ 12 (VC σ (σ 51 6)) = -1 then (true, nxM (up σ 22 r.toNat (ishl 1 (idxC σ 12 (VC σ (σ 51 6)))))) else if ¬ idxC σ 16 (VC σ (σ 51 6)) = -1 then (true, nxM (up σ 54 r.toNat (idxC σ 16 (VC σ (σ 51 6))))) else (false, flM σ 2 (σ 51 6))
def apM (σ : Sg) (r : Int) : Bool × Sg := if (tnM σ 1 9).1 = true then tmM (up (up (tnM σ 1 9).2 19 r.toNat 0) 20 r.toNat ((tnM σ 1 9).2 51 9)) r else (false, (tnM σ 1 9).2)
def sp1M (σ : Sg) (r s lo : Int) : Sg := up (up (tnM σ lo 9).2 19 r.toNat s) 20 r.toNat ((tnM σ lo 9).2 51 9)
def sp2M (σ : Sg) (r s lo : Int) : Bool × Sg := tmM (sp1M σ r s lo) r
def sp3M (σ : Sg) (r s lo : Int) : Bool × Sg := tnM (nxM (sp2M σ r s lo).2) 1 14
def spM (σ : Sg) (r s lo : Int) : Bool × Sg := if (tnM σ lo 9).1 = true then (if (sp2M σ r s lo).1 = true then (if (sp3M σ r s lo).1 = true then (true, up (sp3M σ r s lo).2 21 r.toNat ((sp3M σ r s lo).2 51 9)) else (false, (sp3M σ r s lo).2)) else (false, (sp2M σ r s lo).2)) else (false, (tnM σ lo 9).2)
def en2M (σ : Sg) : Bool × Sg := tnM (nxM (tnM σ 0 9999).2) ((tnM σ 0 9999).2 51 9) 9999
def enM (σ : Sg) (r : Int) : Bool × Sg := if (tnM σ 0 9999).1 = true then (if (en2M σ).1 = true then (true, up (up (up (en2M σ).2 19 r.toNat 3) 20 r.toNat ((tnM σ 0 9999).2 51 9)) 21 r.toNat ((en2M σ).2 51 9)) else (false, (en2M σ).2)) else (false, (tnM σ 0 9999).2)
def rl0M (σ : Sg) : Sg := up (up (up σ 21 (i32 (σ 18 4)).toNat 0) 22 (i32 (σ 18 4)).toNat 0) 54 (i32 (σ 18 4)).toNat (-1)
def rl1M (σ : Sg) : Sg := nxM (nxM (rl0M σ))
def rl2M (σ : Sg) : Bool × Sg := if KC σ (σ 51 6 + 1) = 7 then apM (rl1M σ) (i32 (σ 18 4)) else if KC σ (σ 51 6 + 1) = 8 then spM (rl1M σ) (i32 (σ 18 4)) 1 0 else if KC σ (σ 51 6 + 1) = 9 then spM (rl1M σ) (i32 (σ 18 4)) 2 1 else enM (rl1M σ) (i32 (σ 18 4))
def rlM (σ : Sg) : Bool × Sg := if i32 (σ 18 4) < 0 ∨ 8 ≤ i32 (σ 18 4) then (false, flM σ 4 (σ 51 6)) else if (rl2M σ).1 = true then (true, nxM (up (rl2M σ).2 18 4 ((rl2M σ).2 18 4 + 1))) else (false, (rl2M σ).2)
def tc0M (σ : Sg) : Sg := up (up (up σ 52 (i32 (σ 9 16)).toNat (σ 51 6)) 53 (i32 (σ 9 16)).toNat (σ 12 2)) 32 (i32 (σ 9 16)).toNat (σ 14 2)
def tc1M (σ : Sg) : Sg := up (tc0M σ) 51 6 (eouC (tc0M σ) (σ 51 6))
def tcM (σ : Sg) : Bool × Sg := if i32 (σ 9 16) < 0 ∨ 8 ≤ i32 (σ 9 16) then (false, flM σ 4 (σ 51 6)) else if KC (tc1M σ) ((tc1M σ) 51 6) = 22 then (false, flM (tc1M σ) 2 ((tc1M σ) 51 6)) else (true, up (tc1M σ) 9 16 ((tc1M σ) 9 16 + 1))
def mlL : Nat → Sg → Bool × Sg
  | 0, σ => (true, σ)
  | n + 1, σ => if ¬ KC σ (σ 51 6) = 17 then (if (tcM (nxM σ)).1 = true then mlL n (tcM (nxM σ)).2 else (false, (tcM (nxM σ)).2)) else (true, σ)
def mlE (v : Int) (x : Bool × Sg) : Bool × Sg := if x.1 = true then (true, nxM (addC x.2 14 v)) else (false, x.2)
def mlM (σ : Sg) : Bool × Sg := if fullC σ 14 = true then (false, flM σ 4 (σ 51 6)) else if (nnM (nxM σ)).1 = true then mlE (VC σ (σ 51 6 + 1)) (mlL 1500 (nnM (nxM σ)).2) else (false, (nnM (nxM σ)).2)
def tg1M (σ : Sg) : Bool × Sg := if idxC (nxM σ) 16 (VC σ (σ 51 6 + 1)) = -1 then (if fullC (nxM σ) 16 = true then (false, flM (nxM σ) 4 (σ 51 6 + 1)) else (true, addC (nxM σ) 16 (VC σ (σ 51 6 + 1)))) else (true, nxM σ)
def tg2M (σ : Sg) (v : Int) : Sg := nxM (up σ 51 10 (ior (σ 51 10) (ishl 1 (idxC σ 16 v))))
def tgL : Nat → Sg → Bool × Sg
  | 0, σ => (true, σ)
  | n + 1, σ => if ¬ KC σ (σ 51 6) = 17 then (if (tg1M σ).1 = true then tgL n (tg2M (tg1M σ).2 (VC σ (σ 51 6 + 1))) else (false, (tg1M σ).2)) else (true, σ)
def afM (σ : Sg) (d x : Int) : Sg := up (up (up (up σ (34 + d.toNat) x.toNat (σ (34 + d.toNat) x.toNat + σ 51 9)) 51 11 (σ 51 11 + i32 ((i32 (σ 51 9 * σ 23 x.toNat)).tdiv 100))) 51 12 (σ 51 12 + i32 ((i32 (σ 51 9 * σ 24 x.toNat)).tdiv 100))) 51 10 (ior (σ 51 10) (σ 25 x.toNat))
def adG1 (d o i : Int) (a : Sg) : Sg := up a (34 + d.toNat) i.toNat (a (34 + d.toNat) i.toNat + gfC a (a 51 9) o i)
def ad1M (σ : Sg) (d o : Int) : Sg := fG (fun i a => decide (i < i32 (a 10 2))) (adG1 d o) 16 0 σ
def tmuchM (σ : Sg) (d : Int) : Bool := decide (100000 < i64 (fW 16 (fun i s => s + i32 (σ (34 + d.toNat) i.toNat)) 16 0 0) ∨ 1000000 < i64 (σ 51 11) ∨ 1000000 < i64 (σ 51 12))
def tdM (σ : Sg) (d : Int) : Sg := if 0 < i32 (σ 26 d.toNat) then up (up (up σ 27 d.toNat ((i64 (σ 51 11)).tdiv (i32 (σ 26 d.toNat)))) 28 d.toNat ((i64 (σ 51 12)).tdiv (i32 (σ 26 d.toNat)))) 29 d.toNat (σ 51 10) else up σ 29 d.toNat (σ 51 10)
theorem KC_up {σ : Sg} {k j : Nat} {v : Int} (h3 : 3 ≠ k) (h5 : 5 ≠ k) : KC (up σ k j v) = KC σ := by
  funext t
  simp only [KC, up_k σ v h3, up_k σ v h5]
theorem VC_up {σ : Sg} {k j : Nat} {v : Int} (h3 : 3 ≠ k) (h7 : 7 ≠ k) : VC (up σ k j v) = VC σ := by
  funext t
  simp only [VC, up_k σ v h3, up_k σ v h7]
theorem idxC_up {σ : Sg} {k j q : Nat} {v : Int} (h : q ≠ k) (h1 : q + 1 ≠ k) (w : Int) : idxC (up σ k j v) q w = idxC σ q w := idxF_fr (up_k σ v h) (fun _ => up_k σ v h1) w 16 0
theorem insC_up {σ : Sg} {k j : Nat} {v : Int} (h3 : 3 ≠ k) (h5 : 5 ≠ k) (h7 : 7 ≠ k) (h12 : 12 ≠ k) (h13 : 13 ≠ k) (h16 : 16 ≠ k) (h17 : 17 ≠ k) (t : Int) : insC (up σ k j v) t = insC σ t := by
  simp only [insC, KC_up h3 h5, VC_up h3 h7, idxC_up (q := 12) h12 h13, idxC_up (q := 16) h16 h17]
theorem eouC_up {σ : Sg} {k j : Nat} {v : Int} (h3 : 3 ≠ k) (h5 : 5 ≠ k) (h7 : 7 ≠ k) (h12 : 12 ≠ k) (h13 : 13 ≠ k) (h16 : 16 ≠ k) (h17 : 17 ≠ k) (t : Int) : eouC (up σ k j v) t = eouC σ t := by
  have h : ∀ (n : Nat) (t : Int), eouF (up σ k j v) n t = eouF σ n t := by
    intro n
    induction n with
    | zero => intro t; rfl
    | succ n ih => intro t; simp only [eouF, insC_up h3 h5 h7 h12 h13 h16 h17, ih]
  exact h 30 t
set_option maxRecDepth 100000 in
set_option maxHeartbeats 4000000 in
theorem c_X2_isKind (σ : Sg) (k : Int) (hk : inr k) : Ct l G yX2_isKind cX2_isKind 2 (some .boolean) 1 0 0 [.ref (lay G 51), .int (I32 k)] σ (some (.int (I32 (b2i (decide (KC σ (σ 51 6) = k)))))) (σ) := by
  refine Ct.of (by decide +kernel) (Nat.le_of_ble_eq_true rfl) (fun f => ?_)
  show AW _ _ _ _ _ _ _ _ _ _ [(0, _), (1, _)] _ _
  refine A_aload_n dX2_isKind_0 rfl 0 rfl ?_
  refine A_getr fl_X2_21 lk_51 rfl dX2_isKind_1 ?_
  refine A_aload_n dX2_isKind_4 rfl 0 rfl ?_
  refine A_geti fl_X2_33 lk_51 rfl dX2_isKind_5 ?_
  refine A_Va1 mv_X2_51 lk_3 rfl rfl (c_X9_kindOf _ _) (Nat.le_of_ble_eq_true rfl) (by omega) (by omega) dX2_isKind_8 ?_
  try simp (disch := omega) only [KC_up, VC_up, idxC_up, eouC_up, up_k, up_j, up_s]
  refine A_iload_n dX2_isKind_11 rfl 1 rfl ?_
  refine J_icmp_ne (tgt := 19) dX2_isKind_12 (by decide) (by first | with_reducible exact i32_eq (KC_inr _ _) | with_reducible exact idxC_i32 _ _ _ | exact i32_eq (by assumption) | exact i32_eq ⟨by omega, by omega⟩ | with_reducible exact i32_i32 _ | rfl) (by first | with_reducible exact i32_eq (KC_inr _ _) | with_reducible exact idxC_i32 _ _ _ | exact i32_eq (by assumption) | exact i32_eq ⟨by omega, by omega⟩ | with_reducible exact i32_i32 _ | rfl) (fun h12 => ?_) (fun h12 => ?_)
  · refine A_iconst dX2_isKind_19 ?_
    exact A_zret2 dX2_isKind_20 (by decide) (by first | (rw [decide_eq_true (by assumption), b2i_t]; done) | (rw [decide_eq_false (by assumption), b2i_f]; done)) (by rfl)
  · refine A_iconst dX2_isKind_15 ?_
    refine A_goto (tgt := 20) dX2_isKind_16 (by decide) ?_
    exact A_zret2 dX2_isKind_20 (by decide) (by first | (rw [decide_eq_true (by assumption), b2i_t]; done) | (rw [decide_eq_false (by assumption), b2i_f]; done)) (by rfl)
set_option maxRecDepth 100000 in
set_option maxHeartbeats 4000000 in
theorem c_X2_fail (σ : Sg) (c t : Int)  : Ct l G yX2_fail cX2_fail 3 (some .boolean) 0 0 0 [.ref (lay G 51), .int (I32 c), .int (I32 t)] σ (some (.int (I32 (b2i false)))) (flM σ c t) := by
  refine Ct.of (by decide +kernel) (Nat.le_of_ble_eq_true rfl) (fun f => ?_)
  show AW _ _ _ _ _ _ _ _ _ _ [(0, _), (1, _), (2, _)] _ _
  refine A_aload_n dX2_fail_0 rfl 0 rfl ?_
  refine A_iload_n dX2_fail_1 rfl 1 rfl ?_
  refine A_puti fl_X2_37 lk_51 rfl dX2_fail_2 ?_
  refine A_aload_n dX2_fail_5 rfl 0 rfl ?_
  refine A_iload_n dX2_fail_6 rfl 2 rfl ?_
  refine A_puti fl_X2_40 lk_51 rfl dX2_fail_7 ?_
  refine A_iconst dX2_fail_10 ?_
  exact A_zret2 dX2_fail_11 (by decide) (by rfl) (by rfl)
set_option maxRecDepth 100000 in
set_option maxHeartbeats 4000000 in
theorem c_X2_takeNumber (σ : Sg) (lo hi : Int)  : Ct l G yX2_takeNumber cX2_takeNumber 5 (some .boolean) 1 0 0 [.ref (lay G 51), .int (I32 lo), .int (I32 hi)] σ (some (.int (I32 (b2i (tnM σ lo hi).1)))) ((tnM σ lo hi).2) := by
  refine Ct.of (by decide +kernel) (Nat.le_of_ble_eq_true rfl) (fun f => ?_)
  show AW _ _ _ _ _ _ _ _ _ _ [(0, _), (1, _), (2, _)] _ _
  refine A_aload_n dX2_takeNumber_0 rfl 0 rfl ?_
  refine A_getr fl_X2_21 lk_51 rfl dX2_takeNumber_1 ?_
  refine A_aload_n dX2_takeNumber_4 rfl 0 rfl ?_
  refine A_geti fl_X2_33 lk_51 rfl dX2_takeNumber_5 ?_
  refine A_Va1 mv_X2_92 lk_3 rfl rfl (c_X9_valueOf _ _) (Nat.le_of_ble_eq_true rfl) (by omega) (by omega) dX2_takeNumber_8 ?_
  try simp (disch := omega) only [KC_up, VC_up, idxC_up, eouC_up, up_k, up_j, up_s]
  refine A_lstore_n (lv2 := [(3, _), (0, _), (1, _), (2, _)]) dX2_takeNumber_11 rfl (by decide) rfl ?_
  refine A_lload_n dX2_takeNumber_12 rfl 0 rfl ?_
  refine A_iload_n dX2_takeNumber_13 rfl 2 rfl ?_
  refine J_i2l dX2_takeNumber_14 (by first | with_reducible exact i32_eq (KC_inr _ _) | with_reducible exact idxC_i32 _ _ _ | exact i32_eq (by assumption) | exact i32_eq ⟨by omega, by omega⟩ | with_reducible exact i32_i32 _ | rfl) ?_
  refine J_lcmp dX2_takeNumber_15 (by first | with_reducible exact i64_eq (VC_inl _ _) | with_reducible exact i64_eq (i32_inl _) | exact i64_eq ⟨by omega, by omega⟩ | rfl) (by first | with_reducible exact i64_eq (VC_inl _ _) | with_reducible exact i64_eq (i32_inl _) | exact i64_eq ⟨by omega, by omega⟩ | rfl) ?_
  refine A_if_lt_c (tgt := 26) dX2_takeNumber_16 (by decide) (fun h16 => ?_) (fun h16 => ?_)
  · refine A_aload_n dX2_takeNumber_26 rfl 1 rfl ?_
    refine A_iconst dX2_takeNumber_27 ?_
    refine A_aload_n dX2_takeNumber_28 rfl 1 rfl ?_
    refine A_geti fl_X2_33 lk_51 rfl dX2_takeNumber_29 ?_
    try simp (disch := omega) only [up_k, up_j, up_s, KC_up, VC_up, idxC_up, eouC_up, up_k, up_j, up_s]
    refine A_Va2 mv_X2_82 lk_51 rfl rfl (c_X2_fail _ _ _) (Nat.le_of_ble_eq_true rfl) (by omega) (by omega) dX2_takeNumber_32 ?_
    try simp (disch := omega) only [KC_up, VC_up, idxC_up, eouC_up, up_k, up_j, up_s]
    exact A_zret dX2_takeNumber_35 (by (try simp (disch := omega) only [tnM, nxM, KC_up, VC_up, idxC_up, eouC_up, up_k, up_j, up_s]) <;> (repeat' split) <;> first | contradiction | (exfalso; omega) | rfl | (simp (disch := omega) only [KC_up, VC_up, idxC_up, eouC_up, up_k, up_j, up_s]; done) | (simp_all [b2i_t, b2i_f]; done)) (by (try simp (disch := omega) only [tnM, nxM, KC_up, VC_up, idxC_up, eouC_up, up_k, up_j, up_s]) <;> (repeat' split) <;> first | contradiction | (exfalso; omega) | with_reducible rfl | (simp (disch := omega) only [KC_up, VC_up, idxC_up, eouC_up, up_k, up_j, up_s]; done) | (simp_all; done))
  · refine A_lload_n dX2_takeNumber_19 rfl 0 rfl ?_
    refine A_iload_n dX2_takeNumber_20 rfl 3 rfl ?_
    refine J_i2l dX2_takeNumber_21 (by first | with_reducible exact i32_eq (KC_inr _ _) | with_reducible exact idxC_i32 _ _ _ | exact i32_eq (by assumption) | exact i32_eq ⟨by omega, by omega⟩ | with_reducible exact i32_i32 _ | rfl) ?_
    refine J_lcmp dX2_takeNumber_22 (by first | with_reducible exact i64_eq (VC_inl _ _) | with_reducible exact i64_eq (i32_inl _) | exact i64_eq ⟨by omega, by omega⟩ | rfl) (by first | with_reducible exact i64_eq (VC_inl _ _) | with_reducible exact i64_eq (i32_inl _) | exact i64_eq ⟨by omega, by omega⟩ | rfl) ?_
    refine A_if_le_c (tgt := 36) dX2_takeNumber_23 (by decide) (fun h23 => ?_) (fun h23 => ?_)
    · refine A_aload_n dX2_takeNumber_36 rfl 1 rfl ?_
      refine A_lload_n dX2_takeNumber_37 rfl 0 rfl ?_
      refine A_l2i dX2_takeNumber_38 ?_
      refine A_puti fl_X2_105 lk_51 rfl dX2_takeNumber_39 ?_
      refine A_aload_n dX2_takeNumber_42 rfl 1 rfl ?_
      refine A_dup dX2_takeNumber_43 rfl ?_
      refine A_geti fl_X2_33 lk_51 rfl dX2_takeNumber_44 ?_
      try simp (disch := omega) only [up_k, up_j, up_s, KC_up, VC_up, idxC_up, eouC_up, up_k, up_j, up_s]
      refine A_iconst dX2_takeNumber_47 ?_
      refine A_iadd dX2_takeNumber_48 ?_
      refine A_puti fl_X2_33 lk_51 rfl dX2_takeNumber_49 ?_
      refine A_iconst dX2_takeNumber_52 ?_
      exact A_zret2 dX2_takeNumber_53 (by decide) (by (try simp (disch := omega) only [tnM, nxM, KC_up, VC_up, idxC_up, eouC_up, up_k, up_j, up_s]) <;> (repeat' split) <;> first | contradiction | (exfalso; omega) | rfl | (simp (disch := omega) only [KC_up, VC_up, idxC_up, eouC_up, up_k, up_j, up_s]; done) | (simp_all [b2i_t, b2i_f]; done)) (by (try simp (disch := omega) only [tnM, nxM, KC_up, VC_up, idxC_up, eouC_up, up_k, up_j, up_s]) <;> (repeat' split) <;> first | contradiction | (exfalso; omega) | with_reducible rfl | (simp (disch := omega) only [KC_up, VC_up, idxC_up, eouC_up, up_k, up_j, up_s]; done) | (simp_all; done))
    · refine A_aload_n dX2_takeNumber_26 rfl 1 rfl ?_
      refine A_iconst dX2_takeNumber_27 ?_
      refine A_aload_n dX2_takeNumber_28 rfl 1 rfl ?_
      refine A_geti fl_X2_33 lk_51 rfl dX2_takeNumber_29 ?_
      try simp (disch := omega) only [up_k, up_j, up_s, KC_up, VC_up, idxC_up, eouC_up, up_k, up_j, up_s]
      refine A_Va2 mv_X2_82 lk_51 rfl rfl (c_X2_fail _ _ _) (Nat.le_of_ble_eq_true rfl) (by omega) (by omega) dX2_takeNumber_32 ?_
      try simp (disch := omega) only [KC_up, VC_up, idxC_up, eouC_up, up_k, up_j, up_s]
      exact A_zret dX2_takeNumber_35 (by (try simp (disch := omega) only [tnM, nxM, KC_up, VC_up, idxC_up, eouC_up, up_k, up_j, up_s]) <;> (repeat' split) <;> first | contradiction | (exfalso; omega) | rfl | (simp (disch := omega) only [KC_up, VC_up, idxC_up, eouC_up, up_k, up_j, up_s]; done) | (simp_all [b2i_t, b2i_f]; done)) (by (try simp (disch := omega) only [tnM, nxM, KC_up, VC_up, idxC_up, eouC_up, up_k, up_j, up_s]) <;> (repeat' split) <;> first | contradiction | (exfalso; omega) | with_reducible rfl | (simp (disch := omega) only [KC_up, VC_up, idxC_up, eouC_up, up_k, up_j, up_s]; done) | (simp_all; done))
set_option maxRecDepth 100000 in
set_option maxHeartbeats 4000000 in
theorem c_X2_takeNewName (σ : Sg)  : Ct l G yX2_takeNewName cX2_takeNewName 1 (some .boolean) 3 0 0 [.ref (lay G 51)] σ (some (.int (I32 (b2i (nnM σ).1)))) ((nnM σ).2) := by
  refine Ct.of (by decide +kernel) (Nat.le_of_ble_eq_true rfl) (fun f => ?_)
  show AW _ _ _ _ _ _ _ _ _ _ [(0, _)] _ _
  refine A_aload_n dX2_takeNewName_0 rfl 0 rfl ?_
  refine A_getr fl_X2_25 lk_51 rfl dX2_takeNewName_1 ?_
  refine A_aload_n dX2_takeNewName_4 rfl 0 rfl ?_
  refine A_getr fl_X2_21 lk_51 rfl dX2_takeNewName_5 ?_
  refine A_aload_n dX2_takeNewName_8 rfl 0 rfl ?_
  refine A_geti fl_X2_33 lk_51 rfl dX2_takeNewName_9 ?_
  refine A_Va1 mv_X2_92 lk_3 rfl rfl (c_X9_valueOf _ _) (Nat.le_of_ble_eq_true rfl) (by omega) (by omega) dX2_takeNewName_12 ?_
  try simp (disch := omega) only [KC_up, VC_up, idxC_up, eouC_up, up_k, up_j, up_s]
  refine A_Va1 mv_X2_240 lk_9 rfl rfl (c_X6_isNamed _ _) (Nat.le_of_ble_eq_true rfl) (by omega) (by omega) dX2_takeNewName_15 ?_
  try simp (disch := omega) only [KC_up, VC_up, idxC_up, eouC_up, up_k, up_j, up_s]
  refine A_ifeq_b (tgt := 31) dX2_takeNewName_18 (by decide) (fun h18 => ?_) (fun h18 => ?_)
  · refine A_aload_n dX2_takeNewName_31 rfl 0 rfl ?_
    refine A_dup dX2_takeNewName_32 rfl ?_
    refine A_geti fl_X2_33 lk_51 rfl dX2_takeNewName_33 ?_
    try simp (disch := omega) only [up_k, up_j, up_s, KC_up, VC_up, idxC_up, eouC_up, up_k, up_j, up_s]
    refine A_iconst dX2_takeNewName_36 ?_
    refine A_iadd dX2_takeNewName_37 ?_
    refine A_puti fl_X2_33 lk_51 rfl dX2_takeNewName_38 ?_
    refine A_iconst dX2_takeNewName_41 ?_
    exact A_zret2 dX2_takeNewName_42 (by decide) (by (try simp (disch := omega) only [nnM, nxM, KC_up, VC_up, idxC_up, eouC_up, up_k, up_j, up_s]) <;> (repeat' split) <;> first | contradiction | (exfalso; omega) | rfl | (simp (disch := omega) only [KC_up, VC_up, idxC_up, eouC_up, up_k, up_j, up_s]; done) | (simp_all [b2i_t, b2i_f]; done)) (by (try simp (disch := omega) only [nnM, nxM, KC_up, VC_up, idxC_up, eouC_up, up_k, up_j, up_s]) <;> (repeat' split) <;> first | contradiction | (exfalso; omega) | with_reducible rfl | (simp (disch := omega) only [KC_up, VC_up, idxC_up, eouC_up, up_k, up_j, up_s]; done) | (simp_all; done))
  · refine A_aload_n dX2_takeNewName_21 rfl 0 rfl ?_
    refine A_iconst dX2_takeNewName_22 ?_
    refine A_aload_n dX2_takeNewName_23 rfl 0 rfl ?_
    refine A_geti fl_X2_33 lk_51 rfl dX2_takeNewName_24 ?_
    try simp (disch := omega) only [up_k, up_j, up_s, KC_up, VC_up, idxC_up, eouC_up, up_k, up_j, up_s]
    refine A_Va2 mv_X2_82 lk_51 rfl rfl (c_X2_fail _ _ _) (Nat.le_of_ble_eq_true rfl) (by omega) (by omega) dX2_takeNewName_27 ?_
    try simp (disch := omega) only [KC_up, VC_up, idxC_up, eouC_up, up_k, up_j, up_s]
    exact A_zret dX2_takeNewName_30 (by (try simp (disch := omega) only [nnM, nxM, KC_up, VC_up, idxC_up, eouC_up, up_k, up_j, up_s]) <;> (repeat' split) <;> first | contradiction | (exfalso; omega) | rfl | (simp (disch := omega) only [KC_up, VC_up, idxC_up, eouC_up, up_k, up_j, up_s]; done) | (simp_all [b2i_t, b2i_f]; done)) (by (try simp (disch := omega) only [nnM, nxM, KC_up, VC_up, idxC_up, eouC_up, up_k, up_j, up_s]) <;> (repeat' split) <;> first | contradiction | (exfalso; omega) | with_reducible rfl | (simp (disch := omega) only [KC_up, VC_up, idxC_up, eouC_up, up_k, up_j, up_s]; done) | (simp_all; done))
set_option maxRecDepth 100000 in
set_option maxHeartbeats 4000000 in
theorem c_X2_takeMeant (σ : Sg) (r : Int) (hr : 0 ≤ r ∧ r < 8) : Ct l G yX2_takeMeant cX2_takeMeant 6 (some .boolean) 2 0 0 [.ref (lay G 51), .int (I32 r)] σ (some (.int (I32 (b2i (tmM σ r).1)))) ((tmM σ r).2) := by
  refine Ct.of (by decide +kernel) (Nat.le_of_ble_eq_true rfl) (fun f => ?_)
  show AW _ _ _ _ _ _ _ _ _ _ [(0, _), (1, _)] _ _
  refine A_aload_n dX2_takeMeant_0 rfl 0 rfl ?_
  refine A_getr fl_X2_21 lk_51 rfl dX2_takeMeant_1 ?_
  refine A_aload_n dX2_takeMeant_4 rfl 0 rfl ?_
  refine A_geti fl_X2_33 lk_51 rfl dX2_takeMeant_5 ?_
  refine A_Va1 mv_X2_92 lk_3 rfl rfl (c_X9_valueOf _ _) (Nat.le_of_ble_eq_true rfl) (by omega) (by omega) dX2_takeMeant_8 ?_
  try simp (disch := omega) only [KC_up, VC_up, idxC_up, eouC_up, up_k, up_j, up_s]
  refine A_lstore_n (lv2 := [(2, _), (0, _), (1, _)]) dX2_takeMeant_11 rfl (by decide) rfl ?_
  refine A_aload_n dX2_takeMeant_12 rfl 1 rfl ?_
  refine A_getr fl_X2_25 lk_51 rfl dX2_takeMeant_13 ?_
  refine A_getr fl_X2_68 lk_9 rfl dX2_takeMeant_16 ?_
  refine A_lload_n dX2_takeMeant_19 rfl 0 rfl ?_
  refine A_Va1 mv_X2_154 lk_12 rfl rfl (c_X4_indexOf_12 _ _) (Nat.le_of_ble_eq_true rfl) (by omega) (by omega) dX2_takeMeant_20 ?_
  try simp (disch := omega) only [KC_up, VC_up, idxC_up, eouC_up, up_k, up_j, up_s]
  refine A_istore (lv2 := [(4, _), (2, _), (0, _), (1, _)]) dX2_takeMeant_23 (by decide) rfl ?_
  refine A_aload_n dX2_takeMeant_25 rfl 2 rfl ?_
  refine A_getr fl_X2_25 lk_51 rfl dX2_takeMeant_26 ?_
  refine A_getr fl_X2_182 lk_9 rfl dX2_takeMeant_29 ?_
  refine A_lload_n dX2_takeMeant_32 rfl 1 rfl ?_
  refine A_Va1 mv_X2_154 lk_16 rfl rfl (c_X4_indexOf_16 _ _) (Nat.le_of_ble_eq_true rfl) (by omega) (by omega) dX2_takeMeant_33 ?_
  try simp (disch := omega) only [KC_up, VC_up, idxC_up, eouC_up, up_k, up_j, up_s]
  refine A_istore (lv2 := [(5, _), (4, _), (2, _), (0, _), (1, _)]) dX2_takeMeant_36 (by decide) rfl ?_
  refine A_iload dX2_takeMeant_38 1 rfl ?_
  refine A_iconst dX2_takeMeant_40 ?_
  refine J_icmp_eq (tgt := 63) dX2_takeMeant_41 (by decide) (by first | with_reducible exact i32_eq (KC_inr _ _) | with_reducible exact idxC_i32 _ _ _ | exact i32_eq (by assumption) | exact i32_eq ⟨by omega, by omega⟩ | with_reducible exact i32_i32 _ | rfl) (by first | with_reducible exact i32_eq (KC_inr _ _) | with_reducible exact idxC_i32 _ _ _ | exact i32_eq (by assumption) | exact i32_eq ⟨by omega, by omega⟩ | with_reducible exact i32_i32 _ | rfl) (fun h41 => ?_) (fun h41 => ?_)
  · refine A_iload dX2_takeMeant_63 0 rfl ?_
    refine A_iconst dX2_takeMeant_65 ?_
    refine J_icmp_eq (tgt := 80) dX2_takeMeant_66 (by decide) (by first | with_reducible exact i32_eq (KC_inr _ _) | with_reducible exact idxC_i32 _ _ _ | exact i32_eq (by assumption) | exact i32_eq ⟨by omega, by omega⟩ | with_reducible exact i32_i32 _ | rfl) (by first | with_reducible exact i32_eq (KC_inr _ _) | with_reducible exact idxC_i32 _ _ _ | exact i32_eq (by assumption) | exact i32_eq ⟨by omega, by omega⟩ | with_reducible exact i32_i32 _ | rfl) (fun h66 => ?_) (fun h66 => ?_)
    · refine A_aload_n dX2_takeMeant_80 rfl 3 rfl ?_
      refine A_iconst dX2_takeMeant_81 ?_
      refine A_aload_n dX2_takeMeant_82 rfl 3 rfl ?_
      refine A_geti fl_X2_33 lk_51 rfl dX2_takeMeant_83 ?_
      try simp (disch := omega) only [up_k, up_j, up_s, KC_up, VC_up, idxC_up, eouC_up, up_k, up_j, up_s]
      refine A_Va2 mv_X2_82 lk_51 rfl rfl (c_X2_fail _ _ _) (Nat.le_of_ble_eq_true rfl) (by omega) (by omega) dX2_takeMeant_86 ?_
      try simp (disch := omega) only [KC_up, VC_up, idxC_up, eouC_up, up_k, up_j, up_s]
      exact A_zret dX2_takeMeant_89 (by (try simp (disch := omega) only [tmM, nxM, KC_up, VC_up, idxC_up, eouC_up, up_k, up_j, up_s]) <;> (repeat' split) <;> first | contradiction | (exfalso; omega) | rfl | (simp (disch := omega) only [KC_up, VC_up, idxC_up, eouC_up, up_k, up_j, up_s]; done) | (simp_all [b2i_t, b2i_f]; done)) (by (try simp (disch := omega) only [tmM, nxM, KC_up, VC_up, idxC_up, eouC_up, up_k, up_j, up_s]) <;> (repeat' split) <;> first | contradiction | (exfalso; omega) | with_reducible rfl | (simp (disch := omega) only [KC_up, VC_up, idxC_up, eouC_up, up_k, up_j, up_s]; done) | (simp_all; done))
    · refine A_aload_n dX2_takeMeant_69 rfl 3 rfl ?_
      refine A_getr fl_X2_18 lk_51 rfl dX2_takeMeant_70 ?_
      refine A_iload_n dX2_takeMeant_73 rfl 4 rfl ?_
      refine A_iload dX2_takeMeant_74 0 rfl ?_
      refine J_iast lk_54 (by first | with_reducible exact i32_eq (KC_inr _ _) | with_reducible exact idxC_i32 _ _ _ | exact i32_eq (by assumption) | exact i32_eq ⟨by omega, by omega⟩ | with_reducible exact i32_i32 _ | rfl) (by omega) (by omega) (by decide) dX2_takeMeant_76 ?_
      refine A_goto (tgt := 90) dX2_takeMeant_77 (by decide) ?_
      refine A_aload_n dX2_takeMeant_90 rfl 3 rfl ?_
      refine A_dup dX2_takeMeant_91 rfl ?_
      refine A_geti fl_X2_33 lk_51 rfl dX2_takeMeant_92 ?_
      try simp (disch := omega) only [up_k, up_j, up_s, KC_up, VC_up, idxC_up, eouC_up, up_k, up_j, up_s]
      refine A_iconst dX2_takeMeant_95 ?_
      refine A_iadd dX2_takeMeant_96 ?_
      refine A_puti fl_X2_33 lk_51 rfl dX2_takeMeant_97 ?_
      refine A_iconst dX2_takeMeant_100 ?_
      exact A_zret2 dX2_takeMeant_101 (by decide) (by (try simp (disch := omega) only [tmM, nxM, KC_up, VC_up, idxC_up, eouC_up, up_k, up_j, up_s]) <;> (repeat' split) <;> first | contradiction | (exfalso; omega) | rfl | (simp (disch := omega) only [KC_up, VC_up, idxC_up, eouC_up, up_k, up_j, up_s]; done) | (simp_all [b2i_t, b2i_f]; done)) (by (try simp (disch := omega) only [tmM, nxM, KC_up, VC_up, idxC_up, eouC_up, up_k, up_j, up_s]) <;> (repeat' split) <;> first | contradiction | (exfalso; omega) | with_reducible rfl | (simp (disch := omega) only [KC_up, VC_up, idxC_up, eouC_up, up_k, up_j, up_s]; done) | (simp_all; done))
  · refine A_aload_n dX2_takeMeant_44 rfl 3 rfl ?_
    refine A_getr fl_X2_25 lk_51 rfl dX2_takeMeant_45 ?_
    refine A_getr fl_X2_199 lk_9 rfl dX2_takeMeant_48 ?_
    refine A_getr fl_X2_209 lk_18 rfl dX2_takeMeant_51 ?_
    refine A_iload_n dX2_takeMeant_54 rfl 4 rfl ?_
    refine A_iconst dX2_takeMeant_55 ?_
    refine A_iload dX2_takeMeant_56 1 rfl ?_
    refine A_ishl dX2_takeMeant_58 ?_
    refine J_iast lk_22 (by first | with_reducible exact i32_eq (KC_inr _ _) | with_reducible exact idxC_i32 _ _ _ | exact i32_eq (by assumption) | exact i32_eq ⟨by omega, by omega⟩ | with_reducible exact i32_i32 _ | rfl) (by omega) (by omega) (by decide) dX2_takeMeant_59 ?_
    refine A_goto (tgt := 90) dX2_takeMeant_60 (by decide) ?_
    refine A_aload_n dX2_takeMeant_90 rfl 3 rfl ?_
    refine A_dup dX2_takeMeant_91 rfl ?_
    refine A_geti fl_X2_33 lk_51 rfl dX2_takeMeant_92 ?_
    try simp (disch := omega) only [up_k, up_j, up_s, KC_up, VC_up, idxC_up, eouC_up, up_k, up_j, up_s]
    refine A_iconst dX2_takeMeant_95 ?_
    refine A_iadd dX2_takeMeant_96 ?_
    refine A_puti fl_X2_33 lk_51 rfl dX2_takeMeant_97 ?_
    refine A_iconst dX2_takeMeant_100 ?_
    exact A_zret2 dX2_takeMeant_101 (by decide) (by (try simp (disch := omega) only [tmM, nxM, KC_up, VC_up, idxC_up, eouC_up, up_k, up_j, up_s]) <;> (repeat' split) <;> first | contradiction | (exfalso; omega) | rfl | (simp (disch := omega) only [KC_up, VC_up, idxC_up, eouC_up, up_k, up_j, up_s]; done) | (simp_all [b2i_t, b2i_f]; done)) (by (try simp (disch := omega) only [tmM, nxM, KC_up, VC_up, idxC_up, eouC_up, up_k, up_j, up_s]) <;> (repeat' split) <;> first | contradiction | (exfalso; omega) | with_reducible rfl | (simp (disch := omega) only [KC_up, VC_up, idxC_up, eouC_up, up_k, up_j, up_s]; done) | (simp_all; done))
set_option maxRecDepth 100000 in
set_option maxHeartbeats 4000000 in
theorem c_X2_takeApart (σ : Sg) (r : Int) (hr : 0 ≤ r ∧ r < 8) : Ct l G yX2_takeApart cX2_takeApart 2 (some .boolean) 3 0 0 [.ref (lay G 51), .int (I32 r)] σ (some (.int (I32 (b2i (apM σ r).1)))) ((apM σ r).2) := by
  refine Ct.of (by decide +kernel) (Nat.le_of_ble_eq_true rfl) (fun f => ?_)
  show AW _ _ _ _ _ _ _ _ _ _ [(0, _), (1, _)] _ _
  refine A_aload_n dX2_takeApart_0 rfl 0 rfl ?_
  refine A_iconst dX2_takeApart_1 ?_
  refine A_bipush dX2_takeApart_2 (by decide +kernel) ?_
  refine A_Va2 mv_X2_99 lk_51 rfl rfl (c_X2_takeNumber _ _ _) (Nat.le_of_ble_eq_true rfl) (by omega) (by omega) dX2_takeApart_4 ?_
  try simp (disch := omega) only [KC_up, VC_up, idxC_up, eouC_up, up_k, up_j, up_s]
  refine A_ifne_b (tgt := 12) dX2_takeApart_7 (by decide) (fun h7 => ?_) (fun h7 => ?_)
  · refine A_aload_n dX2_takeApart_12 rfl 0 rfl ?_
    refine A_getr fl_X2_25 lk_51 rfl dX2_takeApart_13 ?_
    refine A_getr fl_X2_199 lk_9 rfl dX2_takeApart_16 ?_
    refine A_getr fl_X2_222 lk_18 rfl dX2_takeApart_19 ?_
    refine A_iload_n dX2_takeApart_22 rfl 1 rfl ?_
    refine A_iconst dX2_takeApart_23 ?_
    refine J_iast lk_19 (by first | with_reducible exact i32_eq (KC_inr _ _) | with_reducible exact idxC_i32 _ _ _ | exact i32_eq (by assumption) | exact i32_eq ⟨by omega, by omega⟩ | with_reducible exact i32_i32 _ | rfl) (by omega) (by omega) (by decide) dX2_takeApart_24 ?_
    refine A_aload_n dX2_takeApart_25 rfl 0 rfl ?_
    refine A_getr fl_X2_25 lk_51 rfl dX2_takeApart_26 ?_
    refine A_getr fl_X2_199 lk_9 rfl dX2_takeApart_29 ?_
    refine A_getr fl_X2_225 lk_18 rfl dX2_takeApart_32 ?_
    refine A_iload_n dX2_takeApart_35 rfl 1 rfl ?_
    refine A_aload_n dX2_takeApart_36 rfl 0 rfl ?_
    refine A_geti fl_X2_105 lk_51 rfl dX2_takeApart_37 ?_
    try simp (disch := omega) only [up_k, up_j, up_s, KC_up, VC_up, idxC_up, eouC_up, up_k, up_j, up_s]
    refine J_iast lk_20 (by first | with_reducible exact i32_eq (KC_inr _ _) | with_reducible exact idxC_i32 _ _ _ | exact i32_eq (by assumption) | exact i32_eq ⟨by omega, by omega⟩ | with_reducible exact i32_i32 _ | rfl) (by omega) (by omega) (by decide) dX2_takeApart_40 ?_
    refine A_aload_n dX2_takeApart_41 rfl 0 rfl ?_
    refine A_iload_n dX2_takeApart_42 rfl 1 rfl ?_
    refine A_Va1 mv_X2_228 lk_51 rfl rfl (c_X2_takeMeant _ _ (by omega)) (Nat.le_of_ble_eq_true rfl) (by omega) (by omega) dX2_takeApart_43 ?_
    try simp (disch := omega) only [KC_up, VC_up, idxC_up, eouC_up, up_k, up_j, up_s]
    exact A_zret dX2_takeApart_46 (by (try simp (disch := omega) only [apM, KC_up, VC_up, idxC_up, eouC_up, up_k, up_j, up_s]) <;> (repeat' split) <;> first | contradiction | (exfalso; omega) | rfl | (simp (disch := omega) only [KC_up, VC_up, idxC_up, eouC_up, up_k, up_j, up_s]; done) | (simp_all [b2i_t, b2i_f]; done)) (by (try simp (disch := omega) only [apM, KC_up, VC_up, idxC_up, eouC_up, up_k, up_j, up_s]) <;> (repeat' split) <;> first | contradiction | (exfalso; omega) | with_reducible rfl | (simp (disch := omega) only [KC_up, VC_up, idxC_up, eouC_up, up_k, up_j, up_s]; done) | (simp_all; done))
  · refine A_iconst dX2_takeApart_10 ?_
    exact A_zret2 dX2_takeApart_11 (by decide) (by (try simp (disch := omega) only [apM, KC_up, VC_up, idxC_up, eouC_up, up_k, up_j, up_s]) <;> (repeat' split) <;> first | contradiction | (exfalso; omega) | rfl | (simp (disch := omega) only [KC_up, VC_up, idxC_up, eouC_up, up_k, up_j, up_s]; done) | (simp_all [b2i_t, b2i_f]; done)) (by (try simp (disch := omega) only [apM, KC_up, VC_up, idxC_up, eouC_up, up_k, up_j, up_s]) <;> (repeat' split) <;> first | contradiction | (exfalso; omega) | with_reducible rfl | (simp (disch := omega) only [KC_up, VC_up, idxC_up, eouC_up, up_k, up_j, up_s]; done) | (simp_all; done))
set_option maxRecDepth 100000 in
set_option maxHeartbeats 4000000 in
theorem c_X2_takeSpan (σ : Sg) (r s lo : Int) (hr : 0 ≤ r ∧ r < 8) : Ct l G yX2_takeSpan cX2_takeSpan 4 (some .boolean) 3 0 0 [.ref (lay G 51), .int (I32 r), .int (I32 s), .int (I32 lo)] σ (some (.int (I32 (b2i (spM σ r s lo).1)))) ((spM σ r s lo).2) := by
  refine Ct.of (by decide +kernel) (Nat.le_of_ble_eq_true rfl) (fun f => ?_)
  show AW _ _ _ _ _ _ _ _ _ _ [(0, _), (1, _), (2, _), (3, _)] _ _
  refine A_aload_n dX2_takeSpan_0 rfl 0 rfl ?_
  refine A_iload_n dX2_takeSpan_1 rfl 3 rfl ?_
  refine A_bipush dX2_takeSpan_2 (by decide +kernel) ?_
  refine A_Va2 mv_X2_99 lk_51 rfl rfl (c_X2_takeNumber _ _ _) (Nat.le_of_ble_eq_true rfl) (by omega) (by omega) dX2_takeSpan_4 ?_
  try simp (disch := omega) only [KC_up, VC_up, idxC_up, eouC_up, up_k, up_j, up_s]
  refine A_ifne_b (tgt := 12) dX2_takeSpan_7 (by decide) (fun h7 => ?_) (fun h7 => ?_)
  · refine A_aload_n dX2_takeSpan_12 rfl 0 rfl ?_
    refine A_getr fl_X2_25 lk_51 rfl dX2_takeSpan_13 ?_
    refine A_getr fl_X2_199 lk_9 rfl dX2_takeSpan_16 ?_
    refine A_getr fl_X2_222 lk_18 rfl dX2_takeSpan_19 ?_
    refine A_iload_n dX2_takeSpan_22 rfl 1 rfl ?_
    refine A_iload_n dX2_takeSpan_23 rfl 2 rfl ?_
    refine J_iast lk_19 (by first | with_reducible exact i32_eq (KC_inr _ _) | with_reducible exact idxC_i32 _ _ _ | exact i32_eq (by assumption) | exact i32_eq ⟨by omega, by omega⟩ | with_reducible exact i32_i32 _ | rfl) (by omega) (by omega) (by decide) dX2_takeSpan_24 ?_
    refine A_aload_n dX2_takeSpan_25 rfl 0 rfl ?_
    refine A_getr fl_X2_25 lk_51 rfl dX2_takeSpan_26 ?_
    refine A_getr fl_X2_199 lk_9 rfl dX2_takeSpan_29 ?_
    refine A_getr fl_X2_225 lk_18 rfl dX2_takeSpan_32 ?_
    refine A_iload_n dX2_takeSpan_35 rfl 1 rfl ?_
    refine A_aload_n dX2_takeSpan_36 rfl 0 rfl ?_
    refine A_geti fl_X2_105 lk_51 rfl dX2_takeSpan_37 ?_
    try simp (disch := omega) only [up_k, up_j, up_s, KC_up, VC_up, idxC_up, eouC_up, up_k, up_j, up_s]
    refine J_iast lk_20 (by first | with_reducible exact i32_eq (KC_inr _ _) | with_reducible exact idxC_i32 _ _ _ | exact i32_eq (by assumption) | exact i32_eq ⟨by omega, by omega⟩ | with_reducible exact i32_i32 _ | rfl) (by omega) (by omega) (by decide) dX2_takeSpan_40 ?_
    refine A_aload_n dX2_takeSpan_41 rfl 0 rfl ?_
    refine A_iload_n dX2_takeSpan_42 rfl 1 rfl ?_
    refine A_Va1 mv_X2_228 lk_51 rfl rfl (c_X2_takeMeant _ _ (by omega)) (Nat.le_of_ble_eq_true rfl) (by omega) (by omega) dX2_takeSpan_43 ?_
    try simp (disch := omega) only [KC_up, VC_up, idxC_up, eouC_up, up_k, up_j, up_s]
    refine A_ifne_b (tgt := 51) dX2_takeSpan_46 (by decide) (fun h46 => ?_) (fun h46 => ?_)
    · refine A_aload_n dX2_takeSpan_51 rfl 0 rfl ?_
      refine A_dup dX2_takeSpan_52 rfl ?_
      refine A_geti fl_X2_33 lk_51 rfl dX2_takeSpan_53 ?_
      try simp (disch := omega) only [up_k, up_j, up_s, KC_up, VC_up, idxC_up, eouC_up, up_k, up_j, up_s]
      refine A_iconst dX2_takeSpan_56 ?_
      refine A_iadd dX2_takeSpan_57 ?_
      refine A_puti fl_X2_33 lk_51 rfl dX2_takeSpan_58 ?_
      refine A_aload_n dX2_takeSpan_61 rfl 0 rfl ?_
      refine A_iconst dX2_takeSpan_62 ?_
      refine A_bipush dX2_takeSpan_63 (by decide +kernel) ?_
      refine A_Va2 mv_X2_99 lk_51 rfl rfl (c_X2_takeNumber _ _ _) (Nat.le_of_ble_eq_true rfl) (by omega) (by omega) dX2_takeSpan_65 ?_
      try simp (disch := omega) only [KC_up, VC_up, idxC_up, eouC_up, up_k, up_j, up_s]
      refine A_ifne_b (tgt := 73) dX2_takeSpan_68 (by decide) (fun h68 => ?_) (fun h68 => ?_)
      · refine A_aload_n dX2_takeSpan_73 rfl 0 rfl ?_
        refine A_getr fl_X2_25 lk_51 rfl dX2_takeSpan_74 ?_
        refine A_getr fl_X2_199 lk_9 rfl dX2_takeSpan_77 ?_
        refine A_getr fl_X2_206 lk_18 rfl dX2_takeSpan_80 ?_
        refine A_iload_n dX2_takeSpan_83 rfl 1 rfl ?_
        refine A_aload_n dX2_takeSpan_84 rfl 0 rfl ?_
        refine A_geti fl_X2_105 lk_51 rfl dX2_takeSpan_85 ?_
        try simp (disch := omega) only [up_k, up_j, up_s, KC_up, VC_up, idxC_up, eouC_up, up_k, up_j, up_s]
        refine J_iast lk_21 (by first | with_reducible exact i32_eq (KC_inr _ _) | with_reducible exact idxC_i32 _ _ _ | exact i32_eq (by assumption) | exact i32_eq ⟨by omega, by omega⟩ | with_reducible exact i32_i32 _ | rfl) (by omega) (by omega) (by decide) dX2_takeSpan_88 ?_
        refine A_iconst dX2_takeSpan_89 ?_
        exact A_zret2 dX2_takeSpan_90 (by decide) (by (try simp (disch := omega) only [spM, sp3M, sp2M, sp1M, nxM, KC_up, VC_up, idxC_up, eouC_up, up_k, up_j, up_s]) <;> (repeat' split) <;> first | contradiction | (exfalso; omega) | rfl | (simp (disch := omega) only [KC_up, VC_up, idxC_up, eouC_up, up_k, up_j, up_s]; done) | (simp_all [b2i_t, b2i_f]; done)) (by (try simp (disch := omega) only [spM, sp3M, sp2M, sp1M, nxM, KC_up, VC_up, idxC_up, eouC_up, up_k, up_j, up_s]) <;> (repeat' split) <;> first | contradiction | (exfalso; omega) | with_reducible rfl | (simp (disch := omega) only [KC_up, VC_up, idxC_up, eouC_up, up_k, up_j, up_s]; done) | (simp_all; done))
      · refine A_iconst dX2_takeSpan_71 ?_
        exact A_zret2 dX2_takeSpan_72 (by decide) (by (try simp (disch := omega) only [spM, sp3M, sp2M, sp1M, nxM, KC_up, VC_up, idxC_up, eouC_up, up_k, up_j, up_s]) <;> (repeat' split) <;> first | contradiction | (exfalso; omega) | rfl | (simp (disch := omega) only [KC_up, VC_up, idxC_up, eouC_up, up_k, up_j, up_s]; done) | (simp_all [b2i_t, b2i_f]; done)) (by (try simp (disch := omega) only [spM, sp3M, sp2M, sp1M, nxM, KC_up, VC_up, idxC_up, eouC_up, up_k, up_j, up_s]) <;> (repeat' split) <;> first | contradiction | (exfalso; omega) | with_reducible rfl | (simp (disch := omega) only [KC_up, VC_up, idxC_up, eouC_up, up_k, up_j, up_s]; done) | (simp_all; done))
    · refine A_iconst dX2_takeSpan_49 ?_
      exact A_zret2 dX2_takeSpan_50 (by decide) (by (try simp (disch := omega) only [spM, sp3M, sp2M, sp1M, nxM, KC_up, VC_up, idxC_up, eouC_up, up_k, up_j, up_s]) <;> (repeat' split) <;> first | contradiction | (exfalso; omega) | rfl | (simp (disch := omega) only [KC_up, VC_up, idxC_up, eouC_up, up_k, up_j, up_s]; done) | (simp_all [b2i_t, b2i_f]; done)) (by (try simp (disch := omega) only [spM, sp3M, sp2M, sp1M, nxM, KC_up, VC_up, idxC_up, eouC_up, up_k, up_j, up_s]) <;> (repeat' split) <;> first | contradiction | (exfalso; omega) | with_reducible rfl | (simp (disch := omega) only [KC_up, VC_up, idxC_up, eouC_up, up_k, up_j, up_s]; done) | (simp_all; done))
  · refine A_iconst dX2_takeSpan_10 ?_
    exact A_zret2 dX2_takeSpan_11 (by decide) (by (try simp (disch := omega) only [spM, sp3M, sp2M, sp1M, nxM, KC_up, VC_up, idxC_up, eouC_up, up_k, up_j, up_s]) <;> (repeat' split) <;> first | contradiction | (exfalso; omega) | rfl | (simp (disch := omega) only [KC_up, VC_up, idxC_up, eouC_up, up_k, up_j, up_s]; done) | (simp_all [b2i_t, b2i_f]; done)) (by (try simp (disch := omega) only [spM, sp3M, sp2M, sp1M, nxM, KC_up, VC_up, idxC_up, eouC_up, up_k, up_j, up_s]) <;> (repeat' split) <;> first | contradiction | (exfalso; omega) | with_reducible rfl | (simp (disch := omega) only [KC_up, VC_up, idxC_up, eouC_up, up_k, up_j, up_s]; done) | (simp_all; done))
set_option maxRecDepth 100000 in
set_option maxHeartbeats 4000000 in
theorem c_X2_takeEnergy (σ : Sg) (r : Int) (hr : 0 ≤ r ∧ r < 8) : Ct l G yX2_takeEnergy cX2_takeEnergy 3 (some .boolean) 2 0 0 [.ref (lay G 51), .int (I32 r)] σ (some (.int (I32 (b2i (enM σ r).1)))) ((enM σ r).2) := by
  refine Ct.of (by decide +kernel) (Nat.le_of_ble_eq_true rfl) (fun f => ?_)
  show AW _ _ _ _ _ _ _ _ _ _ [(0, _), (1, _)] _ _
  refine A_aload_n dX2_takeEnergy_0 rfl 0 rfl ?_
  refine A_iconst dX2_takeEnergy_1 ?_
  refine A_sipush dX2_takeEnergy_2 (by decide +kernel) ?_
  refine A_Va2 mv_X2_99 lk_51 rfl rfl (c_X2_takeNumber _ _ _) (Nat.le_of_ble_eq_true rfl) (by omega) (by omega) dX2_takeEnergy_5 ?_
  try simp (disch := omega) only [KC_up, VC_up, idxC_up, eouC_up, up_k, up_j, up_s]
  refine A_ifne_b (tgt := 13) dX2_takeEnergy_8 (by decide) (fun h8 => ?_) (fun h8 => ?_)
  · refine A_aload_n dX2_takeEnergy_13 rfl 0 rfl ?_
    refine A_geti fl_X2_105 lk_51 rfl dX2_takeEnergy_14 ?_
    try simp (disch := omega) only [up_k, up_j, up_s, KC_up, VC_up, idxC_up, eouC_up, up_k, up_j, up_s]
    refine A_istore_n (lv2 := [(2, _), (0, _), (1, _)]) dX2_takeEnergy_17 rfl (by decide) rfl ?_
    refine A_aload_n dX2_takeEnergy_18 rfl 1 rfl ?_
    refine A_dup dX2_takeEnergy_19 rfl ?_
    refine A_geti fl_X2_33 lk_51 rfl dX2_takeEnergy_20 ?_
    try simp (disch := omega) only [up_k, up_j, up_s, KC_up, VC_up, idxC_up, eouC_up, up_k, up_j, up_s]
    refine A_iconst dX2_takeEnergy_23 ?_
    refine A_iadd dX2_takeEnergy_24 ?_
    refine A_puti fl_X2_33 lk_51 rfl dX2_takeEnergy_25 ?_
    refine A_aload_n dX2_takeEnergy_28 rfl 1 rfl ?_
    refine A_iload_n dX2_takeEnergy_29 rfl 0 rfl ?_
    refine A_sipush dX2_takeEnergy_30 (by decide +kernel) ?_
    refine A_Va2 mv_X2_99 lk_51 rfl rfl (c_X2_takeNumber _ _ _) (Nat.le_of_ble_eq_true rfl) (by omega) (by omega) dX2_takeEnergy_33 ?_
    try simp (disch := omega) only [KC_up, VC_up, idxC_up, eouC_up, up_k, up_j, up_s]
    refine A_ifne_b (tgt := 41) dX2_takeEnergy_36 (by decide) (fun h36 => ?_) (fun h36 => ?_)
    · refine A_aload_n dX2_takeEnergy_41 rfl 1 rfl ?_
      refine A_getr fl_X2_25 lk_51 rfl dX2_takeEnergy_42 ?_
      refine A_getr fl_X2_199 lk_9 rfl dX2_takeEnergy_45 ?_
      refine A_getr fl_X2_222 lk_18 rfl dX2_takeEnergy_48 ?_
      refine A_iload_n dX2_takeEnergy_51 rfl 2 rfl ?_
      refine A_iconst dX2_takeEnergy_52 ?_
      refine J_iast lk_19 (by first | with_reducible exact i32_eq (KC_inr _ _) | with_reducible exact idxC_i32 _ _ _ | exact i32_eq (by assumption) | exact i32_eq ⟨by omega, by omega⟩ | with_reducible exact i32_i32 _ | rfl) (by omega) (by omega) (by decide) dX2_takeEnergy_53 ?_
      refine A_aload_n dX2_takeEnergy_54 rfl 1 rfl ?_
      refine A_getr fl_X2_25 lk_51 rfl dX2_takeEnergy_55 ?_
      refine A_getr fl_X2_199 lk_9 rfl dX2_takeEnergy_58 ?_
      refine A_getr fl_X2_225 lk_18 rfl dX2_takeEnergy_61 ?_
      refine A_iload_n dX2_takeEnergy_64 rfl 2 rfl ?_
      refine A_iload_n dX2_takeEnergy_65 rfl 0 rfl ?_
      refine J_iast lk_20 (by first | with_reducible exact i32_eq (KC_inr _ _) | with_reducible exact idxC_i32 _ _ _ | exact i32_eq (by assumption) | exact i32_eq ⟨by omega, by omega⟩ | with_reducible exact i32_i32 _ | rfl) (by omega) (by omega) (by decide) dX2_takeEnergy_66 ?_
      refine A_aload_n dX2_takeEnergy_67 rfl 1 rfl ?_
      refine A_getr fl_X2_25 lk_51 rfl dX2_takeEnergy_68 ?_
      refine A_getr fl_X2_199 lk_9 rfl dX2_takeEnergy_71 ?_
      refine A_getr fl_X2_206 lk_18 rfl dX2_takeEnergy_74 ?_
      refine A_iload_n dX2_takeEnergy_77 rfl 2 rfl ?_
      refine A_aload_n dX2_takeEnergy_78 rfl 1 rfl ?_
      refine A_geti fl_X2_105 lk_51 rfl dX2_takeEnergy_79 ?_
      try simp (disch := omega) only [up_k, up_j, up_s, KC_up, VC_up, idxC_up, eouC_up, up_k, up_j, up_s]
      refine J_iast lk_21 (by first | with_reducible exact i32_eq (KC_inr _ _) | with_reducible exact idxC_i32 _ _ _ | exact i32_eq (by assumption) | exact i32_eq ⟨by omega, by omega⟩ | with_reducible exact i32_i32 _ | rfl) (by omega) (by omega) (by decide) dX2_takeEnergy_82 ?_
      refine A_iconst dX2_takeEnergy_83 ?_
      exact A_zret2 dX2_takeEnergy_84 (by decide) (by (try simp (disch := omega) only [enM, en2M, nxM, KC_up, VC_up, idxC_up, eouC_up, up_k, up_j, up_s]) <;> (repeat' split) <;> first | contradiction | (exfalso; omega) | rfl | (simp (disch := omega) only [KC_up, VC_up, idxC_up, eouC_up, up_k, up_j, up_s]; done) | (simp_all [b2i_t, b2i_f]; done)) (by (try simp (disch := omega) only [enM, en2M, nxM, KC_up, VC_up, idxC_up, eouC_up, up_k, up_j, up_s]) <;> (repeat' split) <;> first | contradiction | (exfalso; omega) | with_reducible rfl | (simp (disch := omega) only [KC_up, VC_up, idxC_up, eouC_up, up_k, up_j, up_s]; done) | (simp_all; done))
    · refine A_iconst dX2_takeEnergy_39 ?_
      exact A_zret2 dX2_takeEnergy_40 (by decide) (by (try simp (disch := omega) only [enM, en2M, nxM, KC_up, VC_up, idxC_up, eouC_up, up_k, up_j, up_s]) <;> (repeat' split) <;> first | contradiction | (exfalso; omega) | rfl | (simp (disch := omega) only [KC_up, VC_up, idxC_up, eouC_up, up_k, up_j, up_s]; done) | (simp_all [b2i_t, b2i_f]; done)) (by (try simp (disch := omega) only [enM, en2M, nxM, KC_up, VC_up, idxC_up, eouC_up, up_k, up_j, up_s]) <;> (repeat' split) <;> first | contradiction | (exfalso; omega) | with_reducible rfl | (simp (disch := omega) only [KC_up, VC_up, idxC_up, eouC_up, up_k, up_j, up_s]; done) | (simp_all; done))
  · refine A_iconst dX2_takeEnergy_11 ?_
    exact A_zret2 dX2_takeEnergy_12 (by decide) (by (try simp (disch := omega) only [enM, en2M, nxM, KC_up, VC_up, idxC_up, eouC_up, up_k, up_j, up_s]) <;> (repeat' split) <;> first | contradiction | (exfalso; omega) | rfl | (simp (disch := omega) only [KC_up, VC_up, idxC_up, eouC_up, up_k, up_j, up_s]; done) | (simp_all [b2i_t, b2i_f]; done)) (by (try simp (disch := omega) only [enM, en2M, nxM, KC_up, VC_up, idxC_up, eouC_up, up_k, up_j, up_s]) <;> (repeat' split) <;> first | contradiction | (exfalso; omega) | with_reducible rfl | (simp (disch := omega) only [KC_up, VC_up, idxC_up, eouC_up, up_k, up_j, up_s]; done) | (simp_all; done))
set_option maxRecDepth 100000 in
set_option maxHeartbeats 4000000 in
theorem c_X2_readRule (σ : Sg)  : Ct l G yX2_readRule cX2_readRule 4 (some .boolean) 4 0 0 [.ref (lay G 51)] σ (some (.int (I32 (b2i (rlM σ).1)))) ((rlM σ).2) := by
  refine Ct.of (by decide +kernel) (Nat.le_of_ble_eq_true rfl) (fun f => ?_)
  show AW _ _ _ _ _ _ _ _ _ _ [(0, _)] _ _
  refine A_aload_n dX2_readRule_0 rfl 0 rfl ?_
  refine A_getr fl_X2_25 lk_51 rfl dX2_readRule_1 ?_
  refine A_getr fl_X2_199 lk_9 rfl dX2_readRule_4 ?_
  refine A_geti fl_X2_203 lk_18 rfl dX2_readRule_7 ?_
  rw [← I32_i32 (σ 18 4)]
  refine A_istore_n (lv2 := [(1, _), (0, _)]) dX2_readRule_10 rfl (by decide) rfl ?_
  refine A_iload_n dX2_readRule_11 rfl 0 rfl ?_
  refine J_if_lt (tgt := 21) dX2_readRule_12 (by decide) (by first | with_reducible exact i32_eq (KC_inr _ _) | with_reducible exact idxC_i32 _ _ _ | exact i32_eq (by assumption) | exact i32_eq ⟨by omega, by omega⟩ | with_reducible exact i32_i32 _ | rfl) (fun h12 => ?_) (fun h12 => ?_)
  · refine A_aload_n dX2_readRule_21 rfl 1 rfl ?_
    refine A_iconst dX2_readRule_22 ?_
    refine A_aload_n dX2_readRule_23 rfl 1 rfl ?_
    refine A_geti fl_X2_33 lk_51 rfl dX2_readRule_24 ?_
    refine A_Va2 mv_X2_82 lk_51 rfl rfl (c_X2_fail _ _ _) (Nat.le_of_ble_eq_true rfl) (by omega) (by omega) dX2_readRule_27 ?_
    try simp (disch := omega) only [KC_up, VC_up, idxC_up, eouC_up, up_k, up_j, up_s]
    exact A_zret dX2_readRule_30 (by (try simp (disch := omega) only [rlM, rl2M, rl1M, rl0M, nxM, KC_up, VC_up, idxC_up, eouC_up, up_k, up_j, up_s]) <;> (repeat' split) <;> first | contradiction | (exfalso; omega) | rfl | (simp (disch := omega) only [KC_up, VC_up, idxC_up, eouC_up, up_k, up_j, up_s]; done) | (simp_all [b2i_t, b2i_f]; done)) (by (try simp (disch := omega) only [rlM, rl2M, rl1M, rl0M, nxM, KC_up, VC_up, idxC_up, eouC_up, up_k, up_j, up_s]) <;> (repeat' split) <;> first | contradiction | (exfalso; omega) | with_reducible rfl | (simp (disch := omega) only [KC_up, VC_up, idxC_up, eouC_up, up_k, up_j, up_s]; done) | (simp_all; done))
  · refine A_iload_n dX2_readRule_15 rfl 0 rfl ?_
    refine A_bipush dX2_readRule_16 (by decide +kernel) ?_
    refine J_icmp_lt (tgt := 31) dX2_readRule_18 (by decide) (by first | with_reducible exact i32_eq (KC_inr _ _) | with_reducible exact idxC_i32 _ _ _ | exact i32_eq (by assumption) | exact i32_eq ⟨by omega, by omega⟩ | with_reducible exact i32_i32 _ | rfl) (by first | with_reducible exact i32_eq (KC_inr _ _) | with_reducible exact idxC_i32 _ _ _ | exact i32_eq (by assumption) | exact i32_eq ⟨by omega, by omega⟩ | with_reducible exact i32_i32 _ | rfl) (fun h18 => ?_) (fun h18 => ?_)
    · refine A_aload_n dX2_readRule_31 rfl 1 rfl ?_
      refine A_getr fl_X2_25 lk_51 rfl dX2_readRule_32 ?_
      refine A_getr fl_X2_199 lk_9 rfl dX2_readRule_35 ?_
      refine A_getr fl_X2_206 lk_18 rfl dX2_readRule_38 ?_
      refine A_iload_n dX2_readRule_41 rfl 0 rfl ?_
      refine A_iconst dX2_readRule_42 ?_
      refine J_iast lk_21 (by first | with_reducible exact i32_eq (KC_inr _ _) | with_reducible exact idxC_i32 _ _ _ | exact i32_eq (by assumption) | exact i32_eq ⟨by omega, by omega⟩ | with_reducible exact i32_i32 _ | rfl) (by omega) (by omega) (by decide) dX2_readRule_43 ?_
      refine A_aload_n dX2_readRule_44 rfl 1 rfl ?_
      refine A_getr fl_X2_25 lk_51 rfl dX2_readRule_45 ?_
      refine A_getr fl_X2_199 lk_9 rfl dX2_readRule_48 ?_
      refine A_getr fl_X2_209 lk_18 rfl dX2_readRule_51 ?_
      refine A_iload_n dX2_readRule_54 rfl 0 rfl ?_
      refine A_iconst dX2_readRule_55 ?_
      refine J_iast lk_22 (by first | with_reducible exact i32_eq (KC_inr _ _) | with_reducible exact idxC_i32 _ _ _ | exact i32_eq (by assumption) | exact i32_eq ⟨by omega, by omega⟩ | with_reducible exact i32_i32 _ | rfl) (by omega) (by omega) (by decide) dX2_readRule_56 ?_
      refine A_aload_n dX2_readRule_57 rfl 1 rfl ?_
      refine A_getr fl_X2_18 lk_51 rfl dX2_readRule_58 ?_
      refine A_iload_n dX2_readRule_61 rfl 0 rfl ?_
      refine A_iconst dX2_readRule_62 ?_
      refine J_iast lk_54 (by first | with_reducible exact i32_eq (KC_inr _ _) | with_reducible exact idxC_i32 _ _ _ | exact i32_eq (by assumption) | exact i32_eq ⟨by omega, by omega⟩ | with_reducible exact i32_i32 _ | rfl) (by omega) (by omega) (by decide) dX2_readRule_63 ?_
      refine A_aload_n dX2_readRule_64 rfl 1 rfl ?_
      refine A_dup dX2_readRule_65 rfl ?_
      refine A_geti fl_X2_33 lk_51 rfl dX2_readRule_66 ?_
      try simp (disch := omega) only [up_k, up_j, up_s, KC_up, VC_up, idxC_up, eouC_up, up_k, up_j, up_s]
      refine A_iconst dX2_readRule_69 ?_
      refine A_iadd dX2_readRule_70 ?_
      refine A_puti fl_X2_33 lk_51 rfl dX2_readRule_71 ?_
      refine A_aload_n dX2_readRule_74 rfl 1 rfl ?_
      refine A_getr fl_X2_21 lk_51 rfl dX2_readRule_75 ?_
      refine A_aload_n dX2_readRule_78 rfl 1 rfl ?_
      refine A_geti fl_X2_33 lk_51 rfl dX2_readRule_79 ?_
      try simp (disch := omega) only [up_k, up_j, up_s, KC_up, VC_up, idxC_up, eouC_up, up_k, up_j, up_s]
      refine A_Va1 mv_X2_51 lk_3 rfl rfl (c_X9_kindOf _ _) (Nat.le_of_ble_eq_true rfl) (by omega) (by omega) dX2_readRule_82 ?_
      try simp (disch := omega) only [KC_up, VC_up, idxC_up, eouC_up, up_k, up_j, up_s]
      refine A_istore_n (lv2 := [(2, _), (1, _), (0, _)]) dX2_readRule_85 rfl (by decide) rfl ?_
      refine A_aload_n dX2_readRule_86 rfl 2 rfl ?_
      refine A_dup dX2_readRule_87 rfl ?_
      refine A_geti fl_X2_33 lk_51 rfl dX2_readRule_88 ?_
      try simp (disch := omega) only [up_k, up_j, up_s, KC_up, VC_up, idxC_up, eouC_up, up_k, up_j, up_s]
      refine A_iconst dX2_readRule_91 ?_
      refine A_iadd dX2_readRule_92 ?_
      refine A_puti fl_X2_33 lk_51 rfl dX2_readRule_93 ?_
      refine A_iload_n dX2_readRule_96 rfl 0 rfl ?_
      by_cases h97_7 : KC σ (σ 51 6 + 1) = 7
      · refine J_tsIn (tgt := 124) dX2_readRule_97 ((i32_eq (KC_inr _ _)).trans h97_7) ⟨by decide, by decide⟩ (by decide) (by decide) rfl (by decide) ?_
        refine A_aload_n dX2_readRule_124 rfl 2 rfl ?_
        refine A_iload_n dX2_readRule_125 rfl 1 rfl ?_
        refine A_Va1 mv_X2_212 lk_51 rfl rfl (c_X2_takeApart _ _ (by omega)) (Nat.le_of_ble_eq_true rfl) (by omega) (by omega) dX2_readRule_126 ?_
        try simp (disch := omega) only [KC_up, VC_up, idxC_up, eouC_up, up_k, up_j, up_s]
        refine A_istore_n (lv2 := [(3, _), (2, _), (1, _), (0, _)]) dX2_readRule_129 rfl (by decide) rfl ?_
        refine A_goto (tgt := 161) dX2_readRule_130 (by decide) ?_
        refine A_iload_n dX2_readRule_161 rfl 0 rfl ?_
        refine A_ifne_b (tgt := 167) dX2_readRule_162 (by decide) (fun h162 => ?_) (fun h162 => ?_)
        · refine A_aload_n dX2_readRule_167 rfl 3 rfl ?_
          refine A_getr fl_X2_25 lk_51 rfl dX2_readRule_168 ?_
          refine A_getr fl_X2_199 lk_9 rfl dX2_readRule_171 ?_
          refine A_dup dX2_readRule_174 rfl ?_
          refine A_geti fl_X2_203 lk_18 rfl dX2_readRule_175 ?_
          try simp (disch := omega) only [up_k, up_j, up_s, KC_up, VC_up, idxC_up, eouC_up, up_k, up_j, up_s]
          refine A_iconst dX2_readRule_178 ?_
          refine A_iadd dX2_readRule_179 ?_
          refine A_puti fl_X2_203 lk_18 rfl dX2_readRule_180 ?_
          refine A_aload_n dX2_readRule_183 rfl 3 rfl ?_
          refine A_dup dX2_readRule_184 rfl ?_
          refine A_geti fl_X2_33 lk_51 rfl dX2_readRule_185 ?_
          try simp (disch := omega) only [up_k, up_j, up_s, KC_up, VC_up, idxC_up, eouC_up, up_k, up_j, up_s]
          refine A_iconst dX2_readRule_188 ?_
          refine A_iadd dX2_readRule_189 ?_
          refine A_puti fl_X2_33 lk_51 rfl dX2_readRule_190 ?_
          refine A_iconst dX2_readRule_193 ?_
          exact A_zret2 dX2_readRule_194 (by decide) (by (try simp (disch := omega) only [rlM, rl2M, rl1M, rl0M, nxM, KC_up, VC_up, idxC_up, eouC_up, up_k, up_j, up_s]) <;> (repeat' split) <;> first | contradiction | (exfalso; omega) | rfl | (simp (disch := omega) only [KC_up, VC_up, idxC_up, eouC_up, up_k, up_j, up_s]; done) | (simp_all [b2i_t, b2i_f]; done)) (by (try simp (disch := omega) only [rlM, rl2M, rl1M, rl0M, nxM, KC_up, VC_up, idxC_up, eouC_up, up_k, up_j, up_s]) <;> (repeat' split) <;> first | contradiction | (exfalso; omega) | with_reducible rfl | (simp (disch := omega) only [KC_up, VC_up, idxC_up, eouC_up, up_k, up_j, up_s]; done) | (simp_all; done))
        · refine A_iconst dX2_readRule_165 ?_
          exact A_zret2 dX2_readRule_166 (by decide) (by (try simp (disch := omega) only [rlM, rl2M, rl1M, rl0M, nxM, KC_up, VC_up, idxC_up, eouC_up, up_k, up_j, up_s]) <;> (repeat' split) <;> first | contradiction | (exfalso; omega) | rfl | (simp (disch := omega) only [KC_up, VC_up, idxC_up, eouC_up, up_k, up_j, up_s]; done) | (simp_all [b2i_t, b2i_f]; done)) (by (try simp (disch := omega) only [rlM, rl2M, rl1M, rl0M, nxM, KC_up, VC_up, idxC_up, eouC_up, up_k, up_j, up_s]) <;> (repeat' split) <;> first | contradiction | (exfalso; omega) | with_reducible rfl | (simp (disch := omega) only [KC_up, VC_up, idxC_up, eouC_up, up_k, up_j, up_s]; done) | (simp_all; done))
      by_cases h97_8 : KC σ (σ 51 6 + 1) = 8
      · refine J_tsIn (tgt := 133) dX2_readRule_97 ((i32_eq (KC_inr _ _)).trans h97_8) ⟨by decide, by decide⟩ (by decide) (by decide) rfl (by decide) ?_
        refine A_aload_n dX2_readRule_133 rfl 2 rfl ?_
        refine A_iload_n dX2_readRule_134 rfl 1 rfl ?_
        refine A_iconst dX2_readRule_135 ?_
        refine A_iconst dX2_readRule_136 ?_
        refine A_Va3 mv_X2_215 lk_51 rfl rfl (c_X2_takeSpan _ _ _ _ (by omega)) (Nat.le_of_ble_eq_true rfl) (by omega) (by omega) dX2_readRule_137 ?_
        try simp (disch := omega) only [KC_up, VC_up, idxC_up, eouC_up, up_k, up_j, up_s]
        refine A_istore_n (lv2 := [(3, _), (2, _), (1, _), (0, _)]) dX2_readRule_140 rfl (by decide) rfl ?_
        refine A_goto (tgt := 161) dX2_readRule_141 (by decide) ?_
        refine A_iload_n dX2_readRule_161 rfl 0 rfl ?_
        refine A_ifne_b (tgt := 167) dX2_readRule_162 (by decide) (fun h162 => ?_) (fun h162 => ?_)
        · refine A_aload_n dX2_readRule_167 rfl 3 rfl ?_
          refine A_getr fl_X2_25 lk_51 rfl dX2_readRule_168 ?_
          refine A_getr fl_X2_199 lk_9 rfl dX2_readRule_171 ?_
          refine A_dup dX2_readRule_174 rfl ?_
          refine A_geti fl_X2_203 lk_18 rfl dX2_readRule_175 ?_
          try simp (disch := omega) only [up_k, up_j, up_s, KC_up, VC_up, idxC_up, eouC_up, up_k, up_j, up_s]
          refine A_iconst dX2_readRule_178 ?_
          refine A_iadd dX2_readRule_179 ?_
          refine A_puti fl_X2_203 lk_18 rfl dX2_readRule_180 ?_
          refine A_aload_n dX2_readRule_183 rfl 3 rfl ?_
          refine A_dup dX2_readRule_184 rfl ?_
          refine A_geti fl_X2_33 lk_51 rfl dX2_readRule_185 ?_
          try simp (disch := omega) only [up_k, up_j, up_s, KC_up, VC_up, idxC_up, eouC_up, up_k, up_j, up_s]
          refine A_iconst dX2_readRule_188 ?_
          refine A_iadd dX2_readRule_189 ?_
          refine A_puti fl_X2_33 lk_51 rfl dX2_readRule_190 ?_
          refine A_iconst dX2_readRule_193 ?_
          exact A_zret2 dX2_readRule_194 (by decide) (by (try simp (disch := omega) only [rlM, rl2M, rl1M, rl0M, nxM, KC_up, VC_up, idxC_up, eouC_up, up_k, up_j, up_s]) <;> (repeat' split) <;> first | contradiction | (exfalso; omega) | rfl | (simp (disch := omega) only [KC_up, VC_up, idxC_up, eouC_up, up_k, up_j, up_s]; done) | (simp_all [b2i_t, b2i_f]; done)) (by (try simp (disch := omega) only [rlM, rl2M, rl1M, rl0M, nxM, KC_up, VC_up, idxC_up, eouC_up, up_k, up_j, up_s]) <;> (repeat' split) <;> first | contradiction | (exfalso; omega) | with_reducible rfl | (simp (disch := omega) only [KC_up, VC_up, idxC_up, eouC_up, up_k, up_j, up_s]; done) | (simp_all; done))
        · refine A_iconst dX2_readRule_165 ?_
          exact A_zret2 dX2_readRule_166 (by decide) (by (try simp (disch := omega) only [rlM, rl2M, rl1M, rl0M, nxM, KC_up, VC_up, idxC_up, eouC_up, up_k, up_j, up_s]) <;> (repeat' split) <;> first | contradiction | (exfalso; omega) | rfl | (simp (disch := omega) only [KC_up, VC_up, idxC_up, eouC_up, up_k, up_j, up_s]; done) | (simp_all [b2i_t, b2i_f]; done)) (by (try simp (disch := omega) only [rlM, rl2M, rl1M, rl0M, nxM, KC_up, VC_up, idxC_up, eouC_up, up_k, up_j, up_s]) <;> (repeat' split) <;> first | contradiction | (exfalso; omega) | with_reducible rfl | (simp (disch := omega) only [KC_up, VC_up, idxC_up, eouC_up, up_k, up_j, up_s]; done) | (simp_all; done))
      by_cases h97_9 : KC σ (σ 51 6 + 1) = 9
      · refine J_tsIn (tgt := 144) dX2_readRule_97 ((i32_eq (KC_inr _ _)).trans h97_9) ⟨by decide, by decide⟩ (by decide) (by decide) rfl (by decide) ?_
        refine A_aload_n dX2_readRule_144 rfl 2 rfl ?_
        refine A_iload_n dX2_readRule_145 rfl 1 rfl ?_
        refine A_iconst dX2_readRule_146 ?_
        refine A_iconst dX2_readRule_147 ?_
        refine A_Va3 mv_X2_215 lk_51 rfl rfl (c_X2_takeSpan _ _ _ _ (by omega)) (Nat.le_of_ble_eq_true rfl) (by omega) (by omega) dX2_readRule_148 ?_
        try simp (disch := omega) only [KC_up, VC_up, idxC_up, eouC_up, up_k, up_j, up_s]
        refine A_istore_n (lv2 := [(3, _), (2, _), (1, _), (0, _)]) dX2_readRule_151 rfl (by decide) rfl ?_
        refine A_goto (tgt := 161) dX2_readRule_152 (by decide) ?_
        refine A_iload_n dX2_readRule_161 rfl 0 rfl ?_
        refine A_ifne_b (tgt := 167) dX2_readRule_162 (by decide) (fun h162 => ?_) (fun h162 => ?_)
        · refine A_aload_n dX2_readRule_167 rfl 3 rfl ?_
          refine A_getr fl_X2_25 lk_51 rfl dX2_readRule_168 ?_
          refine A_getr fl_X2_199 lk_9 rfl dX2_readRule_171 ?_
          refine A_dup dX2_readRule_174 rfl ?_
          refine A_geti fl_X2_203 lk_18 rfl dX2_readRule_175 ?_
          try simp (disch := omega) only [up_k, up_j, up_s, KC_up, VC_up, idxC_up, eouC_up, up_k, up_j, up_s]
          refine A_iconst dX2_readRule_178 ?_
          refine A_iadd dX2_readRule_179 ?_
          refine A_puti fl_X2_203 lk_18 rfl dX2_readRule_180 ?_
          refine A_aload_n dX2_readRule_183 rfl 3 rfl ?_
          refine A_dup dX2_readRule_184 rfl ?_
          refine A_geti fl_X2_33 lk_51 rfl dX2_readRule_185 ?_
          try simp (disch := omega) only [up_k, up_j, up_s, KC_up, VC_up, idxC_up, eouC_up, up_k, up_j, up_s]
          refine A_iconst dX2_readRule_188 ?_
          refine A_iadd dX2_readRule_189 ?_
          refine A_puti fl_X2_33 lk_51 rfl dX2_readRule_190 ?_
          refine A_iconst dX2_readRule_193 ?_
          exact A_zret2 dX2_readRule_194 (by decide) (by (try simp (disch := omega) only [rlM, rl2M, rl1M, rl0M, nxM, KC_up, VC_up, idxC_up, eouC_up, up_k, up_j, up_s]) <;> (repeat' split) <;> first | contradiction | (exfalso; omega) | rfl | (simp (disch := omega) only [KC_up, VC_up, idxC_up, eouC_up, up_k, up_j, up_s]; done) | (simp_all [b2i_t, b2i_f]; done)) (by (try simp (disch := omega) only [rlM, rl2M, rl1M, rl0M, nxM, KC_up, VC_up, idxC_up, eouC_up, up_k, up_j, up_s]) <;> (repeat' split) <;> first | contradiction | (exfalso; omega) | with_reducible rfl | (simp (disch := omega) only [KC_up, VC_up, idxC_up, eouC_up, up_k, up_j, up_s]; done) | (simp_all; done))
        · refine A_iconst dX2_readRule_165 ?_
          exact A_zret2 dX2_readRule_166 (by decide) (by (try simp (disch := omega) only [rlM, rl2M, rl1M, rl0M, nxM, KC_up, VC_up, idxC_up, eouC_up, up_k, up_j, up_s]) <;> (repeat' split) <;> first | contradiction | (exfalso; omega) | rfl | (simp (disch := omega) only [KC_up, VC_up, idxC_up, eouC_up, up_k, up_j, up_s]; done) | (simp_all [b2i_t, b2i_f]; done)) (by (try simp (disch := omega) only [rlM, rl2M, rl1M, rl0M, nxM, KC_up, VC_up, idxC_up, eouC_up, up_k, up_j, up_s]) <;> (repeat' split) <;> first | contradiction | (exfalso; omega) | with_reducible rfl | (simp (disch := omega) only [KC_up, VC_up, idxC_up, eouC_up, up_k, up_j, up_s]; done) | (simp_all; done))
      refine J_tsOut (tgt := 155) dX2_readRule_97 (by rw [i32_eq (KC_inr _ _)]; omega) (by decide) ?_
      refine A_aload_n dX2_readRule_155 rfl 2 rfl ?_
      refine A_iload_n dX2_readRule_156 rfl 1 rfl ?_
      refine A_Va1 mv_X2_219 lk_51 rfl rfl (c_X2_takeEnergy _ _ (by omega)) (Nat.le_of_ble_eq_true rfl) (by omega) (by omega) dX2_readRule_157 ?_
      try simp (disch := omega) only [KC_up, VC_up, idxC_up, eouC_up, up_k, up_j, up_s]
      refine A_istore_n (lv2 := [(3, _), (2, _), (1, _), (0, _)]) dX2_readRule_160 rfl (by decide) rfl ?_
      refine A_iload_n dX2_readRule_161 rfl 0 rfl ?_
      refine A_ifne_b (tgt := 167) dX2_readRule_162 (by decide) (fun h162 => ?_) (fun h162 => ?_)
      · refine A_aload_n dX2_readRule_167 rfl 3 rfl ?_
        refine A_getr fl_X2_25 lk_51 rfl dX2_readRule_168 ?_
        refine A_getr fl_X2_199 lk_9 rfl dX2_readRule_171 ?_
        refine A_dup dX2_readRule_174 rfl ?_
        refine A_geti fl_X2_203 lk_18 rfl dX2_readRule_175 ?_
        try simp (disch := omega) only [up_k, up_j, up_s, KC_up, VC_up, idxC_up, eouC_up, up_k, up_j, up_s]
        refine A_iconst dX2_readRule_178 ?_
        refine A_iadd dX2_readRule_179 ?_
        refine A_puti fl_X2_203 lk_18 rfl dX2_readRule_180 ?_
        refine A_aload_n dX2_readRule_183 rfl 3 rfl ?_
        refine A_dup dX2_readRule_184 rfl ?_
        refine A_geti fl_X2_33 lk_51 rfl dX2_readRule_185 ?_
        try simp (disch := omega) only [up_k, up_j, up_s, KC_up, VC_up, idxC_up, eouC_up, up_k, up_j, up_s]
        refine A_iconst dX2_readRule_188 ?_
        refine A_iadd dX2_readRule_189 ?_
        refine A_puti fl_X2_33 lk_51 rfl dX2_readRule_190 ?_
        refine A_iconst dX2_readRule_193 ?_
        exact A_zret2 dX2_readRule_194 (by decide) (by (try simp (disch := omega) only [rlM, rl2M, rl1M, rl0M, nxM, KC_up, VC_up, idxC_up, eouC_up, up_k, up_j, up_s]) <;> (repeat' split) <;> first | contradiction | (exfalso; omega) | rfl | (simp (disch := omega) only [KC_up, VC_up, idxC_up, eouC_up, up_k, up_j, up_s]; done) | (simp_all [b2i_t, b2i_f]; done)) (by (try simp (disch := omega) only [rlM, rl2M, rl1M, rl0M, nxM, KC_up, VC_up, idxC_up, eouC_up, up_k, up_j, up_s]) <;> (repeat' split) <;> first | contradiction | (exfalso; omega) | with_reducible rfl | (simp (disch := omega) only [KC_up, VC_up, idxC_up, eouC_up, up_k, up_j, up_s]; done) | (simp_all; done))
      · refine A_iconst dX2_readRule_165 ?_
        exact A_zret2 dX2_readRule_166 (by decide) (by (try simp (disch := omega) only [rlM, rl2M, rl1M, rl0M, nxM, KC_up, VC_up, idxC_up, eouC_up, up_k, up_j, up_s]) <;> (repeat' split) <;> first | contradiction | (exfalso; omega) | rfl | (simp (disch := omega) only [KC_up, VC_up, idxC_up, eouC_up, up_k, up_j, up_s]; done) | (simp_all [b2i_t, b2i_f]; done)) (by (try simp (disch := omega) only [rlM, rl2M, rl1M, rl0M, nxM, KC_up, VC_up, idxC_up, eouC_up, up_k, up_j, up_s]) <;> (repeat' split) <;> first | contradiction | (exfalso; omega) | with_reducible rfl | (simp (disch := omega) only [KC_up, VC_up, idxC_up, eouC_up, up_k, up_j, up_s]; done) | (simp_all; done))
    · refine A_aload_n dX2_readRule_21 rfl 1 rfl ?_
      refine A_iconst dX2_readRule_22 ?_
      refine A_aload_n dX2_readRule_23 rfl 1 rfl ?_
      refine A_geti fl_X2_33 lk_51 rfl dX2_readRule_24 ?_
      refine A_Va2 mv_X2_82 lk_51 rfl rfl (c_X2_fail _ _ _) (Nat.le_of_ble_eq_true rfl) (by omega) (by omega) dX2_readRule_27 ?_
      try simp (disch := omega) only [KC_up, VC_up, idxC_up, eouC_up, up_k, up_j, up_s]
      exact A_zret dX2_readRule_30 (by (try simp (disch := omega) only [rlM, rl2M, rl1M, rl0M, nxM, KC_up, VC_up, idxC_up, eouC_up, up_k, up_j, up_s]) <;> (repeat' split) <;> first | contradiction | (exfalso; omega) | rfl | (simp (disch := omega) only [KC_up, VC_up, idxC_up, eouC_up, up_k, up_j, up_s]; done) | (simp_all [b2i_t, b2i_f]; done)) (by (try simp (disch := omega) only [rlM, rl2M, rl1M, rl0M, nxM, KC_up, VC_up, idxC_up, eouC_up, up_k, up_j, up_s]) <;> (repeat' split) <;> first | contradiction | (exfalso; omega) | with_reducible rfl | (simp (disch := omega) only [KC_up, VC_up, idxC_up, eouC_up, up_k, up_j, up_s]; done) | (simp_all; done))
set_option maxRecDepth 100000 in
set_option maxHeartbeats 4000000 in
theorem c_X2_takeChoice (σ : Sg)  : Ct l G yX2_takeChoice cX2_takeChoice 2 (some .boolean) 4 0 0 [.ref (lay G 51)] σ (some (.int (I32 (b2i (tcM σ).1)))) ((tcM σ).2) := by
  refine Ct.of (by decide +kernel) (Nat.le_of_ble_eq_true rfl) (fun f => ?_)
  show AW _ _ _ _ _ _ _ _ _ _ [(0, _)] _ _
  refine A_aload_n dX2_takeChoice_0 rfl 0 rfl ?_
  refine A_getr fl_X2_25 lk_51 rfl dX2_takeChoice_1 ?_
  refine A_geti fl_X2_188 lk_9 rfl dX2_takeChoice_4 ?_
  rw [← I32_i32 (σ 9 16)]
  refine A_istore_n (lv2 := [(1, _), (0, _)]) dX2_takeChoice_7 rfl (by decide) rfl ?_
  refine A_iload_n dX2_takeChoice_8 rfl 0 rfl ?_
  refine J_if_lt (tgt := 18) dX2_takeChoice_9 (by decide) (by first | with_reducible exact i32_eq (KC_inr _ _) | with_reducible exact idxC_i32 _ _ _ | exact i32_eq (by assumption) | exact i32_eq ⟨by omega, by omega⟩ | with_reducible exact i32_i32 _ | rfl) (fun h9 => ?_) (fun h9 => ?_)
  · refine A_aload_n dX2_takeChoice_18 rfl 1 rfl ?_
    refine A_iconst dX2_takeChoice_19 ?_
    refine A_aload_n dX2_takeChoice_20 rfl 1 rfl ?_
    refine A_geti fl_X2_33 lk_51 rfl dX2_takeChoice_21 ?_
    refine A_Va2 mv_X2_82 lk_51 rfl rfl (c_X2_fail _ _ _) (Nat.le_of_ble_eq_true rfl) (by omega) (by omega) dX2_takeChoice_24 ?_
    try simp (disch := omega) only [KC_up, VC_up, idxC_up, eouC_up, up_k, up_j, up_s]
    exact A_zret dX2_takeChoice_27 (by (try simp (disch := omega) only [tcM, tc1M, tc0M, nxM, KC_up, VC_up, idxC_up, eouC_up, up_k, up_j, up_s]) <;> (repeat' split) <;> first | contradiction | (exfalso; omega) | rfl | (simp (disch := omega) only [KC_up, VC_up, idxC_up, eouC_up, up_k, up_j, up_s]; done) | (simp_all [b2i_t, b2i_f]; done)) (by (try simp (disch := omega) only [tcM, tc1M, tc0M, nxM, KC_up, VC_up, idxC_up, eouC_up, up_k, up_j, up_s]) <;> (repeat' split) <;> first | contradiction | (exfalso; omega) | with_reducible rfl | (simp (disch := omega) only [KC_up, VC_up, idxC_up, eouC_up, up_k, up_j, up_s]; done) | (simp_all; done))
  · refine A_iload_n dX2_takeChoice_12 rfl 0 rfl ?_
    refine A_bipush dX2_takeChoice_13 (by decide +kernel) ?_
    refine J_icmp_lt (tgt := 28) dX2_takeChoice_15 (by decide) (by first | with_reducible exact i32_eq (KC_inr _ _) | with_reducible exact idxC_i32 _ _ _ | exact i32_eq (by assumption) | exact i32_eq ⟨by omega, by omega⟩ | with_reducible exact i32_i32 _ | rfl) (by first | with_reducible exact i32_eq (KC_inr _ _) | with_reducible exact idxC_i32 _ _ _ | exact i32_eq (by assumption) | exact i32_eq ⟨by omega, by omega⟩ | with_reducible exact i32_i32 _ | rfl) (fun h15 => ?_) (fun h15 => ?_)
    · refine A_aload_n dX2_takeChoice_28 rfl 1 rfl ?_
      refine A_getr fl_X2_9 lk_51 rfl dX2_takeChoice_29 ?_
      refine A_iload_n dX2_takeChoice_32 rfl 0 rfl ?_
      refine A_aload_n dX2_takeChoice_33 rfl 1 rfl ?_
      refine A_geti fl_X2_33 lk_51 rfl dX2_takeChoice_34 ?_
      refine J_iast lk_52 (by first | with_reducible exact i32_eq (KC_inr _ _) | with_reducible exact idxC_i32 _ _ _ | exact i32_eq (by assumption) | exact i32_eq ⟨by omega, by omega⟩ | with_reducible exact i32_i32 _ | rfl) (by omega) (by omega) (by decide) dX2_takeChoice_37 ?_
      refine A_aload_n dX2_takeChoice_38 rfl 1 rfl ?_
      refine A_getr fl_X2_15 lk_51 rfl dX2_takeChoice_39 ?_
      refine A_iload_n dX2_takeChoice_42 rfl 0 rfl ?_
      refine A_aload_n dX2_takeChoice_43 rfl 1 rfl ?_
      refine A_getr fl_X2_25 lk_51 rfl dX2_takeChoice_44 ?_
      refine A_getr fl_X2_68 lk_9 rfl dX2_takeChoice_47 ?_
      refine A_geti fl_X2_74 lk_12 rfl dX2_takeChoice_50 ?_
      try simp (disch := omega) only [up_k, up_j, up_s, KC_up, VC_up, idxC_up, eouC_up, up_k, up_j, up_s]
      refine J_iast lk_53 (by first | with_reducible exact i32_eq (KC_inr _ _) | with_reducible exact idxC_i32 _ _ _ | exact i32_eq (by assumption) | exact i32_eq ⟨by omega, by omega⟩ | with_reducible exact i32_i32 _ | rfl) (by omega) (by omega) (by decide) dX2_takeChoice_53 ?_
      refine A_aload_n dX2_takeChoice_54 rfl 1 rfl ?_
      refine A_getr fl_X2_25 lk_51 rfl dX2_takeChoice_55 ?_
      refine A_getr fl_X2_191 lk_9 rfl dX2_takeChoice_58 ?_
      refine A_iload_n dX2_takeChoice_61 rfl 0 rfl ?_
      refine A_aload_n dX2_takeChoice_62 rfl 1 rfl ?_
      refine A_getr fl_X2_25 lk_51 rfl dX2_takeChoice_63 ?_
      refine A_getr fl_X2_79 lk_9 rfl dX2_takeChoice_66 ?_
      refine A_geti fl_X2_74 lk_14 rfl dX2_takeChoice_69 ?_
      try simp (disch := omega) only [up_k, up_j, up_s, KC_up, VC_up, idxC_up, eouC_up, up_k, up_j, up_s]
      refine J_iast lk_32 (by first | with_reducible exact i32_eq (KC_inr _ _) | with_reducible exact idxC_i32 _ _ _ | exact i32_eq (by assumption) | exact i32_eq ⟨by omega, by omega⟩ | with_reducible exact i32_i32 _ | rfl) (by omega) (by omega) (by decide) dX2_takeChoice_72 ?_
      refine A_aload_n dX2_takeChoice_73 rfl 1 rfl ?_
      refine A_aload_n dX2_takeChoice_74 rfl 1 rfl ?_
      refine A_getr fl_X2_29 lk_51 rfl dX2_takeChoice_75 ?_
      refine A_aload_n dX2_takeChoice_78 rfl 1 rfl ?_
      refine A_geti fl_X2_33 lk_51 rfl dX2_takeChoice_79 ?_
      try simp (disch := omega) only [up_k, up_j, up_s, KC_up, VC_up, idxC_up, eouC_up, up_k, up_j, up_s]
      refine A_Va1 mv_X2_194 lk_50 rfl rfl (c_X0_endOrUnknownName _ _) (Nat.le_of_ble_eq_true rfl) (by omega) (by omega) dX2_takeChoice_82 ?_
      try simp (disch := omega) only [KC_up, VC_up, idxC_up, eouC_up, up_k, up_j, up_s]
      refine A_puti fl_X2_33 lk_51 rfl dX2_takeChoice_85 ?_
      refine A_aload_n dX2_takeChoice_88 rfl 1 rfl ?_
      refine A_bipush dX2_takeChoice_89 (by decide +kernel) ?_
      refine A_Va1 mv_X2_47 lk_51 rfl rfl (c_X2_isKind _ _ ⟨by decide, by decide⟩) (Nat.le_of_ble_eq_true rfl) (by omega) (by omega) dX2_takeChoice_91 ?_
      try simp (disch := omega) only [KC_up, VC_up, idxC_up, eouC_up, up_k, up_j, up_s]
      refine A_ifeq_b (tgt := 107) dX2_takeChoice_94 (by decide) (fun h94 => ?_) (fun h94 => ?_)
      · refine A_aload_n dX2_takeChoice_107 rfl 1 rfl ?_
        refine A_getr fl_X2_25 lk_51 rfl dX2_takeChoice_108 ?_
        refine A_dup dX2_takeChoice_111 rfl ?_
        refine A_geti fl_X2_188 lk_9 rfl dX2_takeChoice_112 ?_
        try simp (disch := omega) only [up_k, up_j, up_s, KC_up, VC_up, idxC_up, eouC_up, up_k, up_j, up_s]
        refine A_iconst dX2_takeChoice_115 ?_
        refine A_iadd dX2_takeChoice_116 ?_
        refine A_puti fl_X2_188 lk_9 rfl dX2_takeChoice_117 ?_
        refine A_iconst dX2_takeChoice_120 ?_
        exact A_zret2 dX2_takeChoice_121 (by decide) (by (try simp (disch := omega) only [tcM, tc1M, tc0M, nxM, KC_up, VC_up, idxC_up, eouC_up, up_k, up_j, up_s]) <;> (repeat' split) <;> first | contradiction | (exfalso; omega) | rfl | (simp (disch := omega) only [KC_up, VC_up, idxC_up, eouC_up, up_k, up_j, up_s]; done) | (simp_all [b2i_t, b2i_f]; done)) (by (try simp (disch := omega) only [tcM, tc1M, tc0M, nxM, KC_up, VC_up, idxC_up, eouC_up, up_k, up_j, up_s]) <;> (repeat' split) <;> first | contradiction | (exfalso; omega) | with_reducible rfl | (simp (disch := omega) only [KC_up, VC_up, idxC_up, eouC_up, up_k, up_j, up_s]; done) | (simp_all; done))
      · refine A_aload_n dX2_takeChoice_97 rfl 1 rfl ?_
        refine A_iconst dX2_takeChoice_98 ?_
        refine A_aload_n dX2_takeChoice_99 rfl 1 rfl ?_
        refine A_geti fl_X2_33 lk_51 rfl dX2_takeChoice_100 ?_
        try simp (disch := omega) only [up_k, up_j, up_s, KC_up, VC_up, idxC_up, eouC_up, up_k, up_j, up_s]
        refine A_Va2 mv_X2_82 lk_51 rfl rfl (c_X2_fail _ _ _) (Nat.le_of_ble_eq_true rfl) (by omega) (by omega) dX2_takeChoice_103 ?_
        try simp (disch := omega) only [KC_up, VC_up, idxC_up, eouC_up, up_k, up_j, up_s]
        exact A_zret dX2_takeChoice_106 (by (try simp (disch := omega) only [tcM, tc1M, tc0M, nxM, KC_up, VC_up, idxC_up, eouC_up, up_k, up_j, up_s]) <;> (repeat' split) <;> first | contradiction | (exfalso; omega) | rfl | (simp (disch := omega) only [KC_up, VC_up, idxC_up, eouC_up, up_k, up_j, up_s]; done) | (simp_all [b2i_t, b2i_f]; done)) (by (try simp (disch := omega) only [tcM, tc1M, tc0M, nxM, KC_up, VC_up, idxC_up, eouC_up, up_k, up_j, up_s]) <;> (repeat' split) <;> first | contradiction | (exfalso; omega) | with_reducible rfl | (simp (disch := omega) only [KC_up, VC_up, idxC_up, eouC_up, up_k, up_j, up_s]; done) | (simp_all; done))
    · refine A_aload_n dX2_takeChoice_18 rfl 1 rfl ?_
      refine A_iconst dX2_takeChoice_19 ?_
      refine A_aload_n dX2_takeChoice_20 rfl 1 rfl ?_
      refine A_geti fl_X2_33 lk_51 rfl dX2_takeChoice_21 ?_
      refine A_Va2 mv_X2_82 lk_51 rfl rfl (c_X2_fail _ _ _) (Nat.le_of_ble_eq_true rfl) (by omega) (by omega) dX2_takeChoice_24 ?_
      try simp (disch := omega) only [KC_up, VC_up, idxC_up, eouC_up, up_k, up_j, up_s]
      exact A_zret dX2_takeChoice_27 (by (try simp (disch := omega) only [tcM, tc1M, tc0M, nxM, KC_up, VC_up, idxC_up, eouC_up, up_k, up_j, up_s]) <;> (repeat' split) <;> first | contradiction | (exfalso; omega) | rfl | (simp (disch := omega) only [KC_up, VC_up, idxC_up, eouC_up, up_k, up_j, up_s]; done) | (simp_all [b2i_t, b2i_f]; done)) (by (try simp (disch := omega) only [tcM, tc1M, tc0M, nxM, KC_up, VC_up, idxC_up, eouC_up, up_k, up_j, up_s]) <;> (repeat' split) <;> first | contradiction | (exfalso; omega) | with_reducible rfl | (simp (disch := omega) only [KC_up, VC_up, idxC_up, eouC_up, up_k, up_j, up_s]; done) | (simp_all; done))
end S16
