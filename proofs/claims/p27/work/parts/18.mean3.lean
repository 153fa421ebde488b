/-! MeaningReader: dishes, foods, programs -/
section S18
variable {l : Launch} {G : Gx}
theorem flM_off {σ : Sg} {c t : Int} {k : Nat} (h : k ≠ 51) (j : Nat) : flM σ c t k j = σ k j := by simp only [flM, up_k _ _ h]
theorem nxM_off {σ : Sg} {k : Nat} (h : k ≠ 51) (j : Nat) : nxM σ k j = σ k j := by simp only [nxM, up_k _ _ h]
theorem tnM_off {σ : Sg} {lo hi : Int} {k : Nat} (h : k ≠ 51) (j : Nat) : (tnM σ lo hi).2 k j = σ k j := by
  unfold tnM
  split
  · exact flM_off h j
  · exact (nxM_off h j).trans (up_k _ _ h)
theorem nnM_off {σ : Sg} {k : Nat} (h : k ≠ 51) (j : Nat) : (nnM σ).2 k j = σ k j := by
  unfold nnM
  split
  · exact flM_off h j
  · exact nxM_off h j
def tp1M (p : Sg) (d : Int) (k : Nat) (b : Bool) : Bool × Sg := if idxC p k (VC p (p 51 6)) = -1 then (false, flM p 2 (p 51 6)) else (true, if b = true then adM (nxM p) d (idxC p k (VC p (p 51 6))) else afM (nxM p) d (idxC p k (VC p (p 51 6))))
def tpM (σ : Sg) (d p : Int) : Bool × Sg := if 8 ≤ p then (false, flM σ 4 (σ 51 6)) else if (tnM σ 1 2000).1 = true then (if KC (tnM σ 1 2000).2 ((tnM σ 1 2000).2 51 6) = 4 then tp1M (nxM (tnM σ 1 2000).2) d 12 true else tp1M (tnM σ 1 2000).2 d 10 false) else (false, (tnM σ 1 2000).2)
def tpL (d : Int) : Nat → Int → Bool → Sg → Int × Bool × Sg
  | 0, p, b, σ => (p, b, σ)
  | n + 1, p, b, σ => if b = true ∧ (KC σ (σ 51 6) = 18 ∨ KC σ (σ 51 6) = 19) then tpL d n (p + 1) (tpM (nxM σ) d p).1 (tpM (nxM σ) d p).2 else (p, b, σ)
def tq0M (σ : Sg) (d : Int) : Sg := fW 16 (fun i a => up a (34 + d.toNat) i.toNat 0) 16 0 (up (up σ 51 11 0) 51 12 0)
def tqE (d : Int) (x : Int × Bool × Sg) : Bool × Sg := (x.2.1, up x.2.2 30 d.toNat x.1)
def tqM (σ : Sg) (d : Int) : Bool × Sg := tqE d (tpL d 1500 0 true (tq0M σ d))
set_option maxRecDepth 100000 in
set_option maxHeartbeats 4000000 in
theorem w_X2_addDish {f : Fm} {Q : State → Prop} {xs : va_W} {kk nn rc rs : Nat} (d o : Int) (hd : 0 ≤ d ∧ d < 16) (ho : 0 ≤ o ∧ o < 16) (hm : kk ≤ rc ∧ nn ≤ rs) : ∀ (n : Nat) (i : Int) (a : Sg), 0 ≤ i → inr i → i + n = 16 → (i32 (a 10 2) ≤ 16) → AW l G f (RX2, cX2_addDish, 4, none) (1, rc, rs) Q xs kk nn 56 [(0, .ref (lay G 51)), (1, .int (I32 d)), (2, .int (I32 o))] [] ((fG (fun i a => decide (i < i32 (a 10 2))) (adG1 d o) n i a)) → AW l G f (RX2, cX2_addDish, 4, none) (1, rc, rs) Q xs kk nn 2 [(3, .int (I32 i)), (0, .ref (lay G 51)), (1, .int (I32 d)), (2, .int (I32 o))] [] (a) := by
  intro n
  induction n using Nat.strongRecOn with | _ n ih =>
  intro i a h0 hii hn hv0 hK
  obtain ⟨hi1, hi2⟩ := hii
  refine A_iload_n dX2_addDish_2 rfl 0 rfl ?_
  refine A_aload_n dX2_addDish_3 rfl 1 rfl ?_
  refine A_getr fl_X2_25 lk_51 rfl dX2_addDish_4 ?_
  refine A_getr fl_X2_86 lk_9 rfl dX2_addDish_7 ?_
  refine A_geti fl_X2_74 lk_10 rfl dX2_addDish_10 ?_
  try simp (disch := omega) only [up_k, up_j, up_s, up_k, up_j, up_s]
  refine J_icmp_ge (tgt := 56) dX2_addDish_13 (by decide) (by first | with_reducible exact i32_eq (KC_inr _ _) | with_reducible exact idxC_i32 _ _ _ | exact i32_eq (by assumption) | exact i32_eq ⟨by omega, by omega⟩ | with_reducible exact i32_i32 _ | rfl) (by first | with_reducible exact i32_eq (KC_inr _ _) | with_reducible exact idxC_i32 _ _ _ | exact i32_eq (by assumption) | exact i32_eq ⟨by omega, by omega⟩ | with_reducible exact i32_i32 _ | rfl) (fun h13 => ?_) (fun h13 => ?_)
  · refine A_lv [1, 2, 3] rfl ?_
    clear ih
    rcases n with _ | n <;> simp only [fG, decide_eq_true_eq] at hK <;> (repeat' split at hK) <;> first | contradiction | (exfalso; omega) | exact hK | (simp_all; done)
  · refine A_iload_n dX2_addDish_16 rfl 0 rfl ?_
    refine A_bipush dX2_addDish_17 (by decide +kernel) ?_
    refine J_icmp_ge (tgt := 56) dX2_addDish_19 (by decide) (by first | with_reducible exact i32_eq (KC_inr _ _) | with_reducible exact idxC_i32 _ _ _ | exact i32_eq (by assumption) | exact i32_eq ⟨by omega, by omega⟩ | with_reducible exact i32_i32 _ | rfl) (by first | with_reducible exact i32_eq (KC_inr _ _) | with_reducible exact idxC_i32 _ _ _ | exact i32_eq (by assumption) | exact i32_eq ⟨by omega, by omega⟩ | with_reducible exact i32_i32 _ | rfl) (fun h19 => ?_) (fun h19 => ?_)
    · refine A_lv [1, 2, 3] rfl ?_
      clear ih
      rcases n with _ | n <;> simp only [fG, decide_eq_true_eq] at hK <;> (repeat' split at hK) <;> first | contradiction | (exfalso; omega) | exact hK | (simp_all; done)
    · refine A_aload_n dX2_addDish_22 rfl 1 rfl ?_
      refine A_getr fl_X2_25 lk_51 rfl dX2_addDish_23 ?_
      refine A_getr fl_X2_144 lk_9 rfl dX2_addDish_26 ?_
      refine A_iload_n dX2_addDish_29 rfl 2 rfl ?_
      refine J_aald lk_31 (by first | with_reducible exact i32_eq (KC_inr _ _) | with_reducible exact idxC_i32 _ _ _ | exact i32_eq (by assumption) | exact i32_eq ⟨by omega, by omega⟩ | with_reducible exact i32_i32 _ | rfl) (by omega) (by omega) (by decide) dX2_addDish_30 ?_
      refine A_iload_n dX2_addDish_31 rfl 0 rfl ?_
      refine A_dup2 dX2_addDish_32 rfl rfl ?_
      refine J_iald (lk_row34 (by omega)) (by first | with_reducible exact i32_eq (KC_inr _ _) | with_reducible exact idxC_i32 _ _ _ | exact i32_eq (by assumption) | exact i32_eq ⟨by omega, by omega⟩ | with_reducible exact i32_i32 _ | rfl) (by omega) (by omega) (by decide) dX2_addDish_33 ?_
      try simp (disch := omega) only [up_k, up_j, up_s, up_k, up_j, up_s]
      refine A_aload_n dX2_addDish_34 rfl 1 rfl ?_
      refine A_getr fl_X2_25 lk_51 rfl dX2_addDish_35 ?_
      refine A_aload_n dX2_addDish_38 rfl 1 rfl ?_
      refine A_geti fl_X2_105 lk_51 rfl dX2_addDish_39 ?_
      try simp (disch := omega) only [up_k, up_j, up_s, up_k, up_j, up_s]
      refine A_iload_n dX2_addDish_42 rfl 3 rfl ?_
      refine A_iload_n dX2_addDish_43 rfl 0 rfl ?_
      refine A_Va3 mv_X2_165 lk_9 rfl rfl (c_X6_gramsFor _ _ _ _) (Nat.le_of_ble_eq_true rfl) (by omega) (by omega) dX2_addDish_44 ?_
      try simp (disch := omega) only [up_k, up_j, up_s]
      refine A_l2i dX2_addDish_47 ?_
      refine A_iadd dX2_addDish_48 ?_
      refine J_iast (lk_row34 (by omega)) (by first | with_reducible exact i32_eq (KC_inr _ _) | with_reducible exact idxC_i32 _ _ _ | exact i32_eq (by assumption) | exact i32_eq ⟨by omega, by omega⟩ | with_reducible exact i32_i32 _ | rfl) (by omega) (by omega) (by decide) dX2_addDish_49 ?_
      refine A_iinc (lv2 := [(3, _), (0, _), (1, _), (2, _)]) dX2_addDish_50 0 rfl (by decide) rfl ?_
      refine A_goto (tgt := 2) dX2_addDish_53 (by decide) ?_
      refine A_lv [0, 1, 2, 3] rfl ?_
      refine ih (n - 1) (by omega) (i + 1) _ (by omega) ⟨by omega, by omega⟩ (by omega) (by simp (disch := omega) only [up_k]; exact hv0) ?_
      obtain ⟨n, rfl⟩ : ∃ q, n = q + 1 := ⟨n - 1, by omega⟩
      clear ih
      rw [fG_s] at hK
      simp only [Nat.add_sub_cancel]
      simp only [decide_eq_true_eq, adG1] at hK
      (repeat' split at hK) <;> first | contradiction | (exfalso; omega) | exact hK | (simp_all; done)
set_option maxRecDepth 100000 in
set_option maxHeartbeats 4000000 in
theorem c_X2_addDish (σ : Sg) (d o : Int) (hd : 0 ≤ d ∧ d < 16) (ho : 0 ≤ o ∧ o < 16) (hz : i32 (σ 10 2) ≤ 16) : Ct l G yX2_addDish cX2_addDish 4 none 1 0 0 [.ref (lay G 51), .int (I32 d), .int (I32 o)] σ (none) (adM σ d o) := by
  refine Ct.of (by decide +kernel) (Nat.le_of_ble_eq_true rfl) (fun f => ?_)
  show AW _ _ _ _ _ _ _ _ _ _ [(0, _), (1, _), (2, _)] _ _
  refine A_iconst dX2_addDish_0 ?_
  refine A_istore_n (lv2 := [(3, _), (0, _), (1, _), (2, _)]) dX2_addDish_1 rfl (by decide) rfl ?_
  refine A_lv [0, 1, 2, 3] rfl ?_
  refine w_X2_addDish d o hd ho (by omega) 16 0 σ (by omega) ⟨by omega, by omega⟩ (by omega) hz ?_
  show AW _ _ _ _ _ _ _ _ _ _ _ _ (ad1M σ d o)
  refine A_aload_n dX2_addDish_56 rfl 0 rfl ?_
  refine A_dup dX2_addDish_57 rfl ?_
  refine A_getl fl_X2_137 lk_51 rfl dX2_addDish_58 ?_
  try simp (disch := omega) only [up_k, up_j, up_s, KC_up, VC_up, idxC_up, eouC_up, up_k, up_j, up_s]
  refine A_aload_n dX2_addDish_61 rfl 0 rfl ?_
  refine A_geti fl_X2_105 lk_51 rfl dX2_addDish_62 ?_
  try simp (disch := omega) only [up_k, up_j, up_s, KC_up, VC_up, idxC_up, eouC_up, up_k, up_j, up_s]
  refine J_i2l dX2_addDish_65 (by first | with_reducible exact i32_eq (KC_inr _ _) | with_reducible exact idxC_i32 _ _ _ | exact i32_eq (by assumption) | exact i32_eq ⟨by omega, by omega⟩ | with_reducible exact i32_i32 _ | rfl) ?_
  refine A_aload_n dX2_addDish_66 rfl 0 rfl ?_
  refine A_getr fl_X2_25 lk_51 rfl dX2_addDish_67 ?_
  refine A_getr fl_X2_169 lk_9 rfl dX2_addDish_70 ?_
  refine A_iload_n dX2_addDish_73 rfl 2 rfl ?_
  refine J_iald lk_27 (by first | with_reducible exact i32_eq (KC_inr _ _) | with_reducible exact idxC_i32 _ _ _ | exact i32_eq (by assumption) | exact i32_eq ⟨by omega, by omega⟩ | with_reducible exact i32_i32 _ | rfl) (by omega) (by omega) (by decide) dX2_addDish_74 ?_
  try simp (disch := omega) only [up_k, up_j, up_s, KC_up, VC_up, idxC_up, eouC_up, up_k, up_j, up_s]
  refine J_i2l dX2_addDish_75 (by first | with_reducible exact i32_eq (KC_inr _ _) | with_reducible exact idxC_i32 _ _ _ | exact i32_eq (by assumption) | exact i32_eq ⟨by omega, by omega⟩ | with_reducible exact i32_i32 _ | rfl) ?_
  refine A_lmul dX2_addDish_76 ?_
  refine A_ladd dX2_addDish_77 ?_
  refine A_putl fl_X2_137 lk_51 rfl dX2_addDish_78 ?_
  refine A_aload_n dX2_addDish_81 rfl 0 rfl ?_
  refine A_dup dX2_addDish_82 rfl ?_
  refine A_getl fl_X2_141 lk_51 rfl dX2_addDish_83 ?_
  try simp (disch := omega) only [up_k, up_j, up_s, KC_up, VC_up, idxC_up, eouC_up, up_k, up_j, up_s]
  refine A_aload_n dX2_addDish_86 rfl 0 rfl ?_
  refine A_geti fl_X2_105 lk_51 rfl dX2_addDish_87 ?_
  try simp (disch := omega) only [up_k, up_j, up_s, KC_up, VC_up, idxC_up, eouC_up, up_k, up_j, up_s]
  refine J_i2l dX2_addDish_90 (by first | with_reducible exact i32_eq (KC_inr _ _) | with_reducible exact idxC_i32 _ _ _ | exact i32_eq (by assumption) | exact i32_eq ⟨by omega, by omega⟩ | with_reducible exact i32_i32 _ | rfl) ?_
  refine A_aload_n dX2_addDish_91 rfl 0 rfl ?_
  refine A_getr fl_X2_25 lk_51 rfl dX2_addDish_92 ?_
  refine A_getr fl_X2_172 lk_9 rfl dX2_addDish_95 ?_
  refine A_iload_n dX2_addDish_98 rfl 2 rfl ?_
  refine J_iald lk_28 (by first | with_reducible exact i32_eq (KC_inr _ _) | with_reducible exact idxC_i32 _ _ _ | exact i32_eq (by assumption) | exact i32_eq ⟨by omega, by omega⟩ | with_reducible exact i32_i32 _ | rfl) (by omega) (by omega) (by decide) dX2_addDish_99 ?_
  try simp (disch := omega) only [up_k, up_j, up_s, KC_up, VC_up, idxC_up, eouC_up, up_k, up_j, up_s]
  refine J_i2l dX2_addDish_100 (by first | with_reducible exact i32_eq (KC_inr _ _) | with_reducible exact idxC_i32 _ _ _ | exact i32_eq (by assumption) | exact i32_eq ⟨by omega, by omega⟩ | with_reducible exact i32_i32 _ | rfl) ?_
  refine A_lmul dX2_addDish_101 ?_
  refine A_ladd dX2_addDish_102 ?_
  refine A_putl fl_X2_141 lk_51 rfl dX2_addDish_103 ?_
  refine A_aload_n dX2_addDish_106 rfl 0 rfl ?_
  refine A_dup dX2_addDish_107 rfl ?_
  refine A_geti fl_X2_111 lk_51 rfl dX2_addDish_108 ?_
  try simp (disch := omega) only [up_k, up_j, up_s, KC_up, VC_up, idxC_up, eouC_up, up_k, up_j, up_s]
  refine A_aload_n dX2_addDish_111 rfl 0 rfl ?_
  refine A_getr fl_X2_25 lk_51 rfl dX2_addDish_112 ?_
  refine A_getr fl_X2_175 lk_9 rfl dX2_addDish_115 ?_
  refine A_iload_n dX2_addDish_118 rfl 2 rfl ?_
  refine J_iald lk_29 (by first | with_reducible exact i32_eq (KC_inr _ _) | with_reducible exact idxC_i32 _ _ _ | exact i32_eq (by assumption) | exact i32_eq ⟨by omega, by omega⟩ | with_reducible exact i32_i32 _ | rfl) (by omega) (by omega) (by decide) dX2_addDish_119 ?_
  try simp (disch := omega) only [up_k, up_j, up_s, KC_up, VC_up, idxC_up, eouC_up, up_k, up_j, up_s]
  refine A_ior dX2_addDish_120 ?_
  refine A_puti fl_X2_111 lk_51 rfl dX2_addDish_121 ?_
  exact A_vret dX2_addDish_124 (by rfl) (by (try simp (disch := omega) only [adM, KC_up, VC_up, idxC_up, eouC_up, up_k, up_j, up_s]) <;> (repeat' split) <;> first | contradiction | (exfalso; omega) | with_reducible rfl | (simp (disch := omega) only [KC_up, VC_up, idxC_up, eouC_up, up_k, up_j, up_s]; done) | (simp_all; done))
set_option maxRecDepth 100000 in
set_option maxHeartbeats 4000000 in
theorem w_X2_tm {f : Fm} {Q : State → Prop} {xs : va_W} {kk nn rc rs : Nat} (σ : Sg) (d : Int) (hd : 0 ≤ d ∧ d < 16) (hm : kk ≤ rc ∧ nn ≤ rs) : ∀ (n : Nat) (i : Int) (s : Int), 0 ≤ i → inr i → i + n = 16 → AW l G f (RX2, cX2_isTooMuch, 5, (some .boolean)) (0, rc, rs) Q xs kk nn 34 [(2, .long (I64 (fW (16) (fun i s => s + i32 (σ (34 + d.toNat) i.toNat)) n i s))), (0, .ref (lay G 51)), (1, .int (I32 d))] [] (σ) → AW l G f (RX2, cX2_isTooMuch, 5, (some .boolean)) (0, rc, rs) Q xs kk nn 5 [(4, .int (I32 i)), (2, .long (I64 s)), (0, .ref (lay G 51)), (1, .int (I32 d))] [] (σ) := by
  intro n
  induction n using Nat.strongRecOn with | _ n ih =>
  intro i s h0 hii hn  hK
  obtain ⟨hi1, hi2⟩ := hii
  refine A_iload dX2_isTooMuch_5 0 rfl ?_
  refine A_bipush dX2_isTooMuch_7 (by decide +kernel) ?_
  refine J_icmp_ge (tgt := 34) dX2_isTooMuch_9 (by decide) (by first | with_reducible exact i32_eq (KC_inr _ _) | with_reducible exact idxC_i32 _ _ _ | exact i32_eq (by assumption) | exact i32_eq ⟨by omega, by omega⟩ | with_reducible exact i32_i32 _ | rfl) (by first | with_reducible exact i32_eq (KC_inr _ _) | with_reducible exact idxC_i32 _ _ _ | exact i32_eq (by assumption) | exact i32_eq ⟨by omega, by omega⟩ | with_reducible exact i32_i32 _ | rfl) (fun h9 => ?_) (fun h9 => ?_)
  · refine A_lv [1, 2, 3] rfl ?_
    clear ih
    rcases n with _ | n <;> simp only [fW] at hK <;> (repeat' split at hK) <;> first | contradiction | (exfalso; omega) | exact hK | (simp_all; done)
  · refine A_lload_n dX2_isTooMuch_12 rfl 1 rfl ?_
    refine A_aload_n dX2_isTooMuch_13 rfl 2 rfl ?_
    refine A_getr fl_X2_25 lk_51 rfl dX2_isTooMuch_14 ?_
    refine A_getr fl_X2_144 lk_9 rfl dX2_isTooMuch_17 ?_
    refine A_iload_n dX2_isTooMuch_20 rfl 3 rfl ?_
    refine J_aald lk_31 (by first | with_reducible exact i32_eq (KC_inr _ _) | with_reducible exact idxC_i32 _ _ _ | exact i32_eq (by assumption) | exact i32_eq ⟨by omega, by omega⟩ | with_reducible exact i32_i32 _ | rfl) (by omega) (by omega) (by decide) dX2_isTooMuch_21 ?_
    refine A_iload dX2_isTooMuch_22 0 rfl ?_
    refine J_iald (lk_row34 (by omega)) (by first | with_reducible exact i32_eq (KC_inr _ _) | with_reducible exact idxC_i32 _ _ _ | exact i32_eq (by assumption) | exact i32_eq ⟨by omega, by omega⟩ | with_reducible exact i32_i32 _ | rfl) (by omega) (by omega) (by decide) dX2_isTooMuch_24 ?_
    refine J_i2l dX2_isTooMuch_25 (by first | with_reducible exact i32_eq (KC_inr _ _) | with_reducible exact idxC_i32 _ _ _ | exact i32_eq (by assumption) | exact i32_eq ⟨by omega, by omega⟩ | with_reducible exact i32_i32 _ | rfl) ?_
    refine A_ladd dX2_isTooMuch_26 ?_
    refine A_lstore_n (lv2 := [(2, _), (4, _), (0, _), (1, _)]) dX2_isTooMuch_27 rfl (by decide) rfl ?_
    refine A_iinc (lv2 := [(4, _), (2, _), (0, _), (1, _)]) dX2_isTooMuch_28 1 rfl (by decide) rfl ?_
    refine A_goto (tgt := 5) dX2_isTooMuch_31 (by decide) ?_
    refine A_lv [0, 1, 2, 3] rfl ?_
    refine ih (n - 1) (by omega) (i + 1) _ (by omega) ⟨by omega, by omega⟩ (by omega) ?_
    obtain ⟨n, rfl⟩ : ∃ q, n = q + 1 := ⟨n - 1, by omega⟩
    clear ih
    rw [fW_s] at hK
    simp only [Nat.add_sub_cancel]
    (repeat' split at hK) <;> first | contradiction | (exfalso; omega) | exact hK | (simp_all; done)
set_option maxRecDepth 100000 in
set_option maxHeartbeats 4000000 in
theorem c_X2_isTooMuch (σ : Sg) (d : Int) (hd : 0 ≤ d ∧ d < 16) : Ct l G yX2_isTooMuch cX2_isTooMuch 5 (some .boolean) 0 0 0 [.ref (lay G 51), .int (I32 d)] σ (some (.int (I32 (b2i (tmuchM σ d))))) (σ) := by
  refine Ct.of (by decide +kernel) (Nat.le_of_ble_eq_true rfl) (fun f => ?_)
  show AW _ _ _ _ _ _ _ _ _ _ [(0, _), (1, _)] _ _
  refine A_lconst (w := 0) dX2_isTooMuch_0 rfl ?_
  refine A_lstore_n (lv2 := [(2, _), (0, _), (1, _)]) dX2_isTooMuch_1 rfl (by decide) rfl ?_
  refine A_iconst dX2_isTooMuch_2 ?_
  refine A_istore (lv2 := [(4, _), (2, _), (0, _), (1, _)]) dX2_isTooMuch_3 (by decide) rfl ?_
  refine A_lv [0, 1, 2, 3] rfl ?_
  refine w_X2_tm σ d hd (by omega) 16 0 0 (by omega) ⟨by omega, by omega⟩ (by omega) ?_
  refine A_lload_n dX2_isTooMuch_34 rfl 0 rfl ?_
  refine A_ldc2 kc_X2_178 dX2_isTooMuch_35 ?_
  refine J_lcmp dX2_isTooMuch_38 (by first | with_reducible exact i64_eq (VC_inl _ _) | with_reducible exact i64_eq (i32_inl _) | exact i64_eq ⟨by omega, by omega⟩ | rfl) (by first | with_reducible exact i64_eq (VC_inl _ _) | with_reducible exact i64_eq (i32_inl _) | exact i64_eq ⟨by omega, by omega⟩ | rfl) ?_
  refine A_if_gt_c (tgt := 64) dX2_isTooMuch_39 (by decide) (fun h39 => ?_) (fun h39 => ?_)
  · refine A_iconst dX2_isTooMuch_64 ?_
    refine A_goto (tgt := 69) dX2_isTooMuch_65 (by decide) ?_
    exact A_zret2 dX2_isTooMuch_69 (by decide) (by simp only [tmuchM]; first | (rw [decide_eq_true (by omega), b2i_t]; done) | (rw [decide_eq_false (by omega), b2i_f]; done)) (by rfl)
  · refine A_aload_n dX2_isTooMuch_42 rfl 1 rfl ?_
    refine A_getl fl_X2_137 lk_51 rfl dX2_isTooMuch_43 ?_
    refine A_ldc2 kc_X2_180 dX2_isTooMuch_46 ?_
    refine J_lcmp dX2_isTooMuch_49 (by first | with_reducible exact i64_eq (VC_inl _ _) | with_reducible exact i64_eq (i32_inl _) | exact i64_eq ⟨by omega, by omega⟩ | rfl) (by first | with_reducible exact i64_eq (VC_inl _ _) | with_reducible exact i64_eq (i32_inl _) | exact i64_eq ⟨by omega, by omega⟩ | rfl) ?_
    refine A_if_gt_c (tgt := 64) dX2_isTooMuch_50 (by decide) (fun h50 => ?_) (fun h50 => ?_)
    · refine A_iconst dX2_isTooMuch_64 ?_
      refine A_goto (tgt := 69) dX2_isTooMuch_65 (by decide) ?_
      exact A_zret2 dX2_isTooMuch_69 (by decide) (by simp only [tmuchM]; first | (rw [decide_eq_true (by omega), b2i_t]; done) | (rw [decide_eq_false (by omega), b2i_f]; done)) (by rfl)
    · refine A_aload_n dX2_isTooMuch_53 rfl 1 rfl ?_
      refine A_getl fl_X2_141 lk_51 rfl dX2_isTooMuch_54 ?_
      refine A_ldc2 kc_X2_180 dX2_isTooMuch_57 ?_
      refine J_lcmp dX2_isTooMuch_60 (by first | with_reducible exact i64_eq (VC_inl _ _) | with_reducible exact i64_eq (i32_inl _) | exact i64_eq ⟨by omega, by omega⟩ | rfl) (by first | with_reducible exact i64_eq (VC_inl _ _) | with_reducible exact i64_eq (i32_inl _) | exact i64_eq ⟨by omega, by omega⟩ | rfl) ?_
      refine A_if_le_c (tgt := 68) dX2_isTooMuch_61 (by decide) (fun h61 => ?_) (fun h61 => ?_)
      · refine A_iconst dX2_isTooMuch_68 ?_
        exact A_zret2 dX2_isTooMuch_69 (by decide) (by simp only [tmuchM]; first | (rw [decide_eq_true (by omega), b2i_t]; done) | (rw [decide_eq_false (by omega), b2i_f]; done)) (by rfl)
      · refine A_iconst dX2_isTooMuch_64 ?_
        refine A_goto (tgt := 69) dX2_isTooMuch_65 (by decide) ?_
        exact A_zret2 dX2_isTooMuch_69 (by decide) (by simp only [tmuchM]; first | (rw [decide_eq_true (by omega), b2i_t]; done) | (rw [decide_eq_false (by omega), b2i_f]; done)) (by rfl)
set_option maxRecDepth 100000 in
set_option maxHeartbeats 4000000 in
theorem c_X2_takePart (σ : Sg) (d p : Int) (hd : 0 ≤ d ∧ d < 16) (hp : inr p) (hz : i32 (σ 10 2) ≤ 16) : Ct l G yX2_takePart cX2_takePart 6 (some .boolean) 2 0 0 [.ref (lay G 51), .int (I32 d), .int (I32 p)] σ (some (.int (I32 (b2i (tpM σ d p).1)))) ((tpM σ d p).2) := by
  refine Ct.of (by decide +kernel) (Nat.le_of_ble_eq_true rfl) (fun f => ?_)
  show AW _ _ _ _ _ _ _ _ _ _ [(0, _), (1, _), (2, _)] _ _
  refine A_iload_n dX2_takePart_0 rfl 2 rfl ?_
  refine A_bipush dX2_takePart_1 (by decide +kernel) ?_
  refine J_icmp_lt (tgt := 16) dX2_takePart_3 (by decide) (by first | with_reducible exact i32_eq (KC_inr _ _) | with_reducible exact idxC_i32 _ _ _ | exact i32_eq (by assumption) | exact i32_eq ⟨by omega, by omega⟩ | with_reducible exact i32_i32 _ | rfl) (by first | with_reducible exact i32_eq (KC_inr _ _) | with_reducible exact idxC_i32 _ _ _ | exact i32_eq (by assumption) | exact i32_eq ⟨by omega, by omega⟩ | with_reducible exact i32_i32 _ | rfl) (fun h3 => ?_) (fun h3 => ?_)
  · refine A_aload_n dX2_takePart_16 rfl 0 rfl ?_
    refine A_iconst dX2_takePart_17 ?_
    refine A_sipush dX2_takePart_18 (by decide +kernel) ?_
    refine A_Va2 mv_X2_99 lk_51 rfl rfl (c_X2_takeNumber _ _ _) (Nat.le_of_ble_eq_true rfl) (by omega) (by omega) dX2_takePart_21 ?_
    try simp (disch := omega) only [KC_up, VC_up, idxC_up, eouC_up, up_k, up_j, up_s]
    refine A_ifne_b (tgt := 29) dX2_takePart_24 (by decide) (fun h24 => ?_) (fun h24 => ?_)
    · refine A_aload_n dX2_takePart_29 rfl 0 rfl ?_
      refine A_iconst dX2_takePart_30 ?_
      refine A_Va1 mv_X2_47 lk_51 rfl rfl (c_X2_isKind _ _ ⟨by decide, by decide⟩) (Nat.le_of_ble_eq_true rfl) (by omega) (by omega) dX2_takePart_31 ?_
      try simp (disch := omega) only [KC_up, VC_up, idxC_up, eouC_up, up_k, up_j, up_s]
      refine A_istore_n (lv2 := [(3, _), (0, _), (1, _), (2, _)]) dX2_takePart_34 rfl (by decide) rfl ?_
      refine A_iload_n dX2_takePart_35 rfl 0 rfl ?_
      refine A_ifeq_b (tgt := 49) dX2_takePart_36 (by decide) (fun h36 => ?_) (fun h36 => ?_)
      · refine A_iload_n dX2_takePart_49 rfl 0 rfl ?_
        refine A_ifeq_b (tgt := 63) dX2_takePart_50 (by decide) (fun _ => ?_) (fun h => absurd (h36.symm.trans h) (by decide))
        refine A_aload_n dX2_takePart_63 rfl 1 rfl ?_
        refine A_getr fl_X2_25 lk_51 rfl dX2_takePart_64 ?_
        refine A_getr fl_X2_86 lk_9 rfl dX2_takePart_67 ?_
        refine A_astore (lv2 := [(4, _), (3, _), (0, _), (1, _), (2, _)]) dX2_takePart_70 (by decide) rfl ?_
        refine A_aload dX2_takePart_72 0 rfl ?_
        refine A_aload_n dX2_takePart_74 rfl 2 rfl ?_
        refine A_getr fl_X2_21 lk_51 rfl dX2_takePart_75 ?_
        refine A_aload_n dX2_takePart_78 rfl 2 rfl ?_
        refine A_geti fl_X2_33 lk_51 rfl dX2_takePart_79 ?_
        try simp (disch := omega) only [up_k, up_j, up_s, KC_up, VC_up, idxC_up, eouC_up, up_k, up_j, up_s]
        refine A_Va1 mv_X2_92 lk_3 rfl rfl (c_X9_valueOf _ _) (Nat.le_of_ble_eq_true rfl) (by omega) (by omega) dX2_takePart_82 ?_
        try simp (disch := omega) only [KC_up, VC_up, idxC_up, eouC_up, up_k, up_j, up_s]
        refine A_Va1 mv_X2_154 lk_10 rfl rfl (c_X4_indexOf_10 _ _) (Nat.le_of_ble_eq_true rfl) (by omega) (by omega) dX2_takePart_85 ?_
        try simp (disch := omega) only [KC_up, VC_up, idxC_up, eouC_up, up_k, up_j, up_s]
        refine A_istore (lv2 := [(5, _), (4, _), (3, _), (0, _), (1, _), (2, _)]) dX2_takePart_88 (by decide) rfl ?_
        refine A_iload dX2_takePart_90 0 rfl ?_
        refine A_iconst dX2_takePart_92 ?_
        refine J_icmp_ne (tgt := 106) dX2_takePart_93 (by decide) (by first | with_reducible exact i32_eq (KC_inr _ _) | with_reducible exact idxC_i32 _ _ _ | exact i32_eq (by assumption) | exact i32_eq ⟨by omega, by omega⟩ | with_reducible exact i32_i32 _ | rfl) (by first | with_reducible exact i32_eq (KC_inr _ _) | with_reducible exact idxC_i32 _ _ _ | exact i32_eq (by assumption) | exact i32_eq ⟨by omega, by omega⟩ | with_reducible exact i32_i32 _ | rfl) (fun h93 => ?_) (fun h93 => ?_)
        · refine A_aload_n dX2_takePart_106 rfl 3 rfl ?_
          refine A_dup dX2_takePart_107 rfl ?_
          refine A_geti fl_X2_33 lk_51 rfl dX2_takePart_108 ?_
          try simp (disch := omega) only [up_k, up_j, up_s, KC_up, VC_up, idxC_up, eouC_up, up_k, up_j, up_s]
          refine A_iconst dX2_takePart_111 ?_
          refine A_iadd dX2_takePart_112 ?_
          refine A_puti fl_X2_33 lk_51 rfl dX2_takePart_113 ?_
          refine A_iload_n dX2_takePart_116 rfl 2 rfl ?_
          refine A_ifeq_b (tgt := 130) dX2_takePart_117 (by decide) (fun _ => ?_) (fun h => absurd (h36.symm.trans h) (by decide))
          refine A_aload_n dX2_takePart_130 rfl 3 rfl ?_
          refine A_iload_n dX2_takePart_131 rfl 4 rfl ?_
          refine A_iload dX2_takePart_132 0 rfl ?_
          refine A_Vv2 mv_X2_162 lk_51 rfl rfl (c_X2_addFood _ _ _ (by omega) (by first | omega | with_reducible exact idxC_rng (by assumption))) (Nat.le_of_ble_eq_true rfl) (by omega) (by omega) dX2_takePart_134 ?_
          try simp (disch := omega) only [KC_up, VC_up, idxC_up, eouC_up, up_k, up_j, up_s]
          refine A_iconst dX2_takePart_137 ?_
          exact A_zret2 dX2_takePart_138 (by decide) (by (try simp (disch := omega) only [tpM, tp1M, nxM, KC_up, VC_up, idxC_up, eouC_up, up_k, up_j, up_s]) <;> (repeat' split) <;> first | contradiction | (exfalso; omega) | rfl | (simp (disch := omega) only [KC_up, VC_up, idxC_up, eouC_up, up_k, up_j, up_s]; done) | (simp_all [b2i_t, b2i_f]; done)) (by (try simp (disch := omega) only [tpM, tp1M, nxM, KC_up, VC_up, idxC_up, eouC_up, up_k, up_j, up_s]) <;> (repeat' split) <;> first | contradiction | (exfalso; omega) | with_reducible rfl | (simp (disch := omega) only [KC_up, VC_up, idxC_up, eouC_up, up_k, up_j, up_s]; done) | (simp_all; done))
        · refine A_aload_n dX2_takePart_96 rfl 3 rfl ?_
          refine A_iconst dX2_takePart_97 ?_
          refine A_aload_n dX2_takePart_98 rfl 3 rfl ?_
          refine A_geti fl_X2_33 lk_51 rfl dX2_takePart_99 ?_
          try simp (disch := omega) only [up_k, up_j, up_s, KC_up, VC_up, idxC_up, eouC_up, up_k, up_j, up_s]
          refine A_Va2 mv_X2_82 lk_51 rfl rfl (c_X2_fail _ _ _) (Nat.le_of_ble_eq_true rfl) (by omega) (by omega) dX2_takePart_102 ?_
          try simp (disch := omega) only [KC_up, VC_up, idxC_up, eouC_up, up_k, up_j, up_s]
          exact A_zret dX2_takePart_105 (by (try simp (disch := omega) only [tpM, tp1M, nxM, KC_up, VC_up, idxC_up, eouC_up, up_k, up_j, up_s]) <;> (repeat' split) <;> first | contradiction | (exfalso; omega) | rfl | (simp (disch := omega) only [KC_up, VC_up, idxC_up, eouC_up, up_k, up_j, up_s]; done) | (simp_all [b2i_t, b2i_f]; done)) (by (try simp (disch := omega) only [tpM, tp1M, nxM, KC_up, VC_up, idxC_up, eouC_up, up_k, up_j, up_s]) <;> (repeat' split) <;> first | contradiction | (exfalso; omega) | with_reducible rfl | (simp (disch := omega) only [KC_up, VC_up, idxC_up, eouC_up, up_k, up_j, up_s]; done) | (simp_all; done))
      · refine A_aload_n dX2_takePart_39 rfl 1 rfl ?_
        refine A_dup dX2_takePart_40 rfl ?_
        refine A_geti fl_X2_33 lk_51 rfl dX2_takePart_41 ?_
        try simp (disch := omega) only [up_k, up_j, up_s, KC_up, VC_up, idxC_up, eouC_up, up_k, up_j, up_s]
        refine A_iconst dX2_takePart_44 ?_
        refine A_iadd dX2_takePart_45 ?_
        refine A_puti fl_X2_33 lk_51 rfl dX2_takePart_46 ?_
        refine A_iload_n dX2_takePart_49 rfl 0 rfl ?_
        refine A_ifeq_b (tgt := 63) dX2_takePart_50 (by decide) (fun h => absurd (h36.symm.trans h) (by decide)) (fun _ => ?_)
        refine A_aload_n dX2_takePart_53 rfl 1 rfl ?_
        refine A_getr fl_X2_25 lk_51 rfl dX2_takePart_54 ?_
        refine A_getr fl_X2_68 lk_9 rfl dX2_takePart_57 ?_
        refine A_goto (tgt := 70) dX2_takePart_60 (by decide) ?_
        refine A_astore (lv2 := [(4, _), (3, _), (0, _), (1, _), (2, _)]) dX2_takePart_70 (by decide) rfl ?_
        refine A_aload dX2_takePart_72 0 rfl ?_
        refine A_aload_n dX2_takePart_74 rfl 2 rfl ?_
        refine A_getr fl_X2_21 lk_51 rfl dX2_takePart_75 ?_
        refine A_aload_n dX2_takePart_78 rfl 2 rfl ?_
        refine A_geti fl_X2_33 lk_51 rfl dX2_takePart_79 ?_
        try simp (disch := omega) only [up_k, up_j, up_s, KC_up, VC_up, idxC_up, eouC_up, up_k, up_j, up_s]
        refine A_Va1 mv_X2_92 lk_3 rfl rfl (c_X9_valueOf _ _) (Nat.le_of_ble_eq_true rfl) (by omega) (by omega) dX2_takePart_82 ?_
        try simp (disch := omega) only [KC_up, VC_up, idxC_up, eouC_up, up_k, up_j, up_s]
        refine A_Va1 mv_X2_154 lk_12 rfl rfl (c_X4_indexOf_12 _ _) (Nat.le_of_ble_eq_true rfl) (by omega) (by omega) dX2_takePart_85 ?_
        try simp (disch := omega) only [KC_up, VC_up, idxC_up, eouC_up, up_k, up_j, up_s]
        refine A_istore (lv2 := [(5, _), (4, _), (3, _), (0, _), (1, _), (2, _)]) dX2_takePart_88 (by decide) rfl ?_
        refine A_iload dX2_takePart_90 0 rfl ?_
        refine A_iconst dX2_takePart_92 ?_
        refine J_icmp_ne (tgt := 106) dX2_takePart_93 (by decide) (by first | with_reducible exact i32_eq (KC_inr _ _) | with_reducible exact idxC_i32 _ _ _ | exact i32_eq (by assumption) | exact i32_eq ⟨by omega, by omega⟩ | with_reducible exact i32_i32 _ | rfl) (by first | with_reducible exact i32_eq (KC_inr _ _) | with_reducible exact idxC_i32 _ _ _ | exact i32_eq (by assumption) | exact i32_eq ⟨by omega, by omega⟩ | with_reducible exact i32_i32 _ | rfl) (fun h93 => ?_) (fun h93 => ?_)
        · refine A_aload_n dX2_takePart_106 rfl 3 rfl ?_
          refine A_dup dX2_takePart_107 rfl ?_
          refine A_geti fl_X2_33 lk_51 rfl dX2_takePart_108 ?_
          try simp (disch := omega) only [up_k, up_j, up_s, KC_up, VC_up, idxC_up, eouC_up, up_k, up_j, up_s]
          refine A_iconst dX2_takePart_111 ?_
          refine A_iadd dX2_takePart_112 ?_
          refine A_puti fl_X2_33 lk_51 rfl dX2_takePart_113 ?_
          refine A_iload_n dX2_takePart_116 rfl 2 rfl ?_
          refine A_ifeq_b (tgt := 130) dX2_takePart_117 (by decide) (fun h => absurd (h36.symm.trans h) (by decide)) (fun _ => ?_)
          refine A_aload_n dX2_takePart_120 rfl 3 rfl ?_
          refine A_iload_n dX2_takePart_121 rfl 4 rfl ?_
          refine A_iload dX2_takePart_122 0 rfl ?_
          refine A_Vv2 mv_X2_158 lk_51 rfl rfl (c_X2_addDish _ _ _ (by omega) (by first | omega | with_reducible exact idxC_rng (by assumption)) (by simp (disch := omega) only [up_k, tnM_off, nnM_off]; exact hz)) (Nat.le_of_ble_eq_true rfl) (by omega) (by omega) dX2_takePart_124 ?_
          try simp (disch := omega) only [KC_up, VC_up, idxC_up, eouC_up, up_k, up_j, up_s]
          refine A_goto (tgt := 137) dX2_takePart_127 (by decide) ?_
          refine A_iconst dX2_takePart_137 ?_
          exact A_zret2 dX2_takePart_138 (by decide) (by (try simp (disch := omega) only [tpM, tp1M, nxM, KC_up, VC_up, idxC_up, eouC_up, up_k, up_j, up_s]) <;> (repeat' split) <;> first | contradiction | (exfalso; omega) | rfl | (simp (disch := omega) only [KC_up, VC_up, idxC_up, eouC_up, up_k, up_j, up_s]; done) | (simp_all [b2i_t, b2i_f]; done)) (by (try simp (disch := omega) only [tpM, tp1M, nxM, KC_up, VC_up, idxC_up, eouC_up, up_k, up_j, up_s]) <;> (repeat' split) <;> first | contradiction | (exfalso; omega) | with_reducible rfl | (simp (disch := omega) only [KC_up, VC_up, idxC_up, eouC_up, up_k, up_j, up_s]; done) | (simp_all; done))
        · refine A_aload_n dX2_takePart_96 rfl 3 rfl ?_
          refine A_iconst dX2_takePart_97 ?_
          refine A_aload_n dX2_takePart_98 rfl 3 rfl ?_
          refine A_geti fl_X2_33 lk_51 rfl dX2_takePart_99 ?_
          try simp (disch := omega) only [up_k, up_j, up_s, KC_up, VC_up, idxC_up, eouC_up, up_k, up_j, up_s]
          refine A_Va2 mv_X2_82 lk_51 rfl rfl (c_X2_fail _ _ _) (Nat.le_of_ble_eq_true rfl) (by omega) (by omega) dX2_takePart_102 ?_
          try simp (disch := omega) only [KC_up, VC_up, idxC_up, eouC_up, up_k, up_j, up_s]
          exact A_zret dX2_takePart_105 (by (try simp (disch := omega) only [tpM, tp1M, nxM, KC_up, VC_up, idxC_up, eouC_up, up_k, up_j, up_s]) <;> (repeat' split) <;> first | contradiction | (exfalso; omega) | rfl | (simp (disch := omega) only [KC_up, VC_up, idxC_up, eouC_up, up_k, up_j, up_s]; done) | (simp_all [b2i_t, b2i_f]; done)) (by (try simp (disch := omega) only [tpM, tp1M, nxM, KC_up, VC_up, idxC_up, eouC_up, up_k, up_j, up_s]) <;> (repeat' split) <;> first | contradiction | (exfalso; omega) | with_reducible rfl | (simp (disch := omega) only [KC_up, VC_up, idxC_up, eouC_up, up_k, up_j, up_s]; done) | (simp_all; done))
    · refine A_iconst dX2_takePart_27 ?_
      exact A_zret2 dX2_takePart_28 (by decide) (by (try simp (disch := omega) only [tpM, tp1M, nxM, KC_up, VC_up, idxC_up, eouC_up, up_k, up_j, up_s]) <;> (repeat' split) <;> first | contradiction | (exfalso; omega) | rfl | (simp (disch := omega) only [KC_up, VC_up, idxC_up, eouC_up, up_k, up_j, up_s]; done) | (simp_all [b2i_t, b2i_f]; done)) (by (try simp (disch := omega) only [tpM, tp1M, nxM, KC_up, VC_up, idxC_up, eouC_up, up_k, up_j, up_s]) <;> (repeat' split) <;> first | contradiction | (exfalso; omega) | with_reducible rfl | (simp (disch := omega) only [KC_up, VC_up, idxC_up, eouC_up, up_k, up_j, up_s]; done) | (simp_all; done))
  · refine A_aload_n dX2_takePart_6 rfl 0 rfl ?_
    refine A_iconst dX2_takePart_7 ?_
    refine A_aload_n dX2_takePart_8 rfl 0 rfl ?_
    refine A_geti fl_X2_33 lk_51 rfl dX2_takePart_9 ?_
    refine A_Va2 mv_X2_82 lk_51 rfl rfl (c_X2_fail _ _ _) (Nat.le_of_ble_eq_true rfl) (by omega) (by omega) dX2_takePart_12 ?_
    try simp (disch := omega) only [KC_up, VC_up, idxC_up, eouC_up, up_k, up_j, up_s]
    exact A_zret dX2_takePart_15 (by (try simp (disch := omega) only [tpM, tp1M, nxM, KC_up, VC_up, idxC_up, eouC_up, up_k, up_j, up_s]) <;> (repeat' split) <;> first | contradiction | (exfalso; omega) | rfl | (simp (disch := omega) only [KC_up, VC_up, idxC_up, eouC_up, up_k, up_j, up_s]; done) | (simp_all [b2i_t, b2i_f]; done)) (by (try simp (disch := omega) only [tpM, tp1M, nxM, KC_up, VC_up, idxC_up, eouC_up, up_k, up_j, up_s]) <;> (repeat' split) <;> first | contradiction | (exfalso; omega) | with_reducible rfl | (simp (disch := omega) only [KC_up, VC_up, idxC_up, eouC_up, up_k, up_j, up_s]; done) | (simp_all; done))
end S18
