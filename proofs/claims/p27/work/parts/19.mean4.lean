/-! MeaningReader: dishes, foods, programs -/
section S19
variable {l : Launch} {G : Gx}
theorem flM_10 (σ : Sg) (c t : Int) : flM σ c t 10 2 = σ 10 2 := flM_off (k := 10) (by decide) 2
theorem nxM_10 (σ : Sg) : nxM σ 10 2 = σ 10 2 := nxM_off (k := 10) (by decide) 2
theorem tnM_10 (σ : Sg) (lo hi : Int) : (tnM σ lo hi).2 10 2 = σ 10 2 := tnM_off (k := 10) (by decide) 2
theorem nnM_10 (σ : Sg) : (nnM σ).2 10 2 = σ 10 2 := nnM_off (k := 10) (by decide) 2
theorem fG_keep {α : Type} {c : Int → α → Bool} {g : Int → α → α} (v : α → Int) (h : ∀ i a, v (g i a) = v a) : ∀ (n : Nat) (i : Int) (a : α), v (fG c g n i a) = v a := by
  intro n
  induction n with
  | zero => intro i a; rfl
  | succ n ih =>
    intro i a
    rw [fG_s]
    split
    · rw [ih, h]
    · rfl
theorem fW_keep {α : Type} {sz : Int} {g : Int → α → α} (v : α → Int) (h : ∀ i a, v (g i a) = v a) : ∀ (n : Nat) (i : Int) (a : α), v (fW sz g n i a) = v a := by
  intro n
  induction n with
  | zero => intro i a; rfl
  | succ n ih =>
    intro i a
    rw [fW_s]
    split
    · rw [ih, h]
    · rfl
theorem addC_10 {σ : Sg} {k : Nat} {v : Int} (h1 : 10 ≠ k) (h2 : 10 ≠ k + 1) : addC σ k v 10 2 = σ 10 2 := by
  unfold addC
  split
  · rw [up_k _ _ h1, up_k _ _ h2]
  · rfl
theorem afM_10 (σ : Sg) (d o : Int) : afM σ d o 10 2 = σ 10 2 := by
  simp (disch := omega) only [afM, up_k]
theorem adM_10 (σ : Sg) (d o : Int) : adM σ d o 10 2 = σ 10 2 := by
  have h : ad1M σ d o 10 2 = σ 10 2 := fG_keep (fun a : Sg => a 10 2) (fun i a => by simp (disch := omega) only [adG1, up_k]) _ _ _
  simp (disch := omega) only [adM, up_k, h]
theorem tp1M_10 (p : Sg) (d : Int) (k : Nat) (b : Bool) : (tp1M p d k b).2 10 2 = p 10 2 := by
  unfold tp1M
  split
  · simp only [flM_10]
  · dsimp only
    split
    · rw [adM_10, nxM_10]
    · rw [afM_10, nxM_10]
theorem tpM_10 (σ : Sg) (d p : Int) : (tpM σ d p).2 10 2 = σ 10 2 := by
  unfold tpM
  split
  · simp only [flM_10]
  · split
    · split
      · rw [tp1M_10, nxM_10, tnM_10]
      · rw [tp1M_10, tnM_10]
    · exact tnM_10 _ _ _
theorem tpL_10 (d : Int) : ∀ (n : Nat) (p : Int) (b : Bool) (σ : Sg), (tpL d n p b σ).2.2 10 2 = σ 10 2 := by
  intro n
  induction n with
  | zero => intro p b σ; rfl
  | succ n ih =>
    intro p b σ
    simp only [tpL]
    split
    · rw [ih, tpM_10, nxM_10]
    · rfl
theorem tq0M_10 (σ : Sg) (d : Int) : tq0M σ d 10 2 = σ 10 2 := by
  have h := fW_keep (sz := 16) (g := fun i a => up a (34 + d.toNat) i.toNat 0) (fun a : Sg => a 10 2) (fun i a => by simp (disch := omega) only [up_k]) 16 0 (up (up σ 51 11 0) 51 12 0)
  exact h
theorem tqM_10 (σ : Sg) (d : Int) : (tqM σ d).2 10 2 = σ 10 2 := by
  simp only [tqM, tqE]
  rw [up_k _ _ (by decide), tpL_10, tq0M_10]
theorem tgL_10 : ∀ (n : Nat) (σ : Sg), (tgL n σ).2 10 2 = σ 10 2 := by
  have h1 : ∀ σ, (tg1M σ).2 10 2 = σ 10 2 := by
    intro σ
    unfold tg1M
    split
    · split
      · simp only [flM_10, nxM_10]
      · exact (addC_10 (by decide) (by decide)).trans (nxM_10 _)
    · exact nxM_10 _
  intro n
  induction n with
  | zero => intro σ; rfl
  | succ n ih =>
    intro σ
    simp only [tgL]
    split
    · split
      · rw [ih]
        simp only [tg2M]
        rw [nxM_10, up_k _ _ (by decide), h1]
      · exact h1 σ
    · rfl
/-! foods and dishes -/
def rf1M (σ : Sg) : Bool × Sg := nnM (nxM σ)
def rf2M (σ : Sg) : Bool × Sg := tnM (rf1M σ).2 0 900
def rf3M (σ : Sg) : Sg := up (up (rf2M σ).2 23 (i32 (σ 10 2)).toNat ((rf2M σ).2 51 9)) 24 (i32 (σ 10 2)).toNat 0
def rf4M (σ : Sg) : Bool × Sg := tnM (nxM (rf3M σ)) 0 999
def rf5M (σ : Sg) : Bool × Sg := if KC (rf3M σ) (rf3M σ 51 6) = 16 then (if (rf4M σ).1 = true then (true, up (rf4M σ).2 24 (i32 (σ 10 2)).toNat ((rf4M σ).2 51 9)) else (false, (rf4M σ).2)) else (true, rf3M σ)
def rf6M (p : Sg) : Bool × Sg := tgL 1500 (up p 51 10 0)
def rfEM (x : Nat) (v : Int) (q : Bool × Sg) : Bool × Sg := if q.1 = true then (true, nxM (addC (up q.2 25 x (q.2 51 10)) 10 v)) else (false, q.2)
def rfM (σ : Sg) : Bool × Sg := if fullC σ 10 = true ∨ i32 (σ 10 2) < 0 ∨ 16 ≤ i32 (σ 10 2) then (false, flM σ 4 (σ 51 6)) else if (rf1M σ).1 = true then (if (rf2M σ).1 = true then (if (rf5M σ).1 = true then rfEM (i32 (σ 10 2)).toNat (VC σ (σ 51 6 + 1)) (rf6M (rf5M σ).2) else (false, (rf5M σ).2)) else (false, (rf2M σ).2)) else (false, (rf1M σ).2)
def rd1M (σ : Sg) : Bool × Sg := nnM (nxM σ)
def rd2M (σ : Sg) : Bool × Sg := tnM (nxM (rd1M σ).2) 1 20
def rd3M (σ : Sg) : Sg := up (up (rd2M σ).2 26 (i32 (σ 12 2)).toNat ((rd2M σ).2 51 9)) 51 10 0
def rd4M (σ : Sg) : Bool × Sg := tqM (rd3M σ) (i32 (σ 12 2))
def rd5M (σ : Sg) : Bool × Sg := tgL 1500 (rd4M σ).2
def rdEM (σ : Sg) (p : Sg) : Bool × Sg := if tmuchM p (i32 (σ 12 2)) = true then (false, flM p 5 (σ 51 6 + 1)) else (true, nxM (addC (tdM p (i32 (σ 12 2))) 12 (VC (tdM p (i32 (σ 12 2))) (σ 51 6 + 1))))
def rdM (σ : Sg) : Bool × Sg := if fullC σ 12 = true ∨ i32 (σ 12 2) < 0 ∨ 16 ≤ i32 (σ 12 2) then (false, flM σ 4 (σ 51 6)) else if (rd1M σ).1 = true then (if (rd2M σ).1 = true then (if (rd4M σ).1 = true then (if (rd5M σ).1 = true then rdEM σ (rd5M σ).2 else (false, (rd5M σ).2)) else (false, (rd4M σ).2)) else (false, (rd2M σ).2)) else (false, (rd1M σ).2)
set_option maxRecDepth 100000 in
set_option maxHeartbeats 4000000 in
theorem w_X2_takeParts12 {f : Fm} {Q : State → Prop} {xs : va_W} {kk nn rc rs : Nat} (d : Int) (hd : 0 ≤ d ∧ d < 16) (hm : kk ≤ rc ∧ nn ≤ rs) : ∀ (n : Nat) (i : Int) (a : Sg), 0 ≤ i → inr i → i + n = 16 → AW l G f (RX2, cX2_takeParts, 4, (some .boolean)) (3, rc, rs) Q xs kk nn 36 [(0, .ref (lay G 51)), (1, .int (I32 d))] [] ((fW (16) (fun i a => up a (34 + d.toNat) i.toNat 0) n i a)) → AW l G f (RX2, cX2_takeParts, 4, (some .boolean)) (3, rc, rs) Q xs kk nn 12 [(2, .int (I32 i)), (0, .ref (lay G 51)), (1, .int (I32 d))] [] (a) := by
  intro n
  induction n using Nat.strongRecOn with | _ n ih =>
  intro i a h0 hii hn  hK
  obtain ⟨hi1, hi2⟩ := hii
  refine A_iload_n dX2_takeParts_12 rfl 0 rfl ?_
  refine A_bipush dX2_takeParts_13 (by decide +kernel) ?_
  refine J_icmp_ge (tgt := 36) dX2_takeParts_15 (by decide) (by first | with_reducible exact i32_eq (KC_inr _ _) | with_reducible exact idxC_i32 _ _ _ | exact i32_eq (by assumption) | exact i32_eq ⟨by omega, by omega⟩ | with_reducible exact i32_i32 _ | rfl) (by first | with_reducible exact i32_eq (KC_inr _ _) | with_reducible exact idxC_i32 _ _ _ | exact i32_eq (by assumption) | exact i32_eq ⟨by omega, by omega⟩ | with_reducible exact i32_i32 _ | rfl) (fun h15 => ?_) (fun h15 => ?_)
  · refine A_lv [1, 2] rfl ?_
    clear ih
    rcases n with _ | n <;> simp only [fW] at hK <;> (repeat' split at hK) <;> first | contradiction | (exfalso; omega) | exact hK | (simp_all; done)
  · refine A_aload_n dX2_takeParts_18 rfl 1 rfl ?_
    refine A_getr fl_X2_25 lk_51 rfl dX2_takeParts_19 ?_
    refine A_getr fl_X2_144 lk_9 rfl dX2_takeParts_22 ?_
    refine A_iload_n dX2_takeParts_25 rfl 2 rfl ?_
    refine J_aald lk_31 (by first | with_reducible exact i32_eq (KC_inr _ _) | with_reducible exact idxC_i32 _ _ _ | exact i32_eq (by assumption) | exact i32_eq ⟨by omega, by omega⟩ | with_reducible exact i32_i32 _ | rfl) (by omega) (by omega) (by decide) dX2_takeParts_26 ?_
    refine A_iload_n dX2_takeParts_27 rfl 0 rfl ?_
    refine A_iconst dX2_takeParts_28 ?_
    refine J_iast (lk_row34 (by omega)) (by first | with_reducible exact i32_eq (KC_inr _ _) | with_reducible exact idxC_i32 _ _ _ | exact i32_eq (by assumption) | exact i32_eq ⟨by omega, by omega⟩ | with_reducible exact i32_i32 _ | rfl) (by omega) (by omega) (by decide) dX2_takeParts_29 ?_
    refine A_iinc (lv2 := [(2, _), (0, _), (1, _)]) dX2_takeParts_30 0 rfl (by decide) rfl ?_
    refine A_goto (tgt := 12) dX2_takeParts_33 (by decide) ?_
    refine A_lv [0, 1, 2] rfl ?_
    refine ih (n - 1) (by omega) (i + 1) _ (by omega) ⟨by omega, by omega⟩ (by omega) ?_
    obtain ⟨n, rfl⟩ : ∃ q, n = q + 1 := ⟨n - 1, by omega⟩
    clear ih
    rw [fW_s] at hK
    simp only [Nat.add_sub_cancel]
    (repeat' split at hK) <;> first | contradiction | (exfalso; omega) | exact hK | (simp_all; done)
set_option maxRecDepth 100000 in
set_option maxHeartbeats 4000000 in
theorem w_X2_takeParts40 {f : Fm} (d : Int) (hd : 0 ≤ d ∧ d < 16) : ∀ (n : Nat) (i : Int) (b : Bool) (σ : Sg) (r : Option Value) (σ1 : Sg), 0 ≤ i → i + n = 1500 → i32 (σ 10 2) ≤ 16 → r = some (.int (I32 (b2i (tqE d (tpL d n i b σ)).1))) → σ1 = (tqE d (tpL d n i b σ)).2 → AW l G f (RX2, cX2_takeParts, 4, (some .boolean)) (3, 0, 0) (QT G f 0 0 r σ1) [] 0 0 40 [(3, .int (I32 i)), (2, .int (I32 (b2i b))), (0, .ref (lay G 51)), (1, .int (I32 d))] [] σ := by
  intro n
  induction n using Nat.strongRecOn with | _ n ih =>
  intro i b σ r σ1 h0 hn hz hr hs
  refine A_iload_n dX2_takeParts_40 rfl 0 rfl ?_
  refine A_sipush dX2_takeParts_41 (by decide +kernel) ?_
  refine J_icmp_ge (tgt := 92) dX2_takeParts_44 (by decide) (by first | with_reducible exact i32_eq (KC_inr _ _) | with_reducible exact idxC_i32 _ _ _ | exact i32_eq (by assumption) | exact i32_eq ⟨by omega, by omega⟩ | with_reducible exact i32_i32 _ | rfl) (by first | with_reducible exact i32_eq (KC_inr _ _) | with_reducible exact idxC_i32 _ _ _ | exact i32_eq (by assumption) | exact i32_eq ⟨by omega, by omega⟩ | with_reducible exact i32_i32 _ | rfl) (fun h44 => ?_) (fun h44 => ?_)
  · refine A_aload_n dX2_takeParts_92 rfl 2 rfl ?_
    refine A_getr fl_X2_25 lk_51 rfl dX2_takeParts_93 ?_
    refine A_getr fl_X2_151 lk_9 rfl dX2_takeParts_96 ?_
    refine A_iload_n dX2_takeParts_99 rfl 3 rfl ?_
    refine A_iload_n dX2_takeParts_100 rfl 0 rfl ?_
    refine J_iast lk_30 (by first | with_reducible exact i32_eq (KC_inr _ _) | with_reducible exact idxC_i32 _ _ _ | exact i32_eq (by assumption) | exact i32_eq ⟨by omega, by omega⟩ | with_reducible exact i32_i32 _ | rfl) (by omega) (by omega) (by decide) dX2_takeParts_101 ?_
    refine A_iload_n dX2_takeParts_102 rfl 1 rfl ?_
    exact A_zret dX2_takeParts_103 (by rw [hr]; clear ih; rcases n with _ | n <;> (try simp (disch := omega) only [tpL, tqE, KC_up, VC_up, idxC_up, eouC_up, up_k, up_j, up_s]) <;> (repeat' split) <;> first | contradiction | (exfalso; omega) | rfl | (simp (disch := omega) only [KC_up, VC_up, idxC_up, eouC_up, up_k, up_j, up_s]; done) | (simp_all [b2i_t, b2i_f]; done)) (by rw [hs]; clear ih; rcases n with _ | n <;> (try simp (disch := omega) only [tpL, tqE, KC_up, VC_up, idxC_up, eouC_up, up_k, up_j, up_s]) <;> (repeat' split) <;> first | contradiction | (exfalso; omega) | with_reducible rfl | (simp (disch := omega) only [KC_up, VC_up, idxC_up, eouC_up, up_k, up_j, up_s]; done) | (simp_all; done))
  · refine A_iload_n dX2_takeParts_47 rfl 1 rfl ?_
    refine A_ifeq_b (tgt := 92) dX2_takeParts_48 (by decide) (fun h48 => ?_) (fun h48 => ?_)
    · refine A_aload_n dX2_takeParts_92 rfl 2 rfl ?_
      refine A_getr fl_X2_25 lk_51 rfl dX2_takeParts_93 ?_
      refine A_getr fl_X2_151 lk_9 rfl dX2_takeParts_96 ?_
      refine A_iload_n dX2_takeParts_99 rfl 3 rfl ?_
      refine A_iload_n dX2_takeParts_100 rfl 0 rfl ?_
      refine J_iast lk_30 (by first | with_reducible exact i32_eq (KC_inr _ _) | with_reducible exact idxC_i32 _ _ _ | exact i32_eq (by assumption) | exact i32_eq ⟨by omega, by omega⟩ | with_reducible exact i32_i32 _ | rfl) (by omega) (by omega) (by decide) dX2_takeParts_101 ?_
      refine A_iload_n dX2_takeParts_102 rfl 1 rfl ?_
      exact A_zret dX2_takeParts_103 (by rw [hr]; clear ih; rcases n with _ | n <;> (try simp (disch := omega) only [tpL, tqE, KC_up, VC_up, idxC_up, eouC_up, up_k, up_j, up_s]) <;> (repeat' split) <;> first | contradiction | (exfalso; omega) | rfl | (simp (disch := omega) only [KC_up, VC_up, idxC_up, eouC_up, up_k, up_j, up_s]; done) | (simp_all [b2i_t, b2i_f]; done)) (by rw [hs]; clear ih; rcases n with _ | n <;> (try simp (disch := omega) only [tpL, tqE, KC_up, VC_up, idxC_up, eouC_up, up_k, up_j, up_s]) <;> (repeat' split) <;> first | contradiction | (exfalso; omega) | with_reducible rfl | (simp (disch := omega) only [KC_up, VC_up, idxC_up, eouC_up, up_k, up_j, up_s]; done) | (simp_all; done))
    · refine A_aload_n dX2_takeParts_51 rfl 2 rfl ?_
      refine A_bipush dX2_takeParts_52 (by decide +kernel) ?_
      refine A_Va1 mv_X2_47 lk_51 rfl rfl (c_X2_isKind _ _ ⟨by decide, by decide⟩) (Nat.le_of_ble_eq_true rfl) (by omega) (by omega) dX2_takeParts_54 ?_
      try simp (disch := omega) only [KC_up, VC_up, idxC_up, eouC_up, up_k, up_j, up_s]
      refine A_ifne_b (tgt := 69) dX2_takeParts_57 (by decide) (fun h57 => ?_) (fun h57 => ?_)
      · refine A_aload_n dX2_takeParts_69 rfl 2 rfl ?_
        refine A_dup dX2_takeParts_70 rfl ?_
        refine A_geti fl_X2_33 lk_51 rfl dX2_takeParts_71 ?_
        try simp (disch := omega) only [up_k, up_j, up_s, KC_up, VC_up, idxC_up, eouC_up, up_k, up_j, up_s]
        refine A_iconst dX2_takeParts_74 ?_
        refine A_iadd dX2_takeParts_75 ?_
        refine A_puti fl_X2_33 lk_51 rfl dX2_takeParts_76 ?_
        refine A_aload_n dX2_takeParts_79 rfl 2 rfl ?_
        refine A_iload_n dX2_takeParts_80 rfl 3 rfl ?_
        refine A_iload_n dX2_takeParts_81 rfl 0 rfl ?_
        refine A_Va2 mv_X2_148 lk_51 rfl rfl (c_X2_takePart _ _ _ (by omega) ⟨by omega, by omega⟩ (by simp (disch := omega) only [up_k]; exact hz)) (Nat.le_of_ble_eq_true rfl) (by omega) (by omega) dX2_takeParts_82 ?_
        try simp (disch := omega) only [KC_up, VC_up, idxC_up, eouC_up, up_k, up_j, up_s]
        rw [show up σ 51 6 (σ 51 6 + 1) = nxM σ from rfl]
        refine A_istore_n (lv2 := [(2, _), (3, _), (0, _), (1, _)]) dX2_takeParts_85 rfl (by decide) rfl ?_
        refine A_iinc (lv2 := [(3, _), (2, _), (0, _), (1, _)]) dX2_takeParts_86 1 rfl (by decide) rfl ?_
        refine A_goto (tgt := 40) dX2_takeParts_89 (by decide) ?_
        refine A_lv [0, 1, 2, 3] rfl ?_
        exact ih (n - 1) (by omega) (i + 1) _ _ r σ1 (by omega) (by omega) (by rw [tpM_10, nxM_10]; exact hz) (by rw [hr]; clear ih; obtain ⟨n, rfl⟩ : ∃ q, n = q + 1 := ⟨n - 1, by omega⟩; (try simp (disch := omega) only [tpL, tqE, nxM, Nat.add_sub_cancel, KC_up, VC_up, idxC_up, eouC_up, up_k, up_j, up_s]) <;> (repeat' split) <;> first | contradiction | (exfalso; omega) | rfl | (simp (disch := omega) only [KC_up, VC_up, idxC_up, eouC_up, up_k, up_j, up_s]; done) | (simp_all [b2i_t, b2i_f]; done)) (by rw [hs]; clear ih; obtain ⟨n, rfl⟩ : ∃ q, n = q + 1 := ⟨n - 1, by omega⟩; (try simp (disch := omega) only [tpL, tqE, nxM, Nat.add_sub_cancel, KC_up, VC_up, idxC_up, eouC_up, up_k, up_j, up_s]) <;> (repeat' split) <;> first | contradiction | (exfalso; omega) | with_reducible rfl | (simp (disch := omega) only [KC_up, VC_up, idxC_up, eouC_up, up_k, up_j, up_s]; done) | (simp_all; done))
      · refine A_aload_n dX2_takeParts_60 rfl 2 rfl ?_
        refine A_bipush dX2_takeParts_61 (by decide +kernel) ?_
        refine A_Va1 mv_X2_47 lk_51 rfl rfl (c_X2_isKind _ _ ⟨by decide, by decide⟩) (Nat.le_of_ble_eq_true rfl) (by omega) (by omega) dX2_takeParts_63 ?_
        try simp (disch := omega) only [KC_up, VC_up, idxC_up, eouC_up, up_k, up_j, up_s]
        refine A_ifeq_b (tgt := 92) dX2_takeParts_66 (by decide) (fun h66 => ?_) (fun h66 => ?_)
        · refine A_aload_n dX2_takeParts_92 rfl 2 rfl ?_
          refine A_getr fl_X2_25 lk_51 rfl dX2_takeParts_93 ?_
          refine A_getr fl_X2_151 lk_9 rfl dX2_takeParts_96 ?_
          refine A_iload_n dX2_takeParts_99 rfl 3 rfl ?_
          refine A_iload_n dX2_takeParts_100 rfl 0 rfl ?_
          refine J_iast lk_30 (by first | with_reducible exact i32_eq (KC_inr _ _) | with_reducible exact idxC_i32 _ _ _ | exact i32_eq (by assumption) | exact i32_eq ⟨by omega, by omega⟩ | with_reducible exact i32_i32 _ | rfl) (by omega) (by omega) (by decide) dX2_takeParts_101 ?_
          refine A_iload_n dX2_takeParts_102 rfl 1 rfl ?_
          exact A_zret dX2_takeParts_103 (by rw [hr]; clear ih; rcases n with _ | n <;> (try simp (disch := omega) only [tpL, tqE, KC_up, VC_up, idxC_up, eouC_up, up_k, up_j, up_s]) <;> (repeat' split) <;> first | contradiction | (exfalso; omega) | rfl | (simp (disch := omega) only [KC_up, VC_up, idxC_up, eouC_up, up_k, up_j, up_s]; done) | (simp_all [b2i_t, b2i_f]; done)) (by rw [hs]; clear ih; rcases n with _ | n <;> (try simp (disch := omega) only [tpL, tqE, KC_up, VC_up, idxC_up, eouC_up, up_k, up_j, up_s]) <;> (repeat' split) <;> first | contradiction | (exfalso; omega) | with_reducible rfl | (simp (disch := omega) only [KC_up, VC_up, idxC_up, eouC_up, up_k, up_j, up_s]; done) | (simp_all; done))
        · refine A_aload_n dX2_takeParts_69 rfl 2 rfl ?_
          refine A_dup dX2_takeParts_70 rfl ?_
          refine A_geti fl_X2_33 lk_51 rfl dX2_takeParts_71 ?_
          try simp (disch := omega) only [up_k, up_j, up_s, KC_up, VC_up, idxC_up, eouC_up, up_k, up_j, up_s]
          refine A_iconst dX2_takeParts_74 ?_
          refine A_iadd dX2_takeParts_75 ?_
          refine A_puti fl_X2_33 lk_51 rfl dX2_takeParts_76 ?_
          refine A_aload_n dX2_takeParts_79 rfl 2 rfl ?_
          refine A_iload_n dX2_takeParts_80 rfl 3 rfl ?_
          refine A_iload_n dX2_takeParts_81 rfl 0 rfl ?_
          refine A_Va2 mv_X2_148 lk_51 rfl rfl (c_X2_takePart _ _ _ (by omega) ⟨by omega, by omega⟩ (by simp (disch := omega) only [up_k]; exact hz)) (Nat.le_of_ble_eq_true rfl) (by omega) (by omega) dX2_takeParts_82 ?_
          try simp (disch := omega) only [KC_up, VC_up, idxC_up, eouC_up, up_k, up_j, up_s]
          rw [show up σ 51 6 (σ 51 6 + 1) = nxM σ from rfl]
          refine A_istore_n (lv2 := [(2, _), (3, _), (0, _), (1, _)]) dX2_takeParts_85 rfl (by decide) rfl ?_
          refine A_iinc (lv2 := [(3, _), (2, _), (0, _), (1, _)]) dX2_takeParts_86 1 rfl (by decide) rfl ?_
          refine A_goto (tgt := 40) dX2_takeParts_89 (by decide) ?_
          refine A_lv [0, 1, 2, 3] rfl ?_
          exact ih (n - 1) (by omega) (i + 1) _ _ r σ1 (by omega) (by omega) (by rw [tpM_10, nxM_10]; exact hz) (by rw [hr]; clear ih; obtain ⟨n, rfl⟩ : ∃ q, n = q + 1 := ⟨n - 1, by omega⟩; (try simp (disch := omega) only [tpL, tqE, nxM, Nat.add_sub_cancel, KC_up, VC_up, idxC_up, eouC_up, up_k, up_j, up_s]) <;> (repeat' split) <;> first | contradiction | (exfalso; omega) | rfl | (simp (disch := omega) only [KC_up, VC_up, idxC_up, eouC_up, up_k, up_j, up_s]; done) | (simp_all [b2i_t, b2i_f]; done)) (by rw [hs]; clear ih; obtain ⟨n, rfl⟩ : ∃ q, n = q + 1 := ⟨n - 1, by omega⟩; (try simp (disch := omega) only [tpL, tqE, nxM, Nat.add_sub_cancel, KC_up, VC_up, idxC_up, eouC_up, up_k, up_j, up_s]) <;> (repeat' split) <;> first | contradiction | (exfalso; omega) | with_reducible rfl | (simp (disch := omega) only [KC_up, VC_up, idxC_up, eouC_up, up_k, up_j, up_s]; done) | (simp_all; done))
set_option maxRecDepth 100000 in
set_option maxHeartbeats 4000000 in
theorem c_X2_takeParts (σ : Sg) (d : Int) (hd : 0 ≤ d ∧ d < 16) (hz : i32 (σ 10 2) ≤ 16) : Ct l G yX2_takeParts cX2_takeParts 4 (some .boolean) 3 0 0 [.ref (lay G 51), .int (I32 d)] σ (some (.int (I32 (b2i (tqM σ d).1)))) ((tqM σ d).2) := by
  refine Ct.of (by decide +kernel) (Nat.le_of_ble_eq_true rfl) (fun f => ?_)
  show AW _ _ _ _ _ _ _ _ _ _ [(0, _), (1, _)] _ _
  refine A_aload_n dX2_takeParts_0 rfl 0 rfl ?_
  refine A_lconst (w := 0) dX2_takeParts_1 rfl ?_
  refine A_putl fl_X2_137 lk_51 rfl dX2_takeParts_2 ?_
  refine A_aload_n dX2_takeParts_5 rfl 0 rfl ?_
  refine A_lconst (w := 0) dX2_takeParts_6 rfl ?_
  refine A_putl fl_X2_141 lk_51 rfl dX2_takeParts_7 ?_
  refine A_iconst dX2_takeParts_10 ?_
  refine A_istore_n (lv2 := [(2, _), (0, _), (1, _)]) dX2_takeParts_11 rfl (by decide) rfl ?_
  refine A_lv [0, 1, 2] rfl ?_
  refine w_X2_takeParts12 d hd (by omega) 16 0 _ (by omega) ⟨by omega, by omega⟩ (by omega) ?_
  show AW _ _ _ _ _ _ _ _ _ _ _ _ (tq0M σ d)
  refine A_iconst dX2_takeParts_36 ?_
  refine A_istore_n (lv2 := [(2, _), (0, _), (1, _)]) dX2_takeParts_37 rfl (by decide) rfl ?_
  refine A_iconst dX2_takeParts_38 ?_
  refine A_istore_n (lv2 := [(3, _), (2, _), (0, _), (1, _)]) dX2_takeParts_39 rfl (by decide) rfl ?_
  refine A_lv [0, 1, 2, 3] rfl ?_
  exact w_X2_takeParts40 d hd 1500 0 true _ _ _ (by omega) (by omega) (by rw [tq0M_10]; exact hz) rfl rfl
end S19
