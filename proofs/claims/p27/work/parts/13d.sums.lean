section S13d
variable {l : Launch} {G : Gx}
set_option maxRecDepth 100000 in
set_option maxHeartbeats 4000000 in
theorem w_X3_allFaults {f : Fm} {Q : State → Prop} {xs : va_W} {kk nn rc rs : Nat} (σ : Sg) (hm : kk ≤ rc ∧ nn ≤ rs) : ∀ (n : Nat) (i : Int) (s : Int), 0 ≤ i → inr i → i + n = 8 → AW l G f (RX3, cX3_allFaults, 3, (some .int)) (0, rc, rs) Q xs kk nn 42 [(1, .int (I32 (fW (min (i32 (σ 18 4)) 8) (fun r a => a + σ 60 r.toNat) n i s))), (0, .ref (lay G 55))] [] (σ) → AW l G f (RX3, cX3_allFaults, 3, (some .int)) (0, rc, rs) Q xs kk nn 7 [(2, .int (I32 i)), (1, .int (I32 s)), (0, .ref (lay G 55))] [] (σ) := by
  intro n
  induction n using Nat.strongRecOn with | _ n ih =>
  intro i s h0 hii hn  hK
  obtain ⟨hi1, hi2⟩ := hii
  refine A_iload_n dX3_allFaults_7 rfl 0 rfl ?_
  refine A_aload_n dX3_allFaults_8 rfl 2 rfl ?_
  refine A_getr fl_X3_29 lk_55 rfl dX3_allFaults_9 ?_
  refine A_getr fl_X3_64 lk_9 rfl dX3_allFaults_12 ?_
  refine A_geti fl_X3_68 lk_18 rfl dX3_allFaults_15 ?_
  refine J_icmp_ge (tgt := 42) dX3_allFaults_18 (by decide) (by first | exact i32_eq (by assumption) | exact i32_eq ⟨by omega, by omega⟩ | with_reducible exact i32_i32 _ | with_reducible exact i32_eq (b2i_inr _) | rfl) (by first | exact i32_eq (by assumption) | exact i32_eq ⟨by omega, by omega⟩ | with_reducible exact i32_i32 _ | with_reducible exact i32_eq (b2i_inr _) | rfl) (fun h18 => ?_) (fun h18 => ?_)
  · refine A_lv [1, 2] rfl ?_
    clear ih
    rcases n with _ | n <;> simp only [fW] at hK <;> (repeat' split at hK) <;> first | contradiction | (exfalso; omega) | exact hK | (simp_all; done)
  · refine A_iload_n dX3_allFaults_21 rfl 0 rfl ?_
    refine A_bipush dX3_allFaults_22 (by decide +kernel) ?_
    refine J_icmp_ge (tgt := 42) dX3_allFaults_24 (by decide) (by first | exact i32_eq (by assumption) | exact i32_eq ⟨by omega, by omega⟩ | with_reducible exact i32_i32 _ | with_reducible exact i32_eq (b2i_inr _) | rfl) (by first | exact i32_eq (by assumption) | exact i32_eq ⟨by omega, by omega⟩ | with_reducible exact i32_i32 _ | with_reducible exact i32_eq (b2i_inr _) | rfl) (fun h24 => ?_) (fun h24 => ?_)
    · refine A_lv [1, 2] rfl ?_
      clear ih
      rcases n with _ | n <;> simp only [fW] at hK <;> (repeat' split at hK) <;> first | contradiction | (exfalso; omega) | exact hK | (simp_all; done)
    · refine A_iload_n dX3_allFaults_27 rfl 1 rfl ?_
      refine A_aload_n dX3_allFaults_28 rfl 2 rfl ?_
      refine A_getr fl_X3_26 lk_55 rfl dX3_allFaults_29 ?_
      refine A_iload_n dX3_allFaults_32 rfl 0 rfl ?_
      refine J_iald lk_60 (by first | exact i32_eq (by assumption) | exact i32_eq ⟨by omega, by omega⟩ | with_reducible exact i32_i32 _ | with_reducible exact i32_eq (b2i_inr _) | rfl) (by omega) (by omega) (by decide) dX3_allFaults_33 ?_
      refine A_iadd dX3_allFaults_34 ?_
      refine A_istore_n (lv2 := [(1, _), (2, _), (0, _)]) dX3_allFaults_35 rfl (by decide) rfl ?_
      refine A_iinc (lv2 := [(2, _), (1, _), (0, _)]) dX3_allFaults_36 1 rfl (by decide) rfl ?_
      refine A_goto (tgt := 7) dX3_allFaults_39 (by decide) ?_
      refine A_lv [0, 1, 2] rfl ?_
      refine ih (n - 1) (by omega) (i + 1) _ (by omega) ⟨by omega, by omega⟩ (by omega) ?_
      obtain ⟨n, rfl⟩ : ∃ q, n = q + 1 := ⟨n - 1, by omega⟩
      clear ih
      rw [fW_s] at hK
      simp only [Nat.add_sub_cancel]
      (repeat' split at hK) <;> first | contradiction | (exfalso; omega) | exact hK | (simp_all; done)
set_option maxRecDepth 100000 in
set_option maxHeartbeats 4000000 in
theorem c_X3_allFaults (σ : Sg)  : Ct l G yX3_allFaults cX3_allFaults 3 (some .int) 0 0 0 [.ref (lay G 55)] σ (some (.int (I32 (afC σ)))) (σ) := by
  refine Ct.of (by decide +kernel) (Nat.le_of_ble_eq_true rfl) (fun f => ?_)
  show AW _ _ _ _ _ _ _ _ _ _ [(0, _)] _ _
  refine A_aload_n dX3_allFaults_0 rfl 0 rfl ?_
  refine A_geti fl_X3_42 lk_55 rfl dX3_allFaults_1 ?_
  refine A_istore_n (lv2 := [(1, _), (0, _)]) dX3_allFaults_4 rfl (by decide) rfl ?_
  refine A_iconst dX3_allFaults_5 ?_
  refine A_istore_n (lv2 := [(2, _), (1, _), (0, _)]) dX3_allFaults_6 rfl (by decide) rfl ?_
  refine A_lv [0, 1, 2] rfl ?_
  refine w_X3_allFaults σ (by omega) 8 0 _ (by omega) ⟨by omega, by omega⟩ (by omega) ?_
  refine A_iload_n dX3_allFaults_42 rfl 0 rfl ?_
  exact A_iret dX3_allFaults_43 rfl rfl
set_option maxRecDepth 100000 in
set_option maxHeartbeats 4000000 in
theorem w_X3_ft {f : Fm} {Q : State → Prop} {xs : va_W} {kk nn rc rs : Nat} (σ : Sg) (hm : kk ≤ rc ∧ nn ≤ rs) : ∀ (n : Nat) (i : Int) (s : Int), 0 ≤ i → inr i → i + n = 8 → AW l G f (RX3, cX3_faultsOfTooMuch, 4, (some .int)) (0, rc, rs) Q xs kk nn 61 [(1, .int (I32 (fW (min (i32 (σ 18 4)) 8) (ftG σ) n i s))), (0, .ref (lay G 55))] [] (σ) → AW l G f (RX3, cX3_faultsOfTooMuch, 4, (some .int)) (0, rc, rs) Q xs kk nn 4 [(2, .int (I32 i)), (1, .int (I32 s)), (0, .ref (lay G 55))] [] (σ) := by
  intro n
  induction n using Nat.strongRecOn with | _ n ih =>
  intro i s h0 hii hn  hK
  obtain ⟨hi1, hi2⟩ := hii
  refine A_iload_n dX3_faultsOfTooMuch_4 rfl 0 rfl ?_
  refine A_aload_n dX3_faultsOfTooMuch_5 rfl 2 rfl ?_
  refine A_getr fl_X3_29 lk_55 rfl dX3_faultsOfTooMuch_6 ?_
  refine A_getr fl_X3_64 lk_9 rfl dX3_faultsOfTooMuch_9 ?_
  refine A_geti fl_X3_68 lk_18 rfl dX3_faultsOfTooMuch_12 ?_
  refine J_icmp_ge (tgt := 61) dX3_faultsOfTooMuch_15 (by decide) (by first | exact i32_eq (by assumption) | exact i32_eq ⟨by omega, by omega⟩ | with_reducible exact i32_i32 _ | with_reducible exact i32_eq (b2i_inr _) | rfl) (by first | exact i32_eq (by assumption) | exact i32_eq ⟨by omega, by omega⟩ | with_reducible exact i32_i32 _ | with_reducible exact i32_eq (b2i_inr _) | rfl) (fun h15 => ?_) (fun h15 => ?_)
  · refine A_lv [1, 2] rfl ?_
    clear ih
    rcases n with _ | n <;> simp only [fW] at hK <;> (repeat' split at hK) <;> first | contradiction | (exfalso; omega) | exact hK | (simp_all; done)
  · refine A_iload_n dX3_faultsOfTooMuch_18 rfl 0 rfl ?_
    refine A_bipush dX3_faultsOfTooMuch_19 (by decide +kernel) ?_
    refine J_icmp_ge (tgt := 61) dX3_faultsOfTooMuch_21 (by decide) (by first | exact i32_eq (by assumption) | exact i32_eq ⟨by omega, by omega⟩ | with_reducible exact i32_i32 _ | with_reducible exact i32_eq (b2i_inr _) | rfl) (by first | exact i32_eq (by assumption) | exact i32_eq ⟨by omega, by omega⟩ | with_reducible exact i32_i32 _ | with_reducible exact i32_eq (b2i_inr _) | rfl) (fun h21 => ?_) (fun h21 => ?_)
    · refine A_lv [1, 2] rfl ?_
      clear ih
      rcases n with _ | n <;> simp only [fW] at hK <;> (repeat' split at hK) <;> first | contradiction | (exfalso; omega) | exact hK | (simp_all; done)
    · refine A_aload_n dX3_faultsOfTooMuch_24 rfl 2 rfl ?_
      refine A_getr fl_X3_29 lk_55 rfl dX3_faultsOfTooMuch_25 ?_
      refine A_getr fl_X3_64 lk_9 rfl dX3_faultsOfTooMuch_28 ?_
      refine A_getr fl_X3_77 lk_18 rfl dX3_faultsOfTooMuch_31 ?_
      refine A_iload_n dX3_faultsOfTooMuch_34 rfl 0 rfl ?_
      refine J_iald lk_19 (by first | exact i32_eq (by assumption) | exact i32_eq ⟨by omega, by omega⟩ | with_reducible exact i32_i32 _ | with_reducible exact i32_eq (b2i_inr _) | rfl) (by omega) (by omega) (by decide) dX3_faultsOfTooMuch_35 ?_
      refine A_istore_n (lv2 := [(3, _), (2, _), (1, _), (0, _)]) dX3_faultsOfTooMuch_36 rfl (by decide) rfl ?_
      refine A_iload_n dX3_faultsOfTooMuch_37 rfl 0 rfl ?_
      refine J_if_eq (tgt := 46) dX3_faultsOfTooMuch_38 (by decide) (by first | exact i32_eq (by assumption) | exact i32_eq ⟨by omega, by omega⟩ | with_reducible exact i32_i32 _ | with_reducible exact i32_eq (b2i_inr _) | rfl) (fun h38 => ?_) (fun h38 => ?_)
      · refine A_iload_n dX3_faultsOfTooMuch_46 rfl 2 rfl ?_
        refine A_aload_n dX3_faultsOfTooMuch_47 rfl 3 rfl ?_
        refine A_getr fl_X3_26 lk_55 rfl dX3_faultsOfTooMuch_48 ?_
        refine A_iload_n dX3_faultsOfTooMuch_51 rfl 1 rfl ?_
        refine J_iald lk_60 (by first | exact i32_eq (by assumption) | exact i32_eq ⟨by omega, by omega⟩ | with_reducible exact i32_i32 _ | with_reducible exact i32_eq (b2i_inr _) | rfl) (by omega) (by omega) (by decide) dX3_faultsOfTooMuch_52 ?_
        refine A_iadd dX3_faultsOfTooMuch_53 ?_
        refine A_istore_n (lv2 := [(1, _), (3, _), (2, _), (0, _)]) dX3_faultsOfTooMuch_54 rfl (by decide) rfl ?_
        refine A_iinc (lv2 := [(2, _), (1, _), (3, _), (0, _)]) dX3_faultsOfTooMuch_55 2 rfl (by decide) rfl ?_
        refine A_goto (tgt := 4) dX3_faultsOfTooMuch_58 (by decide) ?_
        refine A_lv [0, 1, 3] rfl ?_
        refine ih (n - 1) (by omega) (i + 1) _ (by omega) ⟨by omega, by omega⟩ (by omega) ?_
        obtain ⟨n, rfl⟩ : ∃ q, n = q + 1 := ⟨n - 1, by omega⟩
        clear ih
        rw [fW_s] at hK
        simp only [Nat.add_sub_cancel]
        simp only [ftG] at hK
        (repeat' split at hK) <;> first | contradiction | (exfalso; omega) | exact hK | (simp_all; done)
      · refine A_iload_n dX3_faultsOfTooMuch_41 rfl 0 rfl ?_
        refine A_iconst dX3_faultsOfTooMuch_42 ?_
        refine J_icmp_ne (tgt := 55) dX3_faultsOfTooMuch_43 (by decide) (by first | exact i32_eq (by assumption) | exact i32_eq ⟨by omega, by omega⟩ | with_reducible exact i32_i32 _ | with_reducible exact i32_eq (b2i_inr _) | rfl) (by first | exact i32_eq (by assumption) | exact i32_eq ⟨by omega, by omega⟩ | with_reducible exact i32_i32 _ | with_reducible exact i32_eq (b2i_inr _) | rfl) (fun h43 => ?_) (fun h43 => ?_)
        · refine A_iinc (lv2 := [(2, _), (3, _), (1, _), (0, _)]) dX3_faultsOfTooMuch_55 1 rfl (by decide) rfl ?_
          refine A_goto (tgt := 4) dX3_faultsOfTooMuch_58 (by decide) ?_
          refine A_lv [0, 2, 3] rfl ?_
          refine ih (n - 1) (by omega) (i + 1) _ (by omega) ⟨by omega, by omega⟩ (by omega) ?_
          obtain ⟨n, rfl⟩ : ∃ q, n = q + 1 := ⟨n - 1, by omega⟩
          clear ih
          rw [fW_s] at hK
          simp only [Nat.add_sub_cancel]
          simp only [ftG] at hK
          (repeat' split at hK) <;> first | contradiction | (exfalso; omega) | exact hK | (simp_all; done)
        · refine A_iload_n dX3_faultsOfTooMuch_46 rfl 2 rfl ?_
          refine A_aload_n dX3_faultsOfTooMuch_47 rfl 3 rfl ?_
          refine A_getr fl_X3_26 lk_55 rfl dX3_faultsOfTooMuch_48 ?_
          refine A_iload_n dX3_faultsOfTooMuch_51 rfl 1 rfl ?_
          refine J_iald lk_60 (by first | exact i32_eq (by assumption) | exact i32_eq ⟨by omega, by omega⟩ | with_reducible exact i32_i32 _ | with_reducible exact i32_eq (b2i_inr _) | rfl) (by omega) (by omega) (by decide) dX3_faultsOfTooMuch_52 ?_
          refine A_iadd dX3_faultsOfTooMuch_53 ?_
          refine A_istore_n (lv2 := [(1, _), (3, _), (2, _), (0, _)]) dX3_faultsOfTooMuch_54 rfl (by decide) rfl ?_
          refine A_iinc (lv2 := [(2, _), (1, _), (3, _), (0, _)]) dX3_faultsOfTooMuch_55 2 rfl (by decide) rfl ?_
          refine A_goto (tgt := 4) dX3_faultsOfTooMuch_58 (by decide) ?_
          refine A_lv [0, 1, 3] rfl ?_
          refine ih (n - 1) (by omega) (i + 1) _ (by omega) ⟨by omega, by omega⟩ (by omega) ?_
          obtain ⟨n, rfl⟩ : ∃ q, n = q + 1 := ⟨n - 1, by omega⟩
          clear ih
          rw [fW_s] at hK
          simp only [Nat.add_sub_cancel]
          simp only [ftG] at hK
          (repeat' split at hK) <;> first | contradiction | (exfalso; omega) | exact hK | (simp_all; done)
set_option maxRecDepth 100000 in
set_option maxHeartbeats 4000000 in
theorem c_X3_faultsOfTooMuch (σ : Sg)  : Ct l G yX3_faultsOfTooMuch cX3_faultsOfTooMuch 4 (some .int) 0 0 0 [.ref (lay G 55)] σ (some (.int (I32 (ftC σ)))) (σ) := by
  refine Ct.of (by decide +kernel) (Nat.le_of_ble_eq_true rfl) (fun f => ?_)
  show AW _ _ _ _ _ _ _ _ _ _ [(0, _)] _ _
  refine A_iconst dX3_faultsOfTooMuch_0 ?_
  refine A_istore_n (lv2 := [(1, _), (0, _)]) dX3_faultsOfTooMuch_1 rfl (by decide) rfl ?_
  refine A_iconst dX3_faultsOfTooMuch_2 ?_
  refine A_istore_n (lv2 := [(2, _), (1, _), (0, _)]) dX3_faultsOfTooMuch_3 rfl (by decide) rfl ?_
  refine A_lv [0, 1, 2] rfl ?_
  refine w_X3_ft σ (by omega) 8 0 _ (by omega) ⟨by omega, by omega⟩ (by omega) ?_
  refine A_iload_n dX3_faultsOfTooMuch_61 rfl 0 rfl ?_
  exact A_iret dX3_faultsOfTooMuch_62 rfl rfl
def adG (σ : Sg) (d c a : Int) : Int := a * 31 + i32 (dOn σ d c)
def adH (σ : Sg) (d a : Int) : Int := fW (i32 (σ 9 16)) (adG σ d) (i32 (σ 9 16)).toNat 0 a
def adC (σ : Sg) (a : Int) : Int := fW (i32 (σ 55 6)) (adH σ) (i32 (σ 55 6)).toNat 0 a * 31 + i32 (afC σ)
set_option maxRecDepth 100000 in
set_option maxHeartbeats 4000000 in
theorem w_X3_ad17 {f : Fm} {Q : State → Prop} {xs : va_W} {kk nn rc rs : Nat} (σ : Sg) (d : Int) (hm : kk ≤ rc ∧ nn ≤ rs) : ∀ (n : Nat) (i : Int) (s : Int), 0 ≤ i → inr i → i32 (σ 9 16) ≤ i + n → AW l G f (RX3, cX3_addTo, 7, (some .long)) (3, rc, rs) Q xs kk nn 51 [(3, .long (I64 (fW (i32 (σ 9 16)) (adG σ d) n i s))), (0, .ref (lay G 55)), (5, .int (I32 d))] [] (σ) → AW l G f (RX3, cX3_addTo, 7, (some .long)) (3, rc, rs) Q xs kk nn 17 [(6, .int (I32 i)), (3, .long (I64 s)), (0, .ref (lay G 55)), (5, .int (I32 d))] [] (σ) := by
  intro n
  induction n using Nat.strongRecOn with | _ n ih =>
  intro i s h0 hii hn  hK
  obtain ⟨hi1, hi2⟩ := hii
  obtain ⟨hz1, hz2⟩ := i32_inr (σ 9 16)
  refine A_iload dX3_addTo_17 0 rfl ?_
  refine A_aload_n dX3_addTo_19 rfl 2 rfl ?_
  refine A_getr fl_X3_29 lk_55 rfl dX3_addTo_20 ?_
  refine A_geti fl_X3_37 lk_9 rfl dX3_addTo_23 ?_
  refine J_icmp_ge (tgt := 51) dX3_addTo_26 (by decide) (by first | exact i32_eq (by assumption) | exact i32_eq ⟨by omega, by omega⟩ | with_reducible exact i32_i32 _ | with_reducible exact i32_eq (b2i_inr _) | rfl) (by first | exact i32_eq (by assumption) | exact i32_eq ⟨by omega, by omega⟩ | with_reducible exact i32_i32 _ | with_reducible exact i32_eq (b2i_inr _) | rfl) (fun h26 => ?_) (fun h26 => ?_)
  · refine A_lv [1, 2, 3] rfl ?_
    clear ih
    rcases n with _ | n <;> simp only [fW] at hK <;> (repeat' split at hK) <;> first | contradiction | (exfalso; omega) | exact hK | (simp_all; done)
  · refine A_lload_n dX3_addTo_29 rfl 1 rfl ?_
    refine A_ldc2 kc_X3_95 dX3_addTo_30 ?_
    refine A_lmul dX3_addTo_33 ?_
    refine A_aload_n dX3_addTo_34 rfl 2 rfl ?_
    refine A_iload dX3_addTo_35 3 rfl ?_
    refine A_iload dX3_addTo_37 0 rfl ?_
    refine A_Va2 mv_X3_80 lk_55 rfl rfl (c_X3_dishOn _ _ _) (Nat.le_of_ble_eq_true rfl) (by omega) (by omega) dX3_addTo_39 ?_
    refine J_i2l dX3_addTo_42 (by first | exact i32_eq (by assumption) | exact i32_eq ⟨by omega, by omega⟩ | with_reducible exact i32_i32 _ | with_reducible exact i32_eq (b2i_inr _) | rfl) ?_
    refine A_ladd dX3_addTo_43 ?_
    refine A_lstore_n (lv2 := [(3, _), (6, _), (0, _), (5, _)]) dX3_addTo_44 rfl (by decide) rfl ?_
    refine A_iinc (lv2 := [(6, _), (3, _), (0, _), (5, _)]) dX3_addTo_45 1 rfl (by decide) rfl ?_
    refine A_goto (tgt := 17) dX3_addTo_48 (by decide) ?_
    refine A_lv [0, 1, 2, 3] rfl ?_
    refine ih (n - 1) (by omega) (i + 1) _ (by omega) ⟨by omega, by omega⟩ (by omega) ?_
    obtain ⟨n, rfl⟩ : ∃ q, n = q + 1 := ⟨n - 1, by omega⟩
    clear ih
    rw [fW_s] at hK
    simp only [Nat.add_sub_cancel]
    simp only [adG] at hK
    (repeat' split at hK) <;> first | contradiction | (exfalso; omega) | exact hK | (simp_all; done)
set_option maxRecDepth 100000 in
set_option maxHeartbeats 4000000 in
theorem w_X3_ad5 {f : Fm} {Q : State → Prop} {xs : va_W} {kk nn rc rs : Nat} (σ : Sg) (hm : kk ≤ rc ∧ nn ≤ rs) : ∀ (n : Nat) (i : Int) (s : Int), 0 ≤ i → inr i → i32 (σ 55 6) ≤ i + n → AW l G f (RX3, cX3_addTo, 7, (some .long)) (3, rc, rs) Q xs kk nn 57 [(3, .long (I64 (fW (i32 (σ 55 6)) (adH σ) n i s))), (0, .ref (lay G 55))] [] (σ) → AW l G f (RX3, cX3_addTo, 7, (some .long)) (3, rc, rs) Q xs kk nn 5 [(5, .int (I32 i)), (3, .long (I64 s)), (0, .ref (lay G 55))] [] (σ) := by
  intro n
  induction n using Nat.strongRecOn with | _ n ih =>
  intro i s h0 hii hn  hK
  obtain ⟨hi1, hi2⟩ := hii
  obtain ⟨hz1, hz2⟩ := i32_inr (σ 55 6)
  refine A_iload dX3_addTo_5 0 rfl ?_
  refine A_aload_n dX3_addTo_7 rfl 2 rfl ?_
  refine A_geti fl_X3_33 lk_55 rfl dX3_addTo_8 ?_
  refine J_icmp_ge (tgt := 57) dX3_addTo_11 (by decide) (by first | exact i32_eq (by assumption) | exact i32_eq ⟨by omega, by omega⟩ | with_reducible exact i32_i32 _ | with_reducible exact i32_eq (b2i_inr _) | rfl) (by first | exact i32_eq (by assumption) | exact i32_eq ⟨by omega, by omega⟩ | with_reducible exact i32_i32 _ | with_reducible exact i32_eq (b2i_inr _) | rfl) (fun h11 => ?_) (fun h11 => ?_)
  · refine A_lv [1, 2] rfl ?_
    clear ih
    rcases n with _ | n <;> simp only [fW] at hK <;> (repeat' split at hK) <;> first | contradiction | (exfalso; omega) | exact hK | (simp_all; done)
  · refine A_iconst dX3_addTo_14 ?_
    refine A_istore (lv2 := [(6, _), (5, _), (3, _), (0, _)]) dX3_addTo_15 (by decide) rfl ?_
    refine A_lv [0, 2, 3, 1] rfl ?_
    refine w_X3_ad17 σ i hm (i32 (σ 9 16)).toNat 0 _ (by omega) ⟨by omega, by omega⟩ (by omega) ?_
    refine A_iinc (lv2 := [(5, _), (3, _), (0, _)]) dX3_addTo_51 2 rfl (by decide) rfl ?_
    refine A_goto (tgt := 5) dX3_addTo_54 (by decide) ?_
    refine ih (n - 1) (by omega) (i + 1) _ (by omega) ⟨by omega, by omega⟩ (by omega) ?_
    obtain ⟨n, rfl⟩ : ∃ q, n = q + 1 := ⟨n - 1, by omega⟩
    clear ih
    rw [fW_s] at hK
    simp only [Nat.add_sub_cancel]
    simp only [adH] at hK
    (repeat' split at hK) <;> first | contradiction | (exfalso; omega) | exact hK
set_option maxRecDepth 100000 in
set_option maxHeartbeats 4000000 in
theorem c_X3_addTo (σ : Sg) (a : Int)  : Ct l G yX3_addTo cX3_addTo 7 (some .long) 3 0 0 [.ref (lay G 55), .long (I64 a)] σ (some (.long (I64 (adC σ a)))) (σ) := by
  refine Ct.of (by decide +kernel) (Nat.le_of_ble_eq_true rfl) (fun f => ?_)
  show AW _ _ _ _ _ _ _ _ _ _ [(0, _), (1, _)] _ _
  refine A_lload_n dX3_addTo_0 rfl 1 rfl ?_
  refine A_lstore_n (lv2 := [(3, _), (0, _), (1, _)]) dX3_addTo_1 rfl (by decide) rfl ?_
  refine A_iconst dX3_addTo_2 ?_
  refine A_istore (lv2 := [(5, _), (3, _), (0, _), (1, _)]) dX3_addTo_3 (by decide) rfl ?_
  refine A_lv [0, 1, 2] rfl ?_
  refine w_X3_ad5 σ (by omega) (i32 (σ 55 6)).toNat 0 _ (by omega) ⟨by omega, by omega⟩ (by omega) ?_
  refine A_lload_n dX3_addTo_57 rfl 0 rfl ?_
  refine A_ldc2 kc_X3_95 dX3_addTo_58 ?_
  refine A_lmul dX3_addTo_61 ?_
  refine A_aload_n dX3_addTo_62 rfl 1 rfl ?_
  refine A_Va0 mv_X3_97 lk_55 rfl rfl (c_X3_allFaults _) (Nat.le_of_ble_eq_true rfl) (by omega) (by omega) dX3_addTo_63 ?_
  refine J_i2l dX3_addTo_66 (by first | exact i32_eq (by assumption) | exact i32_eq ⟨by omega, by omega⟩ | with_reducible exact i32_i32 _ | with_reducible exact i32_eq (b2i_inr _) | rfl) ?_
  refine A_ladd dX3_addTo_67 ?_
  exact A_lret dX3_addTo_68 (by rfl) (by rfl)
end S13d
