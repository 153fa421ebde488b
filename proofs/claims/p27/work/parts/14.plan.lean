/-! Planner -/
section S14
variable {l : Launch} {G : Gx}
def BIG : Nat := 2147483647
theorem BIG_0 : (0 : Int) + (BIG : Nat) = 2147483647 := by unfold BIG; omega
def bfG (d c w x : Int) (a : Int × Sg) : Int × Sg := if suitC a.2 c x = true ∧ (a.1 = -1 ∨ i32 (a.2 59 x.toNat) < i32 (a.2 59 a.1.toNat)) then (if i32 (ftC (ptC a.2 d c x)) ≤ i32 w then x else a.1, ptC (ptC a.2 d c x) d c (-1)) else a
def bfC (σ : Sg) (d c : Int) : Int × Sg := fG (fun i q => decide (i < i32 (q.2 12 2) ∧ i < 16)) (bfG d c (ftC σ)) 16 0 (-1, σ)
def flm1 (d c : Int) (a : Sg) : Sg := ptC (bfC a d c).2 d c (bfC a d c).1
def flm2 (d : Int) (a : Sg) : Sg := fG (fun i a => decide (i < i32 (a 9 16))) (flm1 d) BIG 0 a
def flmC (σ : Sg) (d : Int) : Sg := fG (fun i a => decide (i < i32 (a 55 6))) flm2 BIG 0 (bgC σ d)
def biG (d c x : Int) (a : Int × Int × Sg) : Int × Int × Sg := if suitC a.2.2 c x = true then (if i32 (afC (ptC a.2.2 d c x)) < i32 a.1 then (afC (ptC a.2.2 d c x), x, ptC a.2.2 d c x) else (a.1, a.2.1, ptC a.2.2 d c x)) else a
def biC (σ : Sg) (d c few : Int) : Int × Int × Sg := fG (fun i q => decide (i < i32 (q.2.2 12 2))) (biG d c) BIG 0 (few, -1, σ)
abbrev T5 : Type := Int × Int × Int × Int × Sg
def cbA (d c : Int) (q : T5) : Int × Int × Sg := biC q.2.2.2.2 d c q.1
def cb1 (d c : Int) (q : T5) : T5 := if i32 (cbA d c q).2.1 = -1 then (q.1, q.2.1, q.2.2.1, q.2.2.2.1, ptC (cbA d c q).2.2 d c (dOn q.2.2.2.2 d c)) else (afC (ptC (cbA d c q).2.2 d c (cbA d c q).2.1), d, c, (cbA d c q).2.1, ptC (ptC (cbA d c q).2.2 d c (cbA d c q).2.1) d c (dOn q.2.2.2.2 d c))
def cb2 (d : Int) (q : T5) : T5 := fG (fun i q => decide (i < i32 (q.2.2.2.2 9 16))) (cb1 d) BIG 0 q
def cb3 (σ : Sg) : T5 := fG (fun i q => decide (i < i32 (q.2.2.2.2 55 6))) cb2 BIG 0 (afC σ, -1, -1, -1, σ)
def cbC (σ : Sg) : Sg := ptC (cb3 σ).2.2.2.2 (cb3 σ).2.1 (cb3 σ).2.2.1 (cb3 σ).2.2.2.1
set_option maxRecDepth 100000 in
set_option maxHeartbeats 4000000 in
theorem w_X5_bestFor {f : Fm} {Q : State → Prop} {xs : va_W} {kk nn rc rs : Nat} (d c w : Int) (hm : kk ≤ rc ∧ nn ≤ rs) : ∀ (n : Nat) (i : Int) (s : Int) (a : Sg), 0 ≤ i → inr i → i + n = 16 → (-1 ≤ s ∧ s < 16) → AW l G f (RX5, cX5_bestFor, 6, (some .int)) (4, rc, rs) Q xs kk nn 120 [(4, .int (I32 (fG (fun i q => decide (i < i32 (q.2 12 2) ∧ i < 16)) (bfG d c w) n i (s, a)).1)), (0, .ref (lay G 83)), (1, .int (I32 d)), (2, .int (I32 c)), (3, .int (I32 w))] [] ((fG (fun i q => decide (i < i32 (q.2 12 2) ∧ i < 16)) (bfG d c w) n i (s, a)).2) → AW l G f (RX5, cX5_bestFor, 6, (some .int)) (4, rc, rs) Q xs kk nn 14 [(5, .int (I32 i)), (4, .int (I32 s)), (0, .ref (lay G 83)), (1, .int (I32 d)), (2, .int (I32 c)), (3, .int (I32 w))] [] (a) := by
  intro n
  induction n using Nat.strongRecOn with | _ n ih =>
  intro i s a h0 hii hn hv0 hK
  obtain ⟨hi1, hi2⟩ := hii
  refine A_iload dX5_bestFor_14 0 rfl ?_
  refine A_aload_n dX5_bestFor_16 rfl 2 rfl ?_
  refine A_getr fl_X5_9 lk_83 rfl dX5_bestFor_17 ?_
  refine A_getr fl_X5_46 lk_9 rfl dX5_bestFor_20 ?_
  refine A_geti fl_X5_50 lk_12 rfl dX5_bestFor_23 ?_
  try simp (disch := omega) only [up_k, up_j, up_s]
  refine J_icmp_ge (tgt := 120) dX5_bestFor_26 (by decide) (by first | exact i32_eq (by assumption) | exact i32_eq ⟨by omega, by omega⟩ | with_reducible exact i32_i32 _ | with_reducible exact i32_eq (b2i_inr _) | rfl) (by first | exact i32_eq (by assumption) | exact i32_eq ⟨by omega, by omega⟩ | with_reducible exact i32_i32 _ | with_reducible exact i32_eq (b2i_inr _) | rfl) (fun h26 => ?_) (fun h26 => ?_)
  · refine A_lv [1, 2, 3, 4, 5] rfl ?_
    clear ih
    rcases n with _ | n <;> simp only [fG, decide_eq_true_eq] at hK <;> (repeat' split at hK) <;> first | contradiction | (exfalso; omega) | exact hK | (simp_all; done)
  · refine A_iload dX5_bestFor_29 0 rfl ?_
    refine A_bipush dX5_bestFor_31 (by decide +kernel) ?_
    refine J_icmp_ge (tgt := 120) dX5_bestFor_33 (by decide) (by first | exact i32_eq (by assumption) | exact i32_eq ⟨by omega, by omega⟩ | with_reducible exact i32_i32 _ | with_reducible exact i32_eq (b2i_inr _) | rfl) (by first | exact i32_eq (by assumption) | exact i32_eq ⟨by omega, by omega⟩ | with_reducible exact i32_i32 _ | with_reducible exact i32_eq (b2i_inr _) | rfl) (fun h33 => ?_) (fun h33 => ?_)
    · refine A_lv [1, 2, 3, 4, 5] rfl ?_
      clear ih
      rcases n with _ | n <;> simp only [fG, decide_eq_true_eq] at hK <;> (repeat' split at hK) <;> first | contradiction | (exfalso; omega) | exact hK | (simp_all; done)
    · refine A_aload_n dX5_bestFor_36 rfl 2 rfl ?_
      refine A_getr fl_X5_9 lk_83 rfl dX5_bestFor_37 ?_
      refine A_iload_n dX5_bestFor_40 rfl 4 rfl ?_
      refine A_iload dX5_bestFor_41 0 rfl ?_
      refine A_Va2 mv_X5_55 lk_9 rfl rfl (c_X6_isSuiting _ _ _) (Nat.le_of_ble_eq_true rfl) (by omega) (by omega) dX5_bestFor_43 ?_
      refine A_ifeq_b (tgt := 114) dX5_bestFor_46 (by decide) (fun h46 => ?_) (fun h46 => ?_)
      · refine A_iinc (lv2 := [(5, _), (4, _), (0, _), (1, _), (2, _), (3, _)]) dX5_bestFor_114 0 rfl (by decide) rfl ?_
        refine A_goto (tgt := 14) dX5_bestFor_117 (by decide) ?_
        refine A_lv [0, 1, 2, 3, 4, 5] rfl ?_
        refine ih (n - 1) (by omega) (i + 1) _ _ (by omega) ⟨by omega, by omega⟩ (by omega) (by omega) ?_
        obtain ⟨n, rfl⟩ : ∃ q, n = q + 1 := ⟨n - 1, by omega⟩
        clear ih
        rw [fG_s] at hK
        simp only [Nat.add_sub_cancel]
        simp only [decide_eq_true_eq, bfG] at hK
        (repeat' split at hK) <;> first | contradiction | (exfalso; omega) | exact hK | (simp_all; done)
      · refine A_iload dX5_bestFor_49 1 rfl ?_
        refine A_iconst dX5_bestFor_51 ?_
        refine J_icmp_eq (tgt := 78) dX5_bestFor_52 (by decide) (by first | exact i32_eq (by assumption) | exact i32_eq ⟨by omega, by omega⟩ | with_reducible exact i32_i32 _ | with_reducible exact i32_eq (b2i_inr _) | rfl) (by first | exact i32_eq (by assumption) | exact i32_eq ⟨by omega, by omega⟩ | with_reducible exact i32_i32 _ | with_reducible exact i32_eq (b2i_inr _) | rfl) (fun h52 => ?_) (fun h52 => ?_)
        · refine A_aload_n dX5_bestFor_78 rfl 2 rfl ?_
          refine A_getr fl_X5_15 lk_83 rfl dX5_bestFor_79 ?_
          refine A_iload_n dX5_bestFor_82 rfl 3 rfl ?_
          refine A_iload_n dX5_bestFor_83 rfl 4 rfl ?_
          refine A_iload dX5_bestFor_84 0 rfl ?_
          refine A_Vv3 mv_X5_38 lk_55 rfl rfl (c_X3_put _ _ _ _) (Nat.le_of_ble_eq_true rfl) (by omega) (by omega) dX5_bestFor_86 ?_
          refine A_aload_n dX5_bestFor_89 rfl 2 rfl ?_
          refine A_getr fl_X5_15 lk_83 rfl dX5_bestFor_90 ?_
          refine A_Va0 mv_X5_42 lk_55 rfl rfl (c_X3_faultsOfTooMuch _) (Nat.le_of_ble_eq_true rfl) (by omega) (by omega) dX5_bestFor_93 ?_
          refine A_iload_n dX5_bestFor_96 rfl 5 rfl ?_
          refine J_icmp_gt (tgt := 104) dX5_bestFor_97 (by decide) (by first | exact i32_eq (by assumption) | exact i32_eq ⟨by omega, by omega⟩ | with_reducible exact i32_i32 _ | with_reducible exact i32_eq (b2i_inr _) | rfl) (by first | exact i32_eq (by assumption) | exact i32_eq ⟨by omega, by omega⟩ | with_reducible exact i32_i32 _ | with_reducible exact i32_eq (b2i_inr _) | rfl) (fun h97 => ?_) (fun h97 => ?_)
          · refine A_aload_n dX5_bestFor_104 rfl 2 rfl ?_
            refine A_getr fl_X5_15 lk_83 rfl dX5_bestFor_105 ?_
            refine A_iload_n dX5_bestFor_108 rfl 3 rfl ?_
            refine A_iload_n dX5_bestFor_109 rfl 4 rfl ?_
            refine A_iconst dX5_bestFor_110 ?_
            refine A_Vv3 mv_X5_38 lk_55 rfl rfl (c_X3_put _ _ _ _) (Nat.le_of_ble_eq_true rfl) (by omega) (by omega) dX5_bestFor_111 ?_
            refine A_iinc (lv2 := [(5, _), (4, _), (0, _), (1, _), (2, _), (3, _)]) dX5_bestFor_114 0 rfl (by decide) rfl ?_
            refine A_goto (tgt := 14) dX5_bestFor_117 (by decide) ?_
            refine A_lv [0, 1, 2, 3, 4, 5] rfl ?_
            refine ih (n - 1) (by omega) (i + 1) _ _ (by omega) ⟨by omega, by omega⟩ (by omega) (by omega) ?_
            obtain ⟨n, rfl⟩ : ∃ q, n = q + 1 := ⟨n - 1, by omega⟩
            clear ih
            rw [fG_s] at hK
            simp only [Nat.add_sub_cancel]
            simp only [decide_eq_true_eq, bfG] at hK
            (repeat' split at hK) <;> first | contradiction | (exfalso; omega) | exact hK | (simp_all; done)
          · refine A_iload dX5_bestFor_100 0 rfl ?_
            refine A_istore (lv2 := [(4, _), (5, _), (0, _), (1, _), (2, _), (3, _)]) dX5_bestFor_102 (by decide) rfl ?_
            refine A_aload_n dX5_bestFor_104 rfl 2 rfl ?_
            refine A_getr fl_X5_15 lk_83 rfl dX5_bestFor_105 ?_
            refine A_iload_n dX5_bestFor_108 rfl 3 rfl ?_
            refine A_iload_n dX5_bestFor_109 rfl 4 rfl ?_
            refine A_iconst dX5_bestFor_110 ?_
            refine A_Vv3 mv_X5_38 lk_55 rfl rfl (c_X3_put _ _ _ _) (Nat.le_of_ble_eq_true rfl) (by omega) (by omega) dX5_bestFor_111 ?_
            refine A_iinc (lv2 := [(5, _), (4, _), (0, _), (1, _), (2, _), (3, _)]) dX5_bestFor_114 1 rfl (by decide) rfl ?_
            refine A_goto (tgt := 14) dX5_bestFor_117 (by decide) ?_
            refine A_lv [0, 1, 2, 3, 4, 5] rfl ?_
            refine ih (n - 1) (by omega) (i + 1) _ _ (by omega) ⟨by omega, by omega⟩ (by omega) (by omega) ?_
            obtain ⟨n, rfl⟩ : ∃ q, n = q + 1 := ⟨n - 1, by omega⟩
            clear ih
            rw [fG_s] at hK
            simp only [Nat.add_sub_cancel]
            simp only [decide_eq_true_eq, bfG] at hK
            (repeat' split at hK) <;> first | contradiction | (exfalso; omega) | exact hK | (simp_all; done)
        · refine A_aload_n dX5_bestFor_55 rfl 2 rfl ?_
          refine A_getr fl_X5_15 lk_83 rfl dX5_bestFor_56 ?_
          refine A_getr fl_X5_59 lk_55 rfl dX5_bestFor_59 ?_
          refine A_iload dX5_bestFor_62 0 rfl ?_
          refine J_iald lk_59 (by first | exact i32_eq (by assumption) | exact i32_eq ⟨by omega, by omega⟩ | with_reducible exact i32_i32 _ | with_reducible exact i32_eq (b2i_inr _) | rfl) (by omega) (by omega) (by decide) dX5_bestFor_64 ?_
          try simp (disch := omega) only [up_k, up_j, up_s]
          refine A_aload_n dX5_bestFor_65 rfl 2 rfl ?_
          refine A_getr fl_X5_15 lk_83 rfl dX5_bestFor_66 ?_
          refine A_getr fl_X5_59 lk_55 rfl dX5_bestFor_69 ?_
          refine A_iload dX5_bestFor_72 1 rfl ?_
          refine J_iald lk_59 (by first | exact i32_eq (by assumption) | exact i32_eq ⟨by omega, by omega⟩ | with_reducible exact i32_i32 _ | with_reducible exact i32_eq (b2i_inr _) | rfl) (by omega) (by omega) (by decide) dX5_bestFor_74 ?_
          try simp (disch := omega) only [up_k, up_j, up_s]
          refine J_icmp_ge (tgt := 114) dX5_bestFor_75 (by decide) (by first | exact i32_eq (by assumption) | exact i32_eq ⟨by omega, by omega⟩ | with_reducible exact i32_i32 _ | with_reducible exact i32_eq (b2i_inr _) | rfl) (by first | exact i32_eq (by assumption) | exact i32_eq ⟨by omega, by omega⟩ | with_reducible exact i32_i32 _ | with_reducible exact i32_eq (b2i_inr _) | rfl) (fun h75 => ?_) (fun h75 => ?_)
          · refine A_iinc (lv2 := [(5, _), (4, _), (0, _), (1, _), (2, _), (3, _)]) dX5_bestFor_114 0 rfl (by decide) rfl ?_
            refine A_goto (tgt := 14) dX5_bestFor_117 (by decide) ?_
            refine A_lv [0, 1, 2, 3, 4, 5] rfl ?_
            refine ih (n - 1) (by omega) (i + 1) _ _ (by omega) ⟨by omega, by omega⟩ (by omega) (by omega) ?_
            obtain ⟨n, rfl⟩ : ∃ q, n = q + 1 := ⟨n - 1, by omega⟩
            clear ih
            rw [fG_s] at hK
            simp only [Nat.add_sub_cancel]
            simp only [decide_eq_true_eq, bfG] at hK
            (repeat' split at hK) <;> first | contradiction | (exfalso; omega) | exact hK | (simp_all; done)
          · refine A_aload_n dX5_bestFor_78 rfl 2 rfl ?_
            refine A_getr fl_X5_15 lk_83 rfl dX5_bestFor_79 ?_
            refine A_iload_n dX5_bestFor_82 rfl 3 rfl ?_
            refine A_iload_n dX5_bestFor_83 rfl 4 rfl ?_
            refine A_iload dX5_bestFor_84 0 rfl ?_
            refine A_Vv3 mv_X5_38 lk_55 rfl rfl (c_X3_put _ _ _ _) (Nat.le_of_ble_eq_true rfl) (by omega) (by omega) dX5_bestFor_86 ?_
            refine A_aload_n dX5_bestFor_89 rfl 2 rfl ?_
            refine A_getr fl_X5_15 lk_83 rfl dX5_bestFor_90 ?_
            refine A_Va0 mv_X5_42 lk_55 rfl rfl (c_X3_faultsOfTooMuch _) (Nat.le_of_ble_eq_true rfl) (by omega) (by omega) dX5_bestFor_93 ?_
            refine A_iload_n dX5_bestFor_96 rfl 5 rfl ?_
            refine J_icmp_gt (tgt := 104) dX5_bestFor_97 (by decide) (by first | exact i32_eq (by assumption) | exact i32_eq ⟨by omega, by omega⟩ | with_reducible exact i32_i32 _ | with_reducible exact i32_eq (b2i_inr _) | rfl) (by first | exact i32_eq (by assumption) | exact i32_eq ⟨by omega, by omega⟩ | with_reducible exact i32_i32 _ | with_reducible exact i32_eq (b2i_inr _) | rfl) (fun h97 => ?_) (fun h97 => ?_)
            · refine A_aload_n dX5_bestFor_104 rfl 2 rfl ?_
              refine A_getr fl_X5_15 lk_83 rfl dX5_bestFor_105 ?_
              refine A_iload_n dX5_bestFor_108 rfl 3 rfl ?_
              refine A_iload_n dX5_bestFor_109 rfl 4 rfl ?_
              refine A_iconst dX5_bestFor_110 ?_
              refine A_Vv3 mv_X5_38 lk_55 rfl rfl (c_X3_put _ _ _ _) (Nat.le_of_ble_eq_true rfl) (by omega) (by omega) dX5_bestFor_111 ?_
              refine A_iinc (lv2 := [(5, _), (4, _), (0, _), (1, _), (2, _), (3, _)]) dX5_bestFor_114 0 rfl (by decide) rfl ?_
              refine A_goto (tgt := 14) dX5_bestFor_117 (by decide) ?_
              refine A_lv [0, 1, 2, 3, 4, 5] rfl ?_
              refine ih (n - 1) (by omega) (i + 1) _ _ (by omega) ⟨by omega, by omega⟩ (by omega) (by omega) ?_
              obtain ⟨n, rfl⟩ : ∃ q, n = q + 1 := ⟨n - 1, by omega⟩
              clear ih
              rw [fG_s] at hK
              simp only [Nat.add_sub_cancel]
              simp only [decide_eq_true_eq, bfG] at hK
              (repeat' split at hK) <;> first | contradiction | (exfalso; omega) | exact hK | (simp_all; done)
            · refine A_iload dX5_bestFor_100 0 rfl ?_
              refine A_istore (lv2 := [(4, _), (5, _), (0, _), (1, _), (2, _), (3, _)]) dX5_bestFor_102 (by decide) rfl ?_
              refine A_aload_n dX5_bestFor_104 rfl 2 rfl ?_
              refine A_getr fl_X5_15 lk_83 rfl dX5_bestFor_105 ?_
              refine A_iload_n dX5_bestFor_108 rfl 3 rfl ?_
              refine A_iload_n dX5_bestFor_109 rfl 4 rfl ?_
              refine A_iconst dX5_bestFor_110 ?_
              refine A_Vv3 mv_X5_38 lk_55 rfl rfl (c_X3_put _ _ _ _) (Nat.le_of_ble_eq_true rfl) (by omega) (by omega) dX5_bestFor_111 ?_
              refine A_iinc (lv2 := [(5, _), (4, _), (0, _), (1, _), (2, _), (3, _)]) dX5_bestFor_114 1 rfl (by decide) rfl ?_
              refine A_goto (tgt := 14) dX5_bestFor_117 (by decide) ?_
              refine A_lv [0, 1, 2, 3, 4, 5] rfl ?_
              refine ih (n - 1) (by omega) (i + 1) _ _ (by omega) ⟨by omega, by omega⟩ (by omega) (by omega) ?_
              obtain ⟨n, rfl⟩ : ∃ q, n = q + 1 := ⟨n - 1, by omega⟩
              clear ih
              rw [fG_s] at hK
              simp only [Nat.add_sub_cancel]
              simp only [decide_eq_true_eq, bfG] at hK
              (repeat' split at hK) <;> first | contradiction | (exfalso; omega) | exact hK | (simp_all; done)
set_option maxRecDepth 100000 in
set_option maxHeartbeats 4000000 in
theorem c_X5_bestFor (σ : Sg) (d c : Int)  : Ct l G yX5_bestFor cX5_bestFor 6 (some .int) 4 0 0 [.ref (lay G 83), .int (I32 d), .int (I32 c)] σ (some (.int (I32 (bfC σ d c).1))) ((bfC σ d c).2) := by
  refine Ct.of (by decide +kernel) (Nat.le_of_ble_eq_true rfl) (fun f => ?_)
  show AW _ _ _ _ _ _ _ _ _ _ [(0, _), (1, _), (2, _)] _ _
  refine A_aload_n dX5_bestFor_0 rfl 0 rfl ?_
  refine A_getr fl_X5_15 lk_83 rfl dX5_bestFor_1 ?_
  refine A_Va0 mv_X5_42 lk_55 rfl rfl (c_X3_faultsOfTooMuch _) (Nat.le_of_ble_eq_true rfl) (by omega) (by omega) dX5_bestFor_4 ?_
  refine A_istore_n (lv2 := [(3, _), (0, _), (1, _), (2, _)]) dX5_bestFor_7 rfl (by decide) rfl ?_
  refine A_iconst dX5_bestFor_8 ?_
  refine A_istore (lv2 := [(4, _), (3, _), (0, _), (1, _), (2, _)]) dX5_bestFor_9 (by decide) rfl ?_
  refine A_iconst dX5_bestFor_11 ?_
  refine A_istore (lv2 := [(5, _), (4, _), (3, _), (0, _), (1, _), (2, _)]) dX5_bestFor_12 (by decide) rfl ?_
  refine A_lv [0, 1, 3, 4, 5, 2] rfl ?_
  refine w_X5_bestFor d c (ftC σ) (by omega) 16 0 (-1) σ (by omega) ⟨by omega, by omega⟩ (by omega) (by omega) ?_
  refine A_iload dX5_bestFor_120 0 rfl ?_
  exact A_iret dX5_bestFor_122 rfl rfl
set_option maxRecDepth 100000 in
set_option maxHeartbeats 4000000 in
theorem w_X5_fm23 {f : Fm} {Q : State → Prop} {xs : va_W} {kk nn rc rs : Nat} (d : Int) (hm : kk ≤ rc ∧ nn ≤ rs) : ∀ (n : Nat) (i : Int) (a : Sg), 0 ≤ i → inr i → i + n = 2147483647 → AW l G f (RX5, cX5_fillMenu, 4, none) (5, rc, rs) Q xs kk nn 55 [(0, .ref (lay G 83)), (2, .int (I32 d))] [] ((fG (fun i a => decide (i < i32 (a 9 16))) (flm1 d) n i a)) → AW l G f (RX5, cX5_fillMenu, 4, none) (5, rc, rs) Q xs kk nn 23 [(3, .int (I32 i)), (0, .ref (lay G 83)), (2, .int (I32 d))] [] (a) := by
  intro n
  induction n using Nat.strongRecOn with | _ n ih =>
  intro i a h0 hii hn  hK
  obtain ⟨hi1, hi2⟩ := hii
  obtain ⟨hz01, hz02⟩ := i32_inr (a 9 16)
  refine A_iload_n dX5_fillMenu_23 rfl 0 rfl ?_
  refine A_aload_n dX5_fillMenu_24 rfl 1 rfl ?_
  refine A_getr fl_X5_9 lk_83 rfl dX5_fillMenu_25 ?_
  refine A_geti fl_X5_29 lk_9 rfl dX5_fillMenu_28 ?_
  try simp (disch := omega) only [up_k, up_j, up_s]
  refine J_icmp_ge (tgt := 55) dX5_fillMenu_31 (by decide) (by first | exact i32_eq (by assumption) | exact i32_eq ⟨by omega, by omega⟩ | with_reducible exact i32_i32 _ | with_reducible exact i32_eq (b2i_inr _) | rfl) (by first | exact i32_eq (by assumption) | exact i32_eq ⟨by omega, by omega⟩ | with_reducible exact i32_i32 _ | with_reducible exact i32_eq (b2i_inr _) | rfl) (fun h31 => ?_) (fun h31 => ?_)
  · refine A_lv [1, 2] rfl ?_
    clear ih
    rcases n with _ | n <;> simp only [fG, decide_eq_true_eq] at hK <;> (repeat' split at hK) <;> first | contradiction | (exfalso; omega) | exact hK | (simp_all; done)
  · refine A_aload_n dX5_fillMenu_34 rfl 1 rfl ?_
    refine A_getr fl_X5_15 lk_83 rfl dX5_fillMenu_35 ?_
    refine A_iload_n dX5_fillMenu_38 rfl 2 rfl ?_
    refine A_iload_n dX5_fillMenu_39 rfl 0 rfl ?_
    refine A_aload_n dX5_fillMenu_40 rfl 1 rfl ?_
    refine A_iload_n dX5_fillMenu_41 rfl 2 rfl ?_
    refine A_iload_n dX5_fillMenu_42 rfl 0 rfl ?_
    refine A_Va2 mv_X5_34 lk_83 rfl rfl (c_X5_bestFor _ _ _) (Nat.le_of_ble_eq_true rfl) (by omega) (by omega) dX5_fillMenu_43 ?_
    refine A_Vv3 mv_X5_38 lk_55 rfl rfl (c_X3_put _ _ _ _) (Nat.le_of_ble_eq_true rfl) (by omega) (by omega) dX5_fillMenu_46 ?_
    refine A_iinc (lv2 := [(3, _), (0, _), (2, _)]) dX5_fillMenu_49 0 rfl (by decide) rfl ?_
    refine A_goto (tgt := 23) dX5_fillMenu_52 (by decide) ?_
    refine A_lv [0, 1, 2] rfl ?_
    refine ih (n - 1) (by omega) (i + 1) _ (by omega) ⟨by omega, by omega⟩ (by omega) ?_
    obtain ⟨n, rfl⟩ : ∃ q, n = q + 1 := ⟨n - 1, by omega⟩
    clear ih
    rw [fG_s] at hK
    simp only [Nat.add_sub_cancel]
    simp only [decide_eq_true_eq, flm1] at hK
    (repeat' split at hK) <;> first | contradiction | (exfalso; omega) | exact hK | (simp_all; done)
set_option maxRecDepth 100000 in
set_option maxHeartbeats 4000000 in
theorem w_X5_fm10 {f : Fm} {Q : State → Prop} {xs : va_W} {kk nn rc rs : Nat}  (hm : kk ≤ rc ∧ nn ≤ rs) : ∀ (n : Nat) (i : Int) (a : Sg), 0 ≤ i → inr i → i + n = 2147483647 → AW l G f (RX5, cX5_fillMenu, 4, none) (5, rc, rs) Q xs kk nn 61 [(0, .ref (lay G 83))] [] ((fG (fun i a => decide (i < i32 (a 55 6))) flm2 n i a)) → AW l G f (RX5, cX5_fillMenu, 4, none) (5, rc, rs) Q xs kk nn 10 [(2, .int (I32 i)), (0, .ref (lay G 83))] [] (a) := by
  intro n
  induction n using Nat.strongRecOn with | _ n ih =>
  intro i a h0 hii hn  hK
  obtain ⟨hi1, hi2⟩ := hii
  obtain ⟨hz01, hz02⟩ := i32_inr (a 55 6)
  refine A_iload_n dX5_fillMenu_10 rfl 0 rfl ?_
  refine A_aload_n dX5_fillMenu_11 rfl 1 rfl ?_
  refine A_getr fl_X5_15 lk_83 rfl dX5_fillMenu_12 ?_
  refine A_geti fl_X5_25 lk_55 rfl dX5_fillMenu_15 ?_
  try simp (disch := omega) only [up_k, up_j, up_s]
  refine J_icmp_ge (tgt := 61) dX5_fillMenu_18 (by decide) (by first | exact i32_eq (by assumption) | exact i32_eq ⟨by omega, by omega⟩ | with_reducible exact i32_i32 _ | with_reducible exact i32_eq (b2i_inr _) | rfl) (by first | exact i32_eq (by assumption) | exact i32_eq ⟨by omega, by omega⟩ | with_reducible exact i32_i32 _ | with_reducible exact i32_eq (b2i_inr _) | rfl) (fun h18 => ?_) (fun h18 => ?_)
  · refine A_lv [1] rfl ?_
    clear ih
    rcases n with _ | n <;> simp only [fG, decide_eq_true_eq] at hK <;> (repeat' split at hK) <;> first | contradiction | (exfalso; omega) | exact hK | (simp_all; done)
  · refine A_iconst dX5_fillMenu_21 ?_
    refine A_istore_n (lv2 := [(3, _), (2, _), (0, _)]) dX5_fillMenu_22 rfl (by decide) rfl ?_
    refine A_lv [0, 2, 1] rfl ?_
    refine w_X5_fm23 i hm BIG 0 _ (by omega) ⟨by omega, by omega⟩ BIG_0 ?_
    refine A_iinc (lv2 := [(2, _), (0, _)]) dX5_fillMenu_55 1 rfl (by decide) rfl ?_
    refine A_goto (tgt := 10) dX5_fillMenu_58 (by decide) ?_
    refine ih (n - 1) (by omega) (i + 1) _ (by omega) ⟨by omega, by omega⟩ (by omega) ?_
    obtain ⟨n, rfl⟩ : ∃ q, n = q + 1 := ⟨n - 1, by omega⟩
    clear ih
    rw [fG_s] at hK
    simp only [Nat.add_sub_cancel]
    simp only [decide_eq_true_eq] at hK
    (repeat' split at hK) <;> first | contradiction | (exfalso; omega) | exact hK
set_option maxRecDepth 100000 in
set_option maxHeartbeats 4000000 in
theorem c_X5_fillMenu (σ : Sg) (d : Int)  : Ct l G yX5_fillMenu cX5_fillMenu 4 none 5 0 0 [.ref (lay G 83), .int (I32 d)] σ (none) (flmC σ d) := by
  refine Ct.of (by decide +kernel) (Nat.le_of_ble_eq_true rfl) (fun f => ?_)
  show AW _ _ _ _ _ _ _ _ _ _ [(0, _), (1, _)] _ _
  refine A_aload_n dX5_fillMenu_0 rfl 0 rfl ?_
  refine A_getr fl_X5_15 lk_83 rfl dX5_fillMenu_1 ?_
  refine A_iload_n dX5_fillMenu_4 rfl 1 rfl ?_
  refine A_Vv1 mv_X5_19 lk_55 rfl rfl (c_X3_begin _ _) (Nat.le_of_ble_eq_true rfl) (by omega) (by omega) dX5_fillMenu_5 ?_
  refine A_iconst dX5_fillMenu_8 ?_
  refine A_istore_n (lv2 := [(2, _), (0, _), (1, _)]) dX5_fillMenu_9 rfl (by decide) rfl ?_
  refine A_lv [0, 1] rfl ?_
  refine w_X5_fm10 (by omega) BIG 0 _ (by omega) ⟨by omega, by omega⟩ BIG_0 ?_
  exact A_vret dX5_fillMenu_61 rfl rfl
set_option maxRecDepth 100000 in
set_option maxHeartbeats 4000000 in
theorem w_X5_bi {f : Fm} {Q : State → Prop} {xs : va_W} {kk nn rc rs : Nat} (d c : Int) (hm : kk ≤ rc ∧ nn ≤ rs) : ∀ (n : Nat) (i : Int) (s1 s2 : Int) (a : Sg), 0 ≤ i → inr i → i + n = 2147483647 → AW l G f (RX5, cX5_bestInstead, 7, (some .int)) (4, rc, rs) Q xs kk nn 79 [(4, .int (I32 (fG (fun i q => decide (i < i32 (q.2.2 12 2))) (biG d c) n i (s1, s2, a)).1)), (5, .int (I32 (fG (fun i q => decide (i < i32 (q.2.2 12 2))) (biG d c) n i (s1, s2, a)).2.1)), (0, .ref (lay G 83)), (1, .int (I32 d)), (2, .int (I32 c))] [] ((fG (fun i q => decide (i < i32 (q.2.2 12 2))) (biG d c) n i (s1, s2, a)).2.2) → AW l G f (RX5, cX5_bestInstead, 7, (some .int)) (4, rc, rs) Q xs kk nn 9 [(6, .int (I32 i)), (4, .int (I32 s1)), (5, .int (I32 s2)), (0, .ref (lay G 83)), (1, .int (I32 d)), (2, .int (I32 c))] [] (a) := by
  intro n
  induction n using Nat.strongRecOn with | _ n ih =>
  intro i s1 s2 a h0 hii hn  hK
  obtain ⟨hi1, hi2⟩ := hii
  obtain ⟨hz01, hz02⟩ := i32_inr (a 12 2)
  refine A_iload dX5_bestInstead_9 0 rfl ?_
  refine A_aload_n dX5_bestInstead_11 rfl 3 rfl ?_
  refine A_getr fl_X5_9 lk_83 rfl dX5_bestInstead_12 ?_
  refine A_getr fl_X5_46 lk_9 rfl dX5_bestInstead_15 ?_
  refine A_geti fl_X5_50 lk_12 rfl dX5_bestInstead_18 ?_
  try simp (disch := omega) only [up_k, up_j, up_s]
  refine J_icmp_ge (tgt := 79) dX5_bestInstead_21 (by decide) (by first | exact i32_eq (by assumption) | exact i32_eq ⟨by omega, by omega⟩ | with_reducible exact i32_i32 _ | with_reducible exact i32_eq (b2i_inr _) | rfl) (by first | exact i32_eq (by assumption) | exact i32_eq ⟨by omega, by omega⟩ | with_reducible exact i32_i32 _ | with_reducible exact i32_eq (b2i_inr _) | rfl) (fun h21 => ?_) (fun h21 => ?_)
  · refine A_lv [1, 2, 3, 4, 5] rfl ?_
    clear ih
    rcases n with _ | n <;> simp only [fG, decide_eq_true_eq] at hK <;> (repeat' split at hK) <;> first | contradiction | (exfalso; omega) | exact hK | (simp_all; done)
  · refine A_aload_n dX5_bestInstead_24 rfl 3 rfl ?_
    refine A_getr fl_X5_9 lk_83 rfl dX5_bestInstead_25 ?_
    refine A_iload_n dX5_bestInstead_28 rfl 5 rfl ?_
    refine A_iload dX5_bestInstead_29 0 rfl ?_
    refine A_Va2 mv_X5_55 lk_9 rfl rfl (c_X6_isSuiting _ _ _) (Nat.le_of_ble_eq_true rfl) (by omega) (by omega) dX5_bestInstead_31 ?_
    refine A_ifeq_b (tgt := 73) dX5_bestInstead_34 (by decide) (fun h34 => ?_) (fun h34 => ?_)
    · refine A_iinc (lv2 := [(6, _), (4, _), (5, _), (0, _), (1, _), (2, _)]) dX5_bestInstead_73 0 rfl (by decide) rfl ?_
      refine A_goto (tgt := 9) dX5_bestInstead_76 (by decide) ?_
      refine A_lv [0, 1, 2, 3, 4, 5] rfl ?_
      refine ih (n - 1) (by omega) (i + 1) _ _ _ (by omega) ⟨by omega, by omega⟩ (by omega) ?_
      obtain ⟨n, rfl⟩ : ∃ q, n = q + 1 := ⟨n - 1, by omega⟩
      clear ih
      rw [fG_s] at hK
      simp only [Nat.add_sub_cancel]
      simp only [decide_eq_true_eq, biG] at hK
      (repeat' split at hK) <;> first | contradiction | (exfalso; omega) | exact hK | (simp_all; done)
    · refine A_aload_n dX5_bestInstead_37 rfl 3 rfl ?_
      refine A_getr fl_X5_15 lk_83 rfl dX5_bestInstead_38 ?_
      refine A_iload_n dX5_bestInstead_41 rfl 4 rfl ?_
      refine A_iload_n dX5_bestInstead_42 rfl 5 rfl ?_
      refine A_iload dX5_bestInstead_43 0 rfl ?_
      refine A_Vv3 mv_X5_38 lk_55 rfl rfl (c_X3_put _ _ _ _) (Nat.le_of_ble_eq_true rfl) (by omega) (by omega) dX5_bestInstead_45 ?_
      refine A_aload_n dX5_bestInstead_48 rfl 3 rfl ?_
      refine A_getr fl_X5_15 lk_83 rfl dX5_bestInstead_49 ?_
      refine A_Va0 mv_X5_63 lk_55 rfl rfl (c_X3_allFaults _) (Nat.le_of_ble_eq_true rfl) (by omega) (by omega) dX5_bestInstead_52 ?_
      refine A_iload dX5_bestInstead_55 1 rfl ?_
      refine J_icmp_ge (tgt := 73) dX5_bestInstead_57 (by decide) (by first | exact i32_eq (by assumption) | exact i32_eq ⟨by omega, by omega⟩ | with_reducible exact i32_i32 _ | with_reducible exact i32_eq (b2i_inr _) | rfl) (by first | exact i32_eq (by assumption) | exact i32_eq ⟨by omega, by omega⟩ | with_reducible exact i32_i32 _ | with_reducible exact i32_eq (b2i_inr _) | rfl) (fun h57 => ?_) (fun h57 => ?_)
      · refine A_iinc (lv2 := [(6, _), (4, _), (5, _), (0, _), (1, _), (2, _)]) dX5_bestInstead_73 0 rfl (by decide) rfl ?_
        refine A_goto (tgt := 9) dX5_bestInstead_76 (by decide) ?_
        refine A_lv [0, 1, 2, 3, 4, 5] rfl ?_
        refine ih (n - 1) (by omega) (i + 1) _ _ _ (by omega) ⟨by omega, by omega⟩ (by omega) ?_
        obtain ⟨n, rfl⟩ : ∃ q, n = q + 1 := ⟨n - 1, by omega⟩
        clear ih
        rw [fG_s] at hK
        simp only [Nat.add_sub_cancel]
        simp only [decide_eq_true_eq, biG] at hK
        (repeat' split at hK) <;> first | contradiction | (exfalso; omega) | exact hK | (simp_all; done)
      · refine A_aload_n dX5_bestInstead_60 rfl 3 rfl ?_
        refine A_getr fl_X5_15 lk_83 rfl dX5_bestInstead_61 ?_
        refine A_Va0 mv_X5_63 lk_55 rfl rfl (c_X3_allFaults _) (Nat.le_of_ble_eq_true rfl) (by omega) (by omega) dX5_bestInstead_64 ?_
        refine A_istore (lv2 := [(4, _), (6, _), (5, _), (0, _), (1, _), (2, _)]) dX5_bestInstead_67 (by decide) rfl ?_
        refine A_iload dX5_bestInstead_69 1 rfl ?_
        refine A_istore (lv2 := [(5, _), (4, _), (6, _), (0, _), (1, _), (2, _)]) dX5_bestInstead_71 (by decide) rfl ?_
        refine A_iinc (lv2 := [(6, _), (5, _), (4, _), (0, _), (1, _), (2, _)]) dX5_bestInstead_73 2 rfl (by decide) rfl ?_
        refine A_goto (tgt := 9) dX5_bestInstead_76 (by decide) ?_
        refine A_lv [0, 2, 1, 3, 4, 5] rfl ?_
        refine ih (n - 1) (by omega) (i + 1) _ _ _ (by omega) ⟨by omega, by omega⟩ (by omega) ?_
        obtain ⟨n, rfl⟩ : ∃ q, n = q + 1 := ⟨n - 1, by omega⟩
        clear ih
        rw [fG_s] at hK
        simp only [Nat.add_sub_cancel]
        simp only [decide_eq_true_eq, biG] at hK
        (repeat' split at hK) <;> first | contradiction | (exfalso; omega) | exact hK | (simp_all; done)
set_option maxRecDepth 100000 in
set_option maxHeartbeats 4000000 in
theorem c_X5_bestInstead (σ : Sg) (d c w : Int)  : Ct l G yX5_bestInstead cX5_bestInstead 7 (some .int) 4 0 0 [.ref (lay G 83), .int (I32 d), .int (I32 c), .int (I32 w)] σ (some (.int (I32 (biC σ d c w).2.1))) ((biC σ d c w).2.2) := by
  refine Ct.of (by decide +kernel) (Nat.le_of_ble_eq_true rfl) (fun f => ?_)
  show AW _ _ _ _ _ _ _ _ _ _ [(0, _), (1, _), (2, _), (3, _)] _ _
  refine A_iload_n dX5_bestInstead_0 rfl 3 rfl ?_
  refine A_istore (lv2 := [(4, _), (0, _), (1, _), (2, _), (3, _)]) dX5_bestInstead_1 (by decide) rfl ?_
  refine A_iconst dX5_bestInstead_3 ?_
  refine A_istore (lv2 := [(5, _), (4, _), (0, _), (1, _), (2, _), (3, _)]) dX5_bestInstead_4 (by decide) rfl ?_
  refine A_iconst dX5_bestInstead_6 ?_
  refine A_istore (lv2 := [(6, _), (5, _), (4, _), (0, _), (1, _), (2, _), (3, _)]) dX5_bestInstead_7 (by decide) rfl ?_
  refine A_lv [0, 2, 1, 3, 4, 5] rfl ?_
  refine w_X5_bi d c (by omega) BIG 0 _ _ _ (by omega) ⟨by omega, by omega⟩ BIG_0 ?_
  refine A_iload dX5_bestInstead_79 1 rfl ?_
  exact A_iret dX5_bestInstead_81 rfl rfl
set_option maxRecDepth 100000 in
set_option maxHeartbeats 4000000 in
theorem w_X5_cb33 {f : Fm} {Q : State → Prop} {xs : va_W} {kk nn rc rs : Nat} (d : Int) (hm : kk ≤ rc ∧ nn ≤ rs) : ∀ (n : Nat) (i : Int) (s1 s2 s3 s4 : Int) (a : Sg), 0 ≤ i → inr i → i + n = 2147483647 → AW l G f (RX5, cX5_changeBest, 9, none) (5, rc, rs) Q xs kk nn 125 [(1, .int (I32 (fG (fun i q => decide (i < i32 (q.2.2.2.2 9 16))) (cb1 d) n i (s1, s2, s3, s4, a)).1)), (2, .int (I32 (fG (fun i q => decide (i < i32 (q.2.2.2.2 9 16))) (cb1 d) n i (s1, s2, s3, s4, a)).2.1)), (3, .int (I32 (fG (fun i q => decide (i < i32 (q.2.2.2.2 9 16))) (cb1 d) n i (s1, s2, s3, s4, a)).2.2.1)), (4, .int (I32 (fG (fun i q => decide (i < i32 (q.2.2.2.2 9 16))) (cb1 d) n i (s1, s2, s3, s4, a)).2.2.2.1)), (0, .ref (lay G 83)), (5, .int (I32 d))] [] ((fG (fun i q => decide (i < i32 (q.2.2.2.2 9 16))) (cb1 d) n i (s1, s2, s3, s4, a)).2.2.2.2) → AW l G f (RX5, cX5_changeBest, 9, none) (5, rc, rs) Q xs kk nn 33 [(6, .int (I32 i)), (1, .int (I32 s1)), (2, .int (I32 s2)), (3, .int (I32 s3)), (4, .int (I32 s4)), (0, .ref (lay G 83)), (5, .int (I32 d))] [] (a) := by
  intro n
  induction n using Nat.strongRecOn with | _ n ih =>
  intro i s1 s2 s3 s4 a h0 hii hn  hK
  obtain ⟨hi1, hi2⟩ := hii
  obtain ⟨hz01, hz02⟩ := i32_inr (a 9 16)
  refine A_iload dX5_changeBest_33 0 rfl ?_
  refine A_aload_n dX5_changeBest_35 rfl 5 rfl ?_
  refine A_getr fl_X5_9 lk_83 rfl dX5_changeBest_36 ?_
  refine A_geti fl_X5_29 lk_9 rfl dX5_changeBest_39 ?_
  try simp (disch := omega) only [up_k, up_j, up_s]
  refine J_icmp_ge (tgt := 125) dX5_changeBest_42 (by decide) (by first | exact i32_eq (by assumption) | exact i32_eq ⟨by omega, by omega⟩ | with_reducible exact i32_i32 _ | with_reducible exact i32_eq (b2i_inr _) | rfl) (by first | exact i32_eq (by assumption) | exact i32_eq ⟨by omega, by omega⟩ | with_reducible exact i32_i32 _ | with_reducible exact i32_eq (b2i_inr _) | rfl) (fun h42 => ?_) (fun h42 => ?_)
  · refine A_lv [1, 2, 3, 4, 5, 6] rfl ?_
    clear ih
    rcases n with _ | n <;> simp only [fG, decide_eq_true_eq] at hK <;> (repeat' split at hK) <;> first | contradiction | (exfalso; omega) | exact hK | (simp_all; done)
  · refine A_aload_n dX5_changeBest_45 rfl 5 rfl ?_
    refine A_getr fl_X5_15 lk_83 rfl dX5_changeBest_46 ?_
    refine A_iload dX5_changeBest_49 6 rfl ?_
    refine A_iload dX5_changeBest_51 0 rfl ?_
    refine A_Va2 mv_X5_66 lk_55 rfl rfl (c_X3_dishOn _ _ _) (Nat.le_of_ble_eq_true rfl) (by omega) (by omega) dX5_changeBest_53 ?_
    refine A_istore (lv2 := [(7, _), (6, _), (1, _), (2, _), (3, _), (4, _), (0, _), (5, _)]) dX5_changeBest_56 (by decide) rfl ?_
    refine A_aload_n dX5_changeBest_58 rfl 6 rfl ?_
    refine A_iload dX5_changeBest_59 7 rfl ?_
    refine A_iload dX5_changeBest_61 1 rfl ?_
    refine A_iload_n dX5_changeBest_63 rfl 2 rfl ?_
    refine A_Va3 mv_X5_69 lk_83 rfl rfl (c_X5_bestInstead _ _ _ _) (Nat.le_of_ble_eq_true rfl) (by omega) (by omega) dX5_changeBest_64 ?_
    refine A_istore (lv2 := [(8, _), (7, _), (6, _), (1, _), (2, _), (3, _), (4, _), (0, _), (5, _)]) dX5_changeBest_67 (by decide) rfl ?_
    refine A_iload dX5_changeBest_69 0 rfl ?_
    refine A_iconst dX5_changeBest_71 ?_
    refine J_icmp_eq (tgt := 106) dX5_changeBest_72 (by decide) (by first | exact i32_eq (by assumption) | exact i32_eq ⟨by omega, by omega⟩ | with_reducible exact i32_i32 _ | with_reducible exact i32_eq (b2i_inr _) | rfl) (by first | exact i32_eq (by assumption) | exact i32_eq ⟨by omega, by omega⟩ | with_reducible exact i32_i32 _ | with_reducible exact i32_eq (b2i_inr _) | rfl) (fun h72 => ?_) (fun h72 => ?_)
    · refine A_aload_n dX5_changeBest_106 rfl 7 rfl ?_
      refine A_getr fl_X5_15 lk_83 rfl dX5_changeBest_107 ?_
      refine A_iload dX5_changeBest_110 8 rfl ?_
      refine A_iload dX5_changeBest_112 2 rfl ?_
      refine A_iload dX5_changeBest_114 1 rfl ?_
      refine A_Vv3 mv_X5_38 lk_55 rfl rfl (c_X3_put _ _ _ _) (Nat.le_of_ble_eq_true rfl) (by omega) (by omega) dX5_changeBest_116 ?_
      refine A_iinc (lv2 := [(6, _), (8, _), (7, _), (1, _), (2, _), (3, _), (4, _), (0, _), (5, _)]) dX5_changeBest_119 2 rfl (by decide) rfl ?_
      refine A_goto (tgt := 33) dX5_changeBest_122 (by decide) ?_
      refine A_lv [0, 3, 4, 5, 6, 7, 8] rfl ?_
      refine ih (n - 1) (by omega) (i + 1) _ _ _ _ _ (by omega) ⟨by omega, by omega⟩ (by omega) ?_
      obtain ⟨n, rfl⟩ : ∃ q, n = q + 1 := ⟨n - 1, by omega⟩
      clear ih
      rw [fG_s] at hK
      simp only [Nat.add_sub_cancel]
      simp only [decide_eq_true_eq, cb1, cbA] at hK
      (repeat' split at hK) <;> first | contradiction | (exfalso; omega) | exact hK | (simp_all; done)
    · refine A_aload_n dX5_changeBest_75 rfl 7 rfl ?_
      refine A_getr fl_X5_15 lk_83 rfl dX5_changeBest_76 ?_
      refine A_iload dX5_changeBest_79 8 rfl ?_
      refine A_iload dX5_changeBest_81 2 rfl ?_
      refine A_iload dX5_changeBest_83 0 rfl ?_
      refine A_Vv3 mv_X5_38 lk_55 rfl rfl (c_X3_put _ _ _ _) (Nat.le_of_ble_eq_true rfl) (by omega) (by omega) dX5_changeBest_85 ?_
      refine A_aload_n dX5_changeBest_88 rfl 7 rfl ?_
      refine A_getr fl_X5_15 lk_83 rfl dX5_changeBest_89 ?_
      refine A_Va0 mv_X5_63 lk_55 rfl rfl (c_X3_allFaults _) (Nat.le_of_ble_eq_true rfl) (by omega) (by omega) dX5_changeBest_92 ?_
      refine A_istore_n (lv2 := [(1, _), (8, _), (7, _), (6, _), (2, _), (3, _), (4, _), (0, _), (5, _)]) dX5_changeBest_95 rfl (by decide) rfl ?_
      refine A_iload dX5_changeBest_96 8 rfl ?_
      refine A_istore_n (lv2 := [(2, _), (1, _), (8, _), (7, _), (6, _), (3, _), (4, _), (0, _), (5, _)]) dX5_changeBest_98 rfl (by decide) rfl ?_
      refine A_iload dX5_changeBest_99 4 rfl ?_
      refine A_istore_n (lv2 := [(3, _), (2, _), (1, _), (8, _), (7, _), (6, _), (4, _), (0, _), (5, _)]) dX5_changeBest_101 rfl (by decide) rfl ?_
      refine A_iload dX5_changeBest_102 3 rfl ?_
      refine A_istore (lv2 := [(4, _), (3, _), (2, _), (1, _), (8, _), (7, _), (6, _), (0, _), (5, _)]) dX5_changeBest_104 (by decide) rfl ?_
      refine A_aload_n dX5_changeBest_106 rfl 7 rfl ?_
      refine A_getr fl_X5_15 lk_83 rfl dX5_changeBest_107 ?_
      refine A_iload dX5_changeBest_110 8 rfl ?_
      refine A_iload dX5_changeBest_112 6 rfl ?_
      refine A_iload dX5_changeBest_114 5 rfl ?_
      refine A_Vv3 mv_X5_38 lk_55 rfl rfl (c_X3_put _ _ _ _) (Nat.le_of_ble_eq_true rfl) (by omega) (by omega) dX5_changeBest_116 ?_
      refine A_iinc (lv2 := [(6, _), (4, _), (3, _), (2, _), (1, _), (8, _), (7, _), (0, _), (5, _)]) dX5_changeBest_119 6 rfl (by decide) rfl ?_
      refine A_goto (tgt := 33) dX5_changeBest_122 (by decide) ?_
      refine A_lv [0, 4, 3, 2, 1, 7, 8] rfl ?_
      refine ih (n - 1) (by omega) (i + 1) _ _ _ _ _ (by omega) ⟨by omega, by omega⟩ (by omega) ?_
      obtain ⟨n, rfl⟩ : ∃ q, n = q + 1 := ⟨n - 1, by omega⟩
      clear ih
      rw [fG_s] at hK
      simp only [Nat.add_sub_cancel]
      simp only [decide_eq_true_eq, cb1, cbA] at hK
      (repeat' split at hK) <;> first | contradiction | (exfalso; omega) | exact hK | (simp_all; done)
set_option maxRecDepth 100000 in
set_option maxHeartbeats 4000000 in
theorem w_X5_cb18 {f : Fm} {Q : State → Prop} {xs : va_W} {kk nn rc rs : Nat}  (hm : kk ≤ rc ∧ nn ≤ rs) : ∀ (n : Nat) (i : Int) (s1 s2 s3 s4 : Int) (a : Sg), 0 ≤ i → inr i → i + n = 2147483647 → AW l G f (RX5, cX5_changeBest, 9, none) (5, rc, rs) Q xs kk nn 131 [(1, .int (I32 (fG (fun i q => decide (i < i32 (q.2.2.2.2 55 6))) cb2 n i (s1, s2, s3, s4, a)).1)), (2, .int (I32 (fG (fun i q => decide (i < i32 (q.2.2.2.2 55 6))) cb2 n i (s1, s2, s3, s4, a)).2.1)), (3, .int (I32 (fG (fun i q => decide (i < i32 (q.2.2.2.2 55 6))) cb2 n i (s1, s2, s3, s4, a)).2.2.1)), (4, .int (I32 (fG (fun i q => decide (i < i32 (q.2.2.2.2 55 6))) cb2 n i (s1, s2, s3, s4, a)).2.2.2.1)), (0, .ref (lay G 83))] [] ((fG (fun i q => decide (i < i32 (q.2.2.2.2 55 6))) cb2 n i (s1, s2, s3, s4, a)).2.2.2.2) → AW l G f (RX5, cX5_changeBest, 9, none) (5, rc, rs) Q xs kk nn 18 [(5, .int (I32 i)), (1, .int (I32 s1)), (2, .int (I32 s2)), (3, .int (I32 s3)), (4, .int (I32 s4)), (0, .ref (lay G 83))] [] (a) := by
  intro n
  induction n using Nat.strongRecOn with | _ n ih =>
  intro i s1 s2 s3 s4 a h0 hii hn  hK
  obtain ⟨hi1, hi2⟩ := hii
  obtain ⟨hz01, hz02⟩ := i32_inr (a 55 6)
  refine A_iload dX5_changeBest_18 0 rfl ?_
  refine A_aload_n dX5_changeBest_20 rfl 5 rfl ?_
  refine A_getr fl_X5_15 lk_83 rfl dX5_changeBest_21 ?_
  refine A_geti fl_X5_25 lk_55 rfl dX5_changeBest_24 ?_
  try simp (disch := omega) only [up_k, up_j, up_s]
  refine J_icmp_ge (tgt := 131) dX5_changeBest_27 (by decide) (by first | exact i32_eq (by assumption) | exact i32_eq ⟨by omega, by omega⟩ | with_reducible exact i32_i32 _ | with_reducible exact i32_eq (b2i_inr _) | rfl) (by first | exact i32_eq (by assumption) | exact i32_eq ⟨by omega, by omega⟩ | with_reducible exact i32_i32 _ | with_reducible exact i32_eq (b2i_inr _) | rfl) (fun h27 => ?_) (fun h27 => ?_)
  · refine A_lv [1, 2, 3, 4, 5] rfl ?_
    clear ih
    rcases n with _ | n <;> simp only [fG, decide_eq_true_eq] at hK <;> (repeat' split at hK) <;> first | contradiction | (exfalso; omega) | exact hK | (simp_all; done)
  · refine A_iconst dX5_changeBest_30 ?_
    refine A_istore (lv2 := [(6, _), (5, _), (1, _), (2, _), (3, _), (4, _), (0, _)]) dX5_changeBest_31 (by decide) rfl ?_
    refine A_lv [0, 2, 3, 4, 5, 6, 1] rfl ?_
    refine w_X5_cb33 i hm BIG 0 _ _ _ _ _ (by omega) ⟨by omega, by omega⟩ BIG_0 ?_
    refine A_iinc (lv2 := [(5, _), (1, _), (2, _), (3, _), (4, _), (0, _)]) dX5_changeBest_125 5 rfl (by decide) rfl ?_
    refine A_goto (tgt := 18) dX5_changeBest_128 (by decide) ?_
    refine ih (n - 1) (by omega) (i + 1) _ _ _ _ _ (by omega) ⟨by omega, by omega⟩ (by omega) ?_
    obtain ⟨n, rfl⟩ : ∃ q, n = q + 1 := ⟨n - 1, by omega⟩
    clear ih
    rw [fG_s] at hK
    simp only [Nat.add_sub_cancel]
    simp only [decide_eq_true_eq] at hK
    (repeat' split at hK) <;> first | contradiction | (exfalso; omega) | exact hK
set_option maxRecDepth 100000 in
set_option maxHeartbeats 4000000 in
theorem c_X5_changeBest (σ : Sg)  : Ct l G yX5_changeBest cX5_changeBest 9 none 5 0 0 [.ref (lay G 83)] σ (none) (cbC σ) := by
  refine Ct.of (by decide +kernel) (Nat.le_of_ble_eq_true rfl) (fun f => ?_)
  show AW _ _ _ _ _ _ _ _ _ _ [(0, _)] _ _
  refine A_aload_n dX5_changeBest_0 rfl 0 rfl ?_
  refine A_getr fl_X5_15 lk_83 rfl dX5_changeBest_1 ?_
  refine A_Va0 mv_X5_63 lk_55 rfl rfl (c_X3_allFaults _) (Nat.le_of_ble_eq_true rfl) (by omega) (by omega) dX5_changeBest_4 ?_
  refine A_istore_n (lv2 := [(1, _), (0, _)]) dX5_changeBest_7 rfl (by decide) rfl ?_
  refine A_iconst dX5_changeBest_8 ?_
  refine A_istore_n (lv2 := [(2, _), (1, _), (0, _)]) dX5_changeBest_9 rfl (by decide) rfl ?_
  refine A_iconst dX5_changeBest_10 ?_
  refine A_istore_n (lv2 := [(3, _), (2, _), (1, _), (0, _)]) dX5_changeBest_11 rfl (by decide) rfl ?_
  refine A_iconst dX5_changeBest_12 ?_
  refine A_istore (lv2 := [(4, _), (3, _), (2, _), (1, _), (0, _)]) dX5_changeBest_13 (by decide) rfl ?_
  refine A_iconst dX5_changeBest_15 ?_
  refine A_istore (lv2 := [(5, _), (4, _), (3, _), (2, _), (1, _), (0, _)]) dX5_changeBest_16 (by decide) rfl ?_
  refine A_lv [0, 4, 3, 2, 1, 5] rfl ?_
  refine w_X5_cb18 (by omega) BIG 0 _ _ _ _ _ (by omega) ⟨by omega, by omega⟩ BIG_0 ?_
  refine A_aload_n dX5_changeBest_131 rfl 4 rfl ?_
  refine A_getr fl_X5_15 lk_83 rfl dX5_changeBest_132 ?_
  refine A_iload_n dX5_changeBest_135 rfl 1 rfl ?_
  refine A_iload_n dX5_changeBest_136 rfl 2 rfl ?_
  refine A_iload dX5_changeBest_137 3 rfl ?_
  refine A_Vv3 mv_X5_38 lk_55 rfl rfl (c_X3_put _ _ _ _) (Nat.le_of_ble_eq_true rfl) (by omega) (by omega) dX5_changeBest_139 ?_
  exact A_vret dX5_changeBest_142 (by rfl) (by rfl)
end S14
