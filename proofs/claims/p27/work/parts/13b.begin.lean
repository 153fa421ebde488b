section S13b
variable {l : Launch} {G : Gx}
def bg1 (d : Int) (c : Int) (a : Sg) : Sg := up a (61 + d.toNat) c.toNat (-1)
def bg2 (d : Int) (r : Int) (a : Sg) : Sg := up a (75 + r.toNat) d.toNat 0
def bg3 (d : Int) (a : Sg) : Sg := fW 8 (bg2 d) 8 0 (fW 8 (bg1 d) 8 0 (up a 58 d.toNat 0))
def bg4 (x : Int) (a : Sg) : Sg := up a 59 x.toNat 0
def bg5 (r : Int) (a : Sg) : Sg := rcC (up a 60 r.toNat 0) r
def bg0 (σ : Sg) (d : Int) : Sg := up (up σ 55 6 (if i32 d < 0 ∨ 14 < i32 d then 0 else d)) 55 7 ((if i32 d < 0 ∨ 14 < i32 d then 0 else d) * σ 9 16)
def bgC (σ : Sg) (d : Int) : Sg := fW 8 bg5 8 0 (fW 16 bg4 16 0 (fW 14 bg3 14 0 (bg0 σ d)))
set_option maxRecDepth 100000 in
set_option maxHeartbeats 4000000 in
theorem w_X3_begin52 {f : Fm} {Q : State → Prop} {xs : va_W} {kk nn rc rs : Nat} (d : Int) (hd : 0 ≤ d ∧ d < 14) (hm : kk ≤ rc ∧ nn ≤ rs) : ∀ (n : Nat) (i : Int) (a : Sg), 0 ≤ i → inr i → i + n = 8 → AW l G f (RX3, cX3_begin, 4, none) (3, rc, rs) Q xs kk nn 73 [(0, .ref (lay G 55)), (2, .int (I32 d))] [] ((fW (8) (bg1 d) n i a)) → AW l G f (RX3, cX3_begin, 4, none) (3, rc, rs) Q xs kk nn 52 [(3, .int (I32 i)), (0, .ref (lay G 55)), (2, .int (I32 d))] [] (a) := by
  intro n
  induction n using Nat.strongRecOn with | _ n ih =>
  intro i a h0 hii hn  hK
  obtain ⟨hi1, hi2⟩ := hii
  refine A_iload_n dX3_begin_52 rfl 0 rfl ?_
  refine A_bipush dX3_begin_53 (by decide +kernel) ?_
  refine J_icmp_ge (tgt := 73) dX3_begin_55 (by decide) (by first | exact i32_eq (by assumption) | exact i32_eq ⟨by omega, by omega⟩ | with_reducible exact i32_i32 _ | with_reducible exact i32_eq (b2i_inr _) | rfl) (by first | exact i32_eq (by assumption) | exact i32_eq ⟨by omega, by omega⟩ | with_reducible exact i32_i32 _ | with_reducible exact i32_eq (b2i_inr _) | rfl) (fun h55 => ?_) (fun h55 => ?_)
  · refine A_lv [1, 2] rfl ?_
    clear ih
    rcases n with _ | n <;> simp only [fW] at hK <;> (repeat' split at hK) <;> first | contradiction | (exfalso; omega) | exact hK | (simp_all; done)
  · refine A_aload_n dX3_begin_58 rfl 1 rfl ?_
    refine A_getr fl_X3_11 lk_55 rfl dX3_begin_59 ?_
    refine A_iload_n dX3_begin_62 rfl 2 rfl ?_
    refine J_aald lk_56 (by first | exact i32_eq (by assumption) | exact i32_eq ⟨by omega, by omega⟩ | with_reducible exact i32_i32 _ | with_reducible exact i32_eq (b2i_inr _) | rfl) (by omega) (by omega) (by decide) dX3_begin_63 ?_
    refine A_iload_n dX3_begin_64 rfl 0 rfl ?_
    refine A_iconst dX3_begin_65 ?_
    refine J_iast (lk_row61 (by omega)) (by first | exact i32_eq (by assumption) | exact i32_eq ⟨by omega, by omega⟩ | with_reducible exact i32_i32 _ | with_reducible exact i32_eq (b2i_inr _) | rfl) (by omega) (by omega) (by decide) dX3_begin_66 ?_
    refine A_iinc (lv2 := [(3, _), (0, _), (2, _)]) dX3_begin_67 0 rfl (by decide) rfl ?_
    refine A_goto (tgt := 52) dX3_begin_70 (by decide) ?_
    refine A_lv [0, 1, 2] rfl ?_
    refine ih (n - 1) (by omega) (i + 1) _ (by omega) ⟨by omega, by omega⟩ (by omega) ?_
    obtain ⟨n, rfl⟩ : ∃ q, n = q + 1 := ⟨n - 1, by omega⟩
    clear ih
    rw [fW_s] at hK
    simp only [Nat.add_sub_cancel]
    simp only [bg1] at hK
    (repeat' split at hK) <;> first | contradiction | (exfalso; omega) | exact hK | (simp_all; done)
set_option maxRecDepth 100000 in
set_option maxHeartbeats 4000000 in
theorem w_X3_begin75 {f : Fm} {Q : State → Prop} {xs : va_W} {kk nn rc rs : Nat} (d : Int) (hd : 0 ≤ d ∧ d < 14) (hm : kk ≤ rc ∧ nn ≤ rs) : ∀ (n : Nat) (i : Int) (a : Sg), 0 ≤ i → inr i → i + n = 8 → AW l G f (RX3, cX3_begin, 4, none) (3, rc, rs) Q xs kk nn 96 [(0, .ref (lay G 55)), (2, .int (I32 d))] [] ((fW (8) (bg2 d) n i a)) → AW l G f (RX3, cX3_begin, 4, none) (3, rc, rs) Q xs kk nn 75 [(3, .int (I32 i)), (0, .ref (lay G 55)), (2, .int (I32 d))] [] (a) := by
  intro n
  induction n using Nat.strongRecOn with | _ n ih =>
  intro i a h0 hii hn  hK
  obtain ⟨hi1, hi2⟩ := hii
  refine A_iload_n dX3_begin_75 rfl 0 rfl ?_
  refine A_bipush dX3_begin_76 (by decide +kernel) ?_
  refine J_icmp_ge (tgt := 96) dX3_begin_78 (by decide) (by first | exact i32_eq (by assumption) | exact i32_eq ⟨by omega, by omega⟩ | with_reducible exact i32_i32 _ | with_reducible exact i32_eq (b2i_inr _) | rfl) (by first | exact i32_eq (by assumption) | exact i32_eq ⟨by omega, by omega⟩ | with_reducible exact i32_i32 _ | with_reducible exact i32_eq (b2i_inr _) | rfl) (fun h78 => ?_) (fun h78 => ?_)
  · refine A_lv [1, 2] rfl ?_
    clear ih
    rcases n with _ | n <;> simp only [fW] at hK <;> (repeat' split at hK) <;> first | contradiction | (exfalso; omega) | exact hK | (simp_all; done)
  · refine A_aload_n dX3_begin_81 rfl 1 rfl ?_
    refine A_getr fl_X3_16 lk_55 rfl dX3_begin_82 ?_
    refine A_iload_n dX3_begin_85 rfl 0 rfl ?_
    refine J_aald lk_57 (by first | exact i32_eq (by assumption) | exact i32_eq ⟨by omega, by omega⟩ | with_reducible exact i32_i32 _ | with_reducible exact i32_eq (b2i_inr _) | rfl) (by omega) (by omega) (by decide) dX3_begin_86 ?_
    refine A_iload_n dX3_begin_87 rfl 2 rfl ?_
    refine A_iconst dX3_begin_88 ?_
    refine J_iast (lk_row75 (by omega)) (by first | exact i32_eq (by assumption) | exact i32_eq ⟨by omega, by omega⟩ | with_reducible exact i32_i32 _ | with_reducible exact i32_eq (b2i_inr _) | rfl) (by omega) (by omega) (by decide) dX3_begin_89 ?_
    refine A_iinc (lv2 := [(3, _), (0, _), (2, _)]) dX3_begin_90 0 rfl (by decide) rfl ?_
    refine A_goto (tgt := 75) dX3_begin_93 (by decide) ?_
    refine A_lv [0, 1, 2] rfl ?_
    refine ih (n - 1) (by omega) (i + 1) _ (by omega) ⟨by omega, by omega⟩ (by omega) ?_
    obtain ⟨n, rfl⟩ : ∃ q, n = q + 1 := ⟨n - 1, by omega⟩
    clear ih
    rw [fW_s] at hK
    simp only [Nat.add_sub_cancel]
    simp only [bg2] at hK
    (repeat' split at hK) <;> first | contradiction | (exfalso; omega) | exact hK | (simp_all; done)
set_option maxRecDepth 100000 in
set_option maxHeartbeats 4000000 in
theorem w_X3_begin37 {f : Fm} {Q : State → Prop} {xs : va_W} {kk nn rc rs : Nat}  (hm : kk ≤ rc ∧ nn ≤ rs) : ∀ (n : Nat) (i : Int) (a : Sg), 0 ≤ i → inr i → i + n = 14 → AW l G f (RX3, cX3_begin, 4, none) (3, rc, rs) Q xs kk nn 102 [(0, .ref (lay G 55))] [] ((fW (14) bg3 n i a)) → AW l G f (RX3, cX3_begin, 4, none) (3, rc, rs) Q xs kk nn 37 [(2, .int (I32 i)), (0, .ref (lay G 55))] [] (a) := by
  intro n
  induction n using Nat.strongRecOn with | _ n ih =>
  intro i a h0 hii hn  hK
  obtain ⟨hi1, hi2⟩ := hii
  refine A_iload_n dX3_begin_37 rfl 0 rfl ?_
  refine A_bipush dX3_begin_38 (by decide +kernel) ?_
  refine J_icmp_ge (tgt := 102) dX3_begin_40 (by decide) (by first | exact i32_eq (by assumption) | exact i32_eq ⟨by omega, by omega⟩ | with_reducible exact i32_i32 _ | with_reducible exact i32_eq (b2i_inr _) | rfl) (by first | exact i32_eq (by assumption) | exact i32_eq ⟨by omega, by omega⟩ | with_reducible exact i32_i32 _ | with_reducible exact i32_eq (b2i_inr _) | rfl) (fun h40 => ?_) (fun h40 => ?_)
  · refine A_lv [1] rfl ?_
    clear ih
    rcases n with _ | n <;> simp only [fW] at hK <;> (repeat' split at hK) <;> first | contradiction | (exfalso; omega) | exact hK | (simp_all; done)
  · refine A_aload_n dX3_begin_43 rfl 1 rfl ?_
    refine A_getr fl_X3_19 lk_55 rfl dX3_begin_44 ?_
    refine A_iload_n dX3_begin_47 rfl 0 rfl ?_
    refine A_iconst dX3_begin_48 ?_
    refine J_iast lk_58 (by first | exact i32_eq (by assumption) | exact i32_eq ⟨by omega, by omega⟩ | with_reducible exact i32_i32 _ | with_reducible exact i32_eq (b2i_inr _) | rfl) (by omega) (by omega) (by decide) dX3_begin_49 ?_
    refine A_iconst dX3_begin_50 ?_
    refine A_istore_n (lv2 := [(3, _), (2, _), (0, _)]) dX3_begin_51 rfl (by decide) rfl ?_
    refine A_lv [0, 2, 1] rfl ?_
    refine w_X3_begin52 i (by omega) hm 8 0 _ (by omega) ⟨by omega, by omega⟩ (by omega) ?_
    refine A_iconst dX3_begin_73 ?_
    refine A_istore_n (lv2 := [(3, _), (0, _), (2, _)]) dX3_begin_74 rfl (by decide) rfl ?_
    refine w_X3_begin75 i (by omega) hm 8 0 _ (by omega) ⟨by omega, by omega⟩ (by omega) ?_
    refine A_iinc (lv2 := [(2, _), (0, _)]) dX3_begin_96 1 rfl (by decide) rfl ?_
    refine A_goto (tgt := 37) dX3_begin_99 (by decide) ?_
    refine ih (n - 1) (by omega) (i + 1) _ (by omega) ⟨by omega, by omega⟩ (by omega) ?_
    obtain ⟨n, rfl⟩ : ∃ q, n = q + 1 := ⟨n - 1, by omega⟩
    clear ih
    rw [fW_s] at hK
    simp only [Nat.add_sub_cancel]
    (repeat' split at hK) <;> first | contradiction | (exfalso; omega) | exact hK
set_option maxRecDepth 100000 in
set_option maxHeartbeats 4000000 in
theorem w_X3_begin104 {f : Fm} {Q : State → Prop} {xs : va_W} {kk nn rc rs : Nat}  (hm : kk ≤ rc ∧ nn ≤ rs) : ∀ (n : Nat) (i : Int) (a : Sg), 0 ≤ i → inr i → i + n = 16 → AW l G f (RX3, cX3_begin, 4, none) (3, rc, rs) Q xs kk nn 123 [(0, .ref (lay G 55))] [] ((fW (16) bg4 n i a)) → AW l G f (RX3, cX3_begin, 4, none) (3, rc, rs) Q xs kk nn 104 [(2, .int (I32 i)), (0, .ref (lay G 55))] [] (a) := by
  intro n
  induction n using Nat.strongRecOn with | _ n ih =>
  intro i a h0 hii hn  hK
  obtain ⟨hi1, hi2⟩ := hii
  refine A_iload_n dX3_begin_104 rfl 0 rfl ?_
  refine A_bipush dX3_begin_105 (by decide +kernel) ?_
  refine J_icmp_ge (tgt := 123) dX3_begin_107 (by decide) (by first | exact i32_eq (by assumption) | exact i32_eq ⟨by omega, by omega⟩ | with_reducible exact i32_i32 _ | with_reducible exact i32_eq (b2i_inr _) | rfl) (by first | exact i32_eq (by assumption) | exact i32_eq ⟨by omega, by omega⟩ | with_reducible exact i32_i32 _ | with_reducible exact i32_eq (b2i_inr _) | rfl) (fun h107 => ?_) (fun h107 => ?_)
  · refine A_lv [1] rfl ?_
    clear ih
    rcases n with _ | n <;> simp only [fW] at hK <;> (repeat' split at hK) <;> first | contradiction | (exfalso; omega) | exact hK | (simp_all; done)
  · refine A_aload_n dX3_begin_110 rfl 1 rfl ?_
    refine A_getr fl_X3_23 lk_55 rfl dX3_begin_111 ?_
    refine A_iload_n dX3_begin_114 rfl 0 rfl ?_
    refine A_iconst dX3_begin_115 ?_
    refine J_iast lk_59 (by first | exact i32_eq (by assumption) | exact i32_eq ⟨by omega, by omega⟩ | with_reducible exact i32_i32 _ | with_reducible exact i32_eq (b2i_inr _) | rfl) (by omega) (by omega) (by decide) dX3_begin_116 ?_
    refine A_iinc (lv2 := [(2, _), (0, _)]) dX3_begin_117 0 rfl (by decide) rfl ?_
    refine A_goto (tgt := 104) dX3_begin_120 (by decide) ?_
    refine A_lv [0, 1] rfl ?_
    refine ih (n - 1) (by omega) (i + 1) _ (by omega) ⟨by omega, by omega⟩ (by omega) ?_
    obtain ⟨n, rfl⟩ : ∃ q, n = q + 1 := ⟨n - 1, by omega⟩
    clear ih
    rw [fW_s] at hK
    simp only [Nat.add_sub_cancel]
    simp only [bg4] at hK
    (repeat' split at hK) <;> first | contradiction | (exfalso; omega) | exact hK | (simp_all; done)
set_option maxRecDepth 100000 in
set_option maxHeartbeats 4000000 in
theorem w_X3_begin125 {f : Fm} {Q : State → Prop} {xs : va_W} {kk nn rc rs : Nat}  (hm : kk ≤ rc ∧ nn ≤ rs) : ∀ (n : Nat) (i : Int) (a : Sg), 0 ≤ i → inr i → i + n = 8 → AW l G f (RX3, cX3_begin, 4, none) (3, rc, rs) Q xs kk nn 149 [(0, .ref (lay G 55))] [] ((fW (8) bg5 n i a)) → AW l G f (RX3, cX3_begin, 4, none) (3, rc, rs) Q xs kk nn 125 [(2, .int (I32 i)), (0, .ref (lay G 55))] [] (a) := by
  intro n
  induction n using Nat.strongRecOn with | _ n ih =>
  intro i a h0 hii hn  hK
  obtain ⟨hi1, hi2⟩ := hii
  refine A_iload_n dX3_begin_125 rfl 0 rfl ?_
  refine A_bipush dX3_begin_126 (by decide +kernel) ?_
  refine J_icmp_ge (tgt := 149) dX3_begin_128 (by decide) (by first | exact i32_eq (by assumption) | exact i32_eq ⟨by omega, by omega⟩ | with_reducible exact i32_i32 _ | with_reducible exact i32_eq (b2i_inr _) | rfl) (by first | exact i32_eq (by assumption) | exact i32_eq ⟨by omega, by omega⟩ | with_reducible exact i32_i32 _ | with_reducible exact i32_eq (b2i_inr _) | rfl) (fun h128 => ?_) (fun h128 => ?_)
  · refine A_lv [1] rfl ?_
    clear ih
    rcases n with _ | n <;> simp only [fW] at hK <;> (repeat' split at hK) <;> first | contradiction | (exfalso; omega) | exact hK | (simp_all; done)
  · refine A_aload_n dX3_begin_131 rfl 1 rfl ?_
    refine A_getr fl_X3_26 lk_55 rfl dX3_begin_132 ?_
    refine A_iload_n dX3_begin_135 rfl 0 rfl ?_
    refine A_iconst dX3_begin_136 ?_
    refine J_iast lk_60 (by first | exact i32_eq (by assumption) | exact i32_eq ⟨by omega, by omega⟩ | with_reducible exact i32_i32 _ | with_reducible exact i32_eq (b2i_inr _) | rfl) (by omega) (by omega) (by decide) dX3_begin_137 ?_
    refine A_aload_n dX3_begin_138 rfl 1 rfl ?_
    refine A_iload_n dX3_begin_139 rfl 0 rfl ?_
    refine A_Vv1 mv_X3_45 lk_55 rfl rfl (c_X3_recount _ _ (by omega)) (Nat.le_of_ble_eq_true rfl) (by omega) (by omega) dX3_begin_140 ?_
    refine A_iinc (lv2 := [(2, _), (0, _)]) dX3_begin_143 0 rfl (by decide) rfl ?_
    refine A_goto (tgt := 125) dX3_begin_146 (by decide) ?_
    refine A_lv [0, 1] rfl ?_
    refine ih (n - 1) (by omega) (i + 1) _ (by omega) ⟨by omega, by omega⟩ (by omega) ?_
    obtain ⟨n, rfl⟩ : ∃ q, n = q + 1 := ⟨n - 1, by omega⟩
    clear ih
    rw [fW_s] at hK
    simp only [Nat.add_sub_cancel]
    simp only [bg5] at hK
    (repeat' split at hK) <;> first | contradiction | (exfalso; omega) | exact hK | (simp_all; done)
set_option maxRecDepth 100000 in
set_option maxHeartbeats 4000000 in
theorem c_X3_begin (σ : Sg) (d : Int)  : Ct l G yX3_begin cX3_begin 4 none 3 0 0 [.ref (lay G 55), .int (I32 d)] σ (none) (bgC σ d) := by
  refine Ct.of (by decide +kernel) (Nat.le_of_ble_eq_true rfl) (fun f => ?_)
  show AW _ _ _ _ _ _ _ _ _ _ [(0, _), (1, _)] _ _
  refine A_aload_n dX3_begin_0 rfl 0 rfl ?_
  refine A_iload_n dX3_begin_1 rfl 1 rfl ?_
  refine J_if_lt (tgt := 11) dX3_begin_2 (by decide) (by first | exact i32_eq (by assumption) | exact i32_eq ⟨by omega, by omega⟩ | with_reducible exact i32_i32 _ | with_reducible exact i32_eq (b2i_inr _) | rfl) (fun h2 => ?_) (fun h2 => ?_)
  · refine A_iconst dX3_begin_11 ?_
    refine A_goto (tgt := 16) dX3_begin_12 (by decide) ?_
    refine A_puti fl_X3_33 lk_55 rfl dX3_begin_16 ?_
    refine A_aload_n dX3_begin_19 rfl 0 rfl ?_
    refine A_aload_n dX3_begin_20 rfl 0 rfl ?_
    refine A_geti fl_X3_33 lk_55 rfl dX3_begin_21 ?_
    try simp (disch := omega) only [up_k, up_j, up_s]
    refine A_aload_n dX3_begin_24 rfl 0 rfl ?_
    refine A_getr fl_X3_29 lk_55 rfl dX3_begin_25 ?_
    refine A_geti fl_X3_37 lk_9 rfl dX3_begin_28 ?_
    try simp (disch := omega) only [up_k, up_j, up_s]
    refine A_imul dX3_begin_31 ?_
    refine A_puti fl_X3_42 lk_55 rfl dX3_begin_32 ?_
    refine A_iconst dX3_begin_35 ?_
    refine A_istore_n (lv2 := [(2, _), (0, _), (1, _)]) dX3_begin_36 rfl (by decide) rfl ?_
    refine A_lv [0, 1] rfl ?_
    refine w_X3_begin37 (by omega) 14 0 _ (by omega) ⟨by omega, by omega⟩ (by omega) ?_
    refine A_iconst dX3_begin_102 ?_
    refine A_istore_n (lv2 := [(2, _), (0, _)]) dX3_begin_103 rfl (by decide) rfl ?_
    refine w_X3_begin104 (by omega) 16 0 _ (by omega) ⟨by omega, by omega⟩ (by omega) ?_
    refine A_iconst dX3_begin_123 ?_
    refine A_istore_n (lv2 := [(2, _), (0, _)]) dX3_begin_124 rfl (by decide) rfl ?_
    refine w_X3_begin125 (by omega) 8 0 _ (by omega) ⟨by omega, by omega⟩ (by omega) ?_
    exact A_vret dX3_begin_149 rfl (by simp only [bgC, bg0]; (repeat' split) <;> first | (exfalso; omega) | with_reducible rfl)
  · refine A_iload_n dX3_begin_5 rfl 1 rfl ?_
    refine A_bipush dX3_begin_6 (by decide +kernel) ?_
    refine J_icmp_le (tgt := 15) dX3_begin_8 (by decide) (by first | exact i32_eq (by assumption) | exact i32_eq ⟨by omega, by omega⟩ | with_reducible exact i32_i32 _ | with_reducible exact i32_eq (b2i_inr _) | rfl) (by first | exact i32_eq (by assumption) | exact i32_eq ⟨by omega, by omega⟩ | with_reducible exact i32_i32 _ | with_reducible exact i32_eq (b2i_inr _) | rfl) (fun h8 => ?_) (fun h8 => ?_)
    · refine A_iload_n dX3_begin_15 rfl 1 rfl ?_
      refine A_puti fl_X3_33 lk_55 rfl dX3_begin_16 ?_
      refine A_aload_n dX3_begin_19 rfl 0 rfl ?_
      refine A_aload_n dX3_begin_20 rfl 0 rfl ?_
      refine A_geti fl_X3_33 lk_55 rfl dX3_begin_21 ?_
      try simp (disch := omega) only [up_k, up_j, up_s]
      refine A_aload_n dX3_begin_24 rfl 0 rfl ?_
      refine A_getr fl_X3_29 lk_55 rfl dX3_begin_25 ?_
      refine A_geti fl_X3_37 lk_9 rfl dX3_begin_28 ?_
      try simp (disch := omega) only [up_k, up_j, up_s]
      refine A_imul dX3_begin_31 ?_
      refine A_puti fl_X3_42 lk_55 rfl dX3_begin_32 ?_
      refine A_iconst dX3_begin_35 ?_
      refine A_istore_n (lv2 := [(2, _), (0, _), (1, _)]) dX3_begin_36 rfl (by decide) rfl ?_
      refine A_lv [0, 1] rfl ?_
      refine w_X3_begin37 (by omega) 14 0 _ (by omega) ⟨by omega, by omega⟩ (by omega) ?_
      refine A_iconst dX3_begin_102 ?_
      refine A_istore_n (lv2 := [(2, _), (0, _)]) dX3_begin_103 rfl (by decide) rfl ?_
      refine w_X3_begin104 (by omega) 16 0 _ (by omega) ⟨by omega, by omega⟩ (by omega) ?_
      refine A_iconst dX3_begin_123 ?_
      refine A_istore_n (lv2 := [(2, _), (0, _)]) dX3_begin_124 rfl (by decide) rfl ?_
      refine w_X3_begin125 (by omega) 8 0 _ (by omega) ⟨by omega, by omega⟩ (by omega) ?_
      exact A_vret dX3_begin_149 rfl (by simp only [bgC, bg0]; (repeat' split) <;> first | (exfalso; omega) | with_reducible rfl)
    · refine A_iconst dX3_begin_11 ?_
      refine A_goto (tgt := 16) dX3_begin_12 (by decide) ?_
      refine A_puti fl_X3_33 lk_55 rfl dX3_begin_16 ?_
      refine A_aload_n dX3_begin_19 rfl 0 rfl ?_
      refine A_aload_n dX3_begin_20 rfl 0 rfl ?_
      refine A_geti fl_X3_33 lk_55 rfl dX3_begin_21 ?_
      try simp (disch := omega) only [up_k, up_j, up_s]
      refine A_aload_n dX3_begin_24 rfl 0 rfl ?_
      refine A_getr fl_X3_29 lk_55 rfl dX3_begin_25 ?_
      refine A_geti fl_X3_37 lk_9 rfl dX3_begin_28 ?_
      try simp (disch := omega) only [up_k, up_j, up_s]
      refine A_imul dX3_begin_31 ?_
      refine A_puti fl_X3_42 lk_55 rfl dX3_begin_32 ?_
      refine A_iconst dX3_begin_35 ?_
      refine A_istore_n (lv2 := [(2, _), (0, _), (1, _)]) dX3_begin_36 rfl (by decide) rfl ?_
      refine A_lv [0, 1] rfl ?_
      refine w_X3_begin37 (by omega) 14 0 _ (by omega) ⟨by omega, by omega⟩ (by omega) ?_
      refine A_iconst dX3_begin_102 ?_
      refine A_istore_n (lv2 := [(2, _), (0, _)]) dX3_begin_103 rfl (by decide) rfl ?_
      refine w_X3_begin104 (by omega) 16 0 _ (by omega) ⟨by omega, by omega⟩ (by omega) ?_
      refine A_iconst dX3_begin_123 ?_
      refine A_istore_n (lv2 := [(2, _), (0, _)]) dX3_begin_124 rfl (by decide) rfl ?_
      refine w_X3_begin125 (by omega) 8 0 _ (by omega) ⟨by omega, by omega⟩ (by omega) ?_
      exact A_vret dX3_begin_149 rfl (by simp only [bgC, bg0]; (repeat' split) <;> first | (exfalso; omega) | with_reducible rfl)
end S13b
