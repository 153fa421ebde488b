/-! texts: String and StringLatin1 over the constants; Tokens.readAt, read -/
section S23
variable {l : Launch} {G : Gx}
theorem kl_ish : ∀ i, i < 24 → ishr (kl i) 0 = kl i := by decide +kernel
theorem kl_b (i : Nat) : kl i = (lenS.getD i 0 : Nat) := rfl
theorem kl_i32 : ∀ i, i < 24 → i32 (kl i) = kl i := by decide +kernel
theorem kl_0 : ∀ i, i < 24 → 0 < kl i ∧ kl i ≤ 100 := by decide +kernel
theorem kb_chN : ∀ i, i < 24 → ∀ j, j < lenS.getD i 0 → i2c (iand (kb i j) 255) = kb i j := by decide +kernel
theorem kb_ch {i : Nat} {z : Int} (hi : i < 24) (h : 0 ≤ z ∧ z < kl i) : i2c (iand (kb i z.toNat) 255) = kb i z.toNat := kb_chN i hi z.toNat (by have := h.1; have := h.2; rw [kl_b] at this; omega)
theorem kb_narN : ∀ i, i < 24 → ∀ j, j < lenS.getD i 0 → 0 ≤ kb i j ∧ kb i j < 128 := by decide +kernel
theorem kb_nar {i : Nat} {z : Int} (hi : i < 24) (h : 0 ≤ z ∧ z < kl i) : 0 ≤ kb i z.toNat ∧ kb i z.toNat < 128 := kb_narN i hi z.toNat (by have := h.1; have := h.2; rw [kl_b] at this; omega)
def ixF (i : Nat) (c : Int) : Nat → Int → Int
  | 0, _ => -1
  | n + 1, j => if i32 (kb i j.toNat) = i32 (i2b c) then j else ixF i c n (j + 1)
def ioC (i : Nat) (c : Int) : Int := if 0 ≤ i32 c ∧ i32 c ≤ 255 then ixF i c (kl i).toNat 0 else -1
theorem nar_ch : ∀ n : Nat, n < 128 → narrow .char (.int (I32 n)) = .int (I32 n) := by decide +kernel
theorem nar_chz {z : Int} (h : 0 ≤ z ∧ z < 128) : narrow .char (.int (I32 z)) = .int (I32 z) := by
  have e : z = (z.toNat : Int) := by omega
  rw [e]; exact nar_ch _ (by omega)
section MXX
variable {f : Fm} {own : String} {cc : ByteArray} {nL : Nat} {rt : Option FieldType} {dd rc rs : Nat} {Q : State → Prop} {xs : va_W} {k n pc : Nat} {lv : List (Nat × Value)} {rest : List Value} {σ : Sg}
def MMAX (own : String) (idx : Nat) : Prop := Cond.methodLink own idx Lib.Math.max.name ∈ lw_all ∧ Cond.static Lib.Math.max.name ∈ lw_all ∧ Cond.initialized "java/lang/Math" ∈ lw_all ∧ Cond.code Lib.Math.max.name Lib.Math.max.code 2 (some .int) ∈ lw_all
theorem mx_J1_92 : MMAX RJ1 92 := ⟨in_all (i := 971) (by decide +kernel) rfl, in_all (i := 972) (by decide +kernel) rfl, in_all (i := 69) (by decide +kernel) rfl, in_all (i := 973) (by decide +kernel) rfl⟩
theorem mm_J1_38 : MMIN RJ1 38 := ⟨in_all (i := 974) (by decide +kernel) rfl, in_all (i := 639) (by decide +kernel) rfl, in_all (i := 69) (by decide +kernel) rfl, in_all (i := 640) (by decide +kernel) rfl⟩
theorem A_max {idx : Nat} {x y x1 y1 : Int} (ml : MMAX own idx) (ex : i32 x = x1) (ey : i32 y = y1) (hroom : (rest.map fun v => v.category).sum ≤ 8) (hd : 1 ≤ dd) (hm : k ≤ rc ∧ n ≤ rs) (d : decode cc pc = .ok (.invokestatic idx, 3)) (g : AW l G f (own, cc, nL, rt) (dd, rc, rs) Q xs k n (pc + 3) lv (.int (I32 (max x1 y1)) :: rest) σ) : AW l G f (own, cc, nL, rt) (dd, rc, rs) Q xs k n pc lv (.int (I32 y) :: .int (I32 x) :: rest) σ := fun ok H locs ls hl hP hD hS => by
  obtain ⟨m1, m2, m3, m4⟩ := ml
  subst ex; subst ey
  have hg := g ok H locs ls hl hP hD hS
  have o := ok.2.2.2.2.2.2.2.2.2.2
  refine va_mmax ok.1 ok.2.1 (ok.2.2.1.trans hl.1.symm) ok.2.2.2.1 (ok.2.2.2.2.1 _ m1) (ok.2.2.2.2.1 _ m2) (ok.2.2.2.2.1 _ m3) (ok.2.2.2.2.1 _ m4) (Nat.le_trans hd o.1) (by have := o.2.1; omega) (Nat.le_trans hm.1 o.2.2.1) (Nat.le_trans hm.2 o.2.2.2) d ?_
  have hlt : I32 x < I32 y ↔ i32 x < i32 y := Int32.lt_iff_toInt_lt
  by_cases h : i32 y ≤ i32 x
  · rw [Int.max_eq_left h, I32_i32] at hg
    rw [if_neg (fun q => by have := hlt.mp q; omega)]; exact hg
  · rw [Int.max_eq_right (by omega), I32_i32] at hg
    rw [if_pos (hlt.mpr (by omega))]; exact hg
end MXX
set_option maxRecDepth 100000 in
set_option maxHeartbeats 4000000 in
theorem c_J0_isLatin1_aae02 (σ : Sg) (i : Nat) (hi : oi G i) : Ct l G yJ0_isLatin1_aae02 cJ0_isLatin1_aae02 1 (some .boolean) 0 0 0 [.ref (G.2.2.2.1 i)] σ (some (.int (I32 1))) (σ) := by
  refine Ct.of (by decide +kernel) (Nat.le_of_ble_eq_true rfl) (fun f => ?_)
  show AW _ _ _ _ _ _ _ _ _ _ [(0, _)] _ _
  refine A_gsi fk_J0_38 dJ0_isLatin1_aae02_0 ?_
  refine A_if_eq (tgt := 17) dJ0_isLatin1_aae02_3 (by decide) ⟨by decide, by decide⟩ (fun h => absurd h (by decide)) (fun _ => ?_)
  refine A_aload_n dJ0_isLatin1_aae02_6 rfl 0 rfl ?_
  refine A_kcod hi fk_J0_15 dJ0_isLatin1_aae02_7 ?_
  refine A_if_ne (tgt := 17) dJ0_isLatin1_aae02_10 (by decide) ⟨by decide, by decide⟩ (fun h => absurd h (by decide)) (fun _ => ?_)
  refine A_iconst dJ0_isLatin1_aae02_13 ?_
  refine A_goto (tgt := 18) dJ0_isLatin1_aae02_14 (by decide) ?_
  exact A_zret2 dJ0_isLatin1_aae02_18 (by decide) (by rfl) (by rfl)
set_option maxRecDepth 100000 in
set_option maxHeartbeats 4000000 in
theorem c_J0_coder_7d493 (σ : Sg) (i : Nat) (hi : oi G i) : Ct l G yJ0_coder_7d493 cJ0_coder_7d493 1 (some .byte) 0 0 0 [.ref (G.2.2.2.1 i)] σ (some (.int (I32 0))) (σ) := by
  refine Ct.of (by decide +kernel) (Nat.le_of_ble_eq_true rfl) (fun f => ?_)
  show AW _ _ _ _ _ _ _ _ _ _ [(0, _)] _ _
  refine A_gsi fk_J0_38 dJ0_coder_7d493_0 ?_
  refine A_if_eq (tgt := 13) dJ0_coder_7d493_3 (by decide) ⟨by decide, by decide⟩ (fun h => absurd h (by decide)) (fun _ => ?_)
  refine A_aload_n dJ0_coder_7d493_6 rfl 0 rfl ?_
  refine A_kcod hi fk_J0_15 dJ0_coder_7d493_7 ?_
  refine A_goto (tgt := 14) dJ0_coder_7d493_10 (by decide) ?_
  exact A_nret dJ0_coder_7d493_14 (by decide) (by rfl) (by rfl)
set_option maxRecDepth 100000 in
set_option maxHeartbeats 4000000 in
theorem c_J0_length_8abf5 (σ : Sg) (i : Nat) (hi : oi G i) : Ct l G yJ0_length_8abf5 cJ0_length_8abf5 1 (some .int) 1 0 0 [.ref (G.2.2.2.1 i)] σ (some (.int (I32 (kl i)))) (σ) := by
  refine Ct.of (by decide +kernel) (Nat.le_of_ble_eq_true rfl) (fun f => ?_)
  show AW _ _ _ _ _ _ _ _ _ _ [(0, _)] _ _
  refine A_aload_n dJ0_length_8abf5_0 rfl 0 rfl ?_
  refine A_kval hi fk_J0_9 dJ0_length_8abf5_1 ?_
  refine A_klen hi dJ0_length_8abf5_4 ?_
  refine A_aload_n dJ0_length_8abf5_5 rfl 0 rfl ?_
  refine A_Ka0 hi mv_J0_335 rfl (c_J0_coder_7d493 _ _ (by first | assumption | exact oi_c (by decide) | decide | omega)) (Nat.le_of_ble_eq_true rfl) (by omega) (by omega) dJ0_length_8abf5_6 ?_
  refine A_ishr dJ0_length_8abf5_9 ?_
  exact A_iret dJ0_length_8abf5_10 (by rw [klL_ish i hi.lt]) (by rfl)
set_option maxRecDepth 100000 in
set_option maxHeartbeats 4000000 in
theorem c_J3_checkIndex_8e157 (σ : Sg) (x y : Int) (t : Nat) (h : 0 ≤ i32 x ∧ i32 x < i32 y) : Ct l G yJ3_checkIndex_8e157 cJ3_checkIndex_8e157 3 (some .int) 0 0 0 [.int (I32 x), .int (I32 y), .ref t] σ (some (.int (I32 x))) (σ) := by
  refine Ct.of (by decide +kernel) (Nat.le_of_ble_eq_true rfl) (fun f => ?_)
  show AW _ _ _ _ _ _ _ _ _ _ [(0, _), (1, _), (2, _)] _ _
  refine A_iload_n dJ3_checkIndex_8e157_0 rfl 0 rfl ?_
  refine J_if_lt (tgt := 9) dJ3_checkIndex_8e157_1 (by decide) (by first | exact i32_eq (by assumption) | exact i32_eq ⟨by omega, by omega⟩ | with_reducible exact i32_i32 _ | with_reducible exact i32_eq (b2i_inr _) | rfl) (fun h1 => ?_) (fun h1 => ?_)
  · exfalso; omega
  · refine A_iload_n dJ3_checkIndex_8e157_4 rfl 0 rfl ?_
    refine A_iload_n dJ3_checkIndex_8e157_5 rfl 1 rfl ?_
    refine J_icmp_lt (tgt := 16) dJ3_checkIndex_8e157_6 (by decide) (by first | exact i32_eq (by assumption) | exact i32_eq ⟨by omega, by omega⟩ | with_reducible exact i32_i32 _ | with_reducible exact i32_eq (b2i_inr _) | rfl) (by first | exact i32_eq (by assumption) | exact i32_eq ⟨by omega, by omega⟩ | with_reducible exact i32_i32 _ | with_reducible exact i32_eq (b2i_inr _) | rfl) (fun h6 => ?_) (fun h6 => ?_)
    · refine A_iload_n dJ3_checkIndex_8e157_16 rfl 0 rfl ?_
      exact A_iret dJ3_checkIndex_8e157_17 (by rfl) (by rfl)
    · exfalso; omega
set_option maxRecDepth 100000 in
set_option maxHeartbeats 4000000 in
theorem c_J3_checkIndexN_8e157 (σ : Sg) (x y : Int) (h : 0 ≤ i32 x ∧ i32 x < i32 y) : Ct l G yJ3_checkIndex_8e157 cJ3_checkIndex_8e157 3 (some .int) 0 0 0 [.int (I32 x), .int (I32 y), .null] σ (some (.int (I32 x))) (σ) := by
  refine Ct.of (by decide +kernel) (Nat.le_of_ble_eq_true rfl) (fun f => ?_)
  show AW _ _ _ _ _ _ _ _ _ _ [(0, _), (1, _), (2, _)] _ _
  refine A_iload_n dJ3_checkIndex_8e157_0 rfl 0 rfl ?_
  refine J_if_lt (tgt := 9) dJ3_checkIndex_8e157_1 (by decide) (by first | exact i32_eq (by assumption) | exact i32_eq ⟨by omega, by omega⟩ | with_reducible exact i32_i32 _ | with_reducible exact i32_eq (b2i_inr _) | rfl) (fun h1 => ?_) (fun h1 => ?_)
  · exfalso; omega
  · refine A_iload_n dJ3_checkIndex_8e157_4 rfl 0 rfl ?_
    refine A_iload_n dJ3_checkIndex_8e157_5 rfl 1 rfl ?_
    refine J_icmp_lt (tgt := 16) dJ3_checkIndex_8e157_6 (by decide) (by first | exact i32_eq (by assumption) | exact i32_eq ⟨by omega, by omega⟩ | with_reducible exact i32_i32 _ | with_reducible exact i32_eq (b2i_inr _) | rfl) (by first | exact i32_eq (by assumption) | exact i32_eq ⟨by omega, by omega⟩ | with_reducible exact i32_i32 _ | with_reducible exact i32_eq (b2i_inr _) | rfl) (fun h6 => ?_) (fun h6 => ?_)
    · refine A_iload_n dJ3_checkIndex_8e157_16 rfl 0 rfl ?_
      exact A_iret dJ3_checkIndex_8e157_17 (by rfl) (by rfl)
    · exfalso; omega
set_option maxRecDepth 100000 in
set_option maxHeartbeats 4000000 in
theorem c_J0_checkIndex_df160 (σ : Sg) (x y : Int) (h : 0 ≤ i32 x ∧ i32 x < i32 y) : Ct l G yJ0_checkIndex_df160 cJ0_checkIndex_df160 2 none 1 0 0 [.int (I32 x), .int (I32 y)] σ (none) (σ) := by
  refine Ct.of (by decide +kernel) (Nat.le_of_ble_eq_true rfl) (fun f => ?_)
  show AW _ _ _ _ _ _ _ _ _ _ [(0, _), (1, _)] _ _
  refine A_iload_n dJ0_checkIndex_df160_0 rfl 0 rfl ?_
  refine A_iload_n dJ0_checkIndex_df160_1 rfl 1 rfl ?_
  refine A_gsf fk_J0_1053 dJ0_checkIndex_df160_2 ?_ (fun tf => ?_)
  · refine A_Ta3 mt_J0_1059 (c_J3_checkIndexN_8e157 _ _ _ (by first | assumption | exact oi_c (by decide) | decide | omega)) (Nat.le_of_ble_eq_true rfl) (by omega) (by omega) dJ0_checkIndex_df160_5 ?_
    refine A_pop dJ0_checkIndex_df160_8 rfl ?_
    exact A_vret dJ0_checkIndex_df160_9 (by rfl) (by rfl)
  · refine A_Ta3 mt_J0_1059 (c_J3_checkIndex_8e157 _ _ _ _ (by first | assumption | exact oi_c (by decide) | decide | omega)) (Nat.le_of_ble_eq_true rfl) (by omega) (by omega) dJ0_checkIndex_df160_5 ?_
    refine A_pop dJ0_checkIndex_df160_8 rfl ?_
    exact A_vret dJ0_checkIndex_df160_9 (by rfl) (by rfl)
set_option maxRecDepth 100000 in
set_option maxHeartbeats 4000000 in
theorem c_J1_charAt_3b067 (σ : Sg) (i : Nat) (x : Int) (hi : oi G i) (h : 0 ≤ i32 x ∧ i32 x < kl i) : Ct l G yJ1_charAt_3b067 cJ1_charAt_3b067 2 (some .char) 2 0 0 [.ref (G.2.2.2.2.1 i), .int (I32 x)] σ (some (.int (I32 (kb i (i32 x).toNat)))) (σ) := by
  have e0 := klL_i32 i hi.lt
  refine Ct.of (by decide +kernel) (Nat.le_of_ble_eq_true rfl) (fun f => ?_)
  show AW _ _ _ _ _ _ _ _ _ _ [(0, _), (1, _)] _ _
  refine A_iload_n dJ1_charAt_3b067_0 rfl 1 rfl ?_
  refine A_aload_n dJ1_charAt_3b067_1 rfl 0 rfl ?_
  refine A_klen hi dJ1_charAt_3b067_2 ?_
  refine A_Tv2 mt_J1_9 (c_J0_checkIndex_df160 _ _ _ (by first | assumption | exact oi_c (by decide) | decide | omega)) (Nat.le_of_ble_eq_true rfl) (by omega) (by omega) dJ1_charAt_3b067_3 ?_
  refine A_aload_n dJ1_charAt_3b067_6 rfl 0 rfl ?_
  refine A_iload_n dJ1_charAt_3b067_7 rfl 1 rfl ?_
  refine A_kbald hi (by first | exact i32_eq (by assumption) | exact i32_eq ⟨by omega, by omega⟩ | with_reducible exact i32_i32 _ | with_reducible exact i32_eq (b2i_inr _) | rfl) (by omega) (by omega) dJ1_charAt_3b067_8 ?_
  refine A_sipush dJ1_charAt_3b067_9 (by decide +kernel) ?_
  refine A_iand dJ1_charAt_3b067_12 ?_
  refine A_i2c dJ1_charAt_3b067_13 ?_
  exact A_nret dJ1_charAt_3b067_14 (by rw [kbL_ch hi.lt h]; exact nar_chz (kbL_nar hi.lt h)) (by rw [kbL_ch hi.lt h]) (by rfl)
set_option maxRecDepth 100000 in
set_option maxHeartbeats 4000000 in
theorem c_J0_charAt_5068e (σ : Sg) (i : Nat) (x : Int) (hi : oi G i) (h : 0 ≤ i32 x ∧ i32 x < kl i) : Ct l G yJ0_charAt_5068e cJ0_charAt_5068e 2 (some .char) 3 0 0 [.ref (G.2.2.2.1 i), .int (I32 x)] σ (some (.int (I32 (kb i (i32 x).toNat)))) (σ) := by
  refine Ct.of (by decide +kernel) (Nat.le_of_ble_eq_true rfl) (fun f => ?_)
  show AW _ _ _ _ _ _ _ _ _ _ [(0, _), (1, _)] _ _
  refine A_aload_n dJ0_charAt_5068e_0 rfl 0 rfl ?_
  refine A_Ka0 hi mv_J0_492 rfl (c_J0_isLatin1_aae02 _ _ (by first | assumption | exact oi_c (by decide) | decide | omega)) (Nat.le_of_ble_eq_true rfl) (by omega) (by omega) dJ0_charAt_5068e_1 ?_
  refine A_if_eq (tgt := 16) dJ0_charAt_5068e_4 (by decide) ⟨by decide, by decide⟩ (fun h => absurd h (by decide)) (fun _ => ?_)
  refine A_aload_n dJ0_charAt_5068e_7 rfl 0 rfl ?_
  refine A_kval hi fk_J0_9 dJ0_charAt_5068e_8 ?_
  refine A_iload_n dJ0_charAt_5068e_11 rfl 1 rfl ?_
  refine A_Ta2 mt_J0_495 (c_J1_charAt_3b067 _ _ _ (by first | assumption | exact oi_c (by decide) | decide | omega) (by first | assumption | exact oi_c (by decide) | decide | omega)) (Nat.le_of_ble_eq_true rfl) (by omega) (by omega) dJ0_charAt_5068e_12 ?_
  exact A_nret dJ0_charAt_5068e_15 (nar_chz (kbL_nar hi.lt h)) (by rfl) (by rfl)
set_option maxRecDepth 100000 in
set_option maxHeartbeats 4000000 in
theorem c_J1_canEncode_9a6ad (σ : Sg) (c : Int)  : Ct l G yJ1_canEncode_9a6ad cJ1_canEncode_9a6ad 1 (some .boolean) 0 0 0 [.int (I32 c)] σ (some (.int (I32 (b2i (decide (0 ≤ i32 c ∧ i32 c ≤ 255)))))) (σ) := by
  refine Ct.of (by decide +kernel) (Nat.le_of_ble_eq_true rfl) (fun f => ?_)
  show AW _ _ _ _ _ _ _ _ _ _ [(0, _)] _ _
  refine A_iload_n dJ1_canEncode_9a6ad_0 rfl 0 rfl ?_
  refine J_if_lt (tgt := 15) dJ1_canEncode_9a6ad_1 (by decide) (by first | exact i32_eq (by assumption) | exact i32_eq ⟨by omega, by omega⟩ | with_reducible exact i32_i32 _ | with_reducible exact i32_eq (b2i_inr _) | rfl) (fun h1 => ?_) (fun h1 => ?_)
  · refine A_iconst dJ1_canEncode_9a6ad_15 ?_
    exact A_zret2 dJ1_canEncode_9a6ad_16 (by decide) (by first | (rw [decide_eq_true (by omega), b2i_t]; done) | (rw [decide_eq_false (by omega), b2i_f]; done)) (by rfl)
  · refine A_iload_n dJ1_canEncode_9a6ad_4 rfl 0 rfl ?_
    refine A_sipush dJ1_canEncode_9a6ad_5 (by decide +kernel) ?_
    refine J_icmp_gt (tgt := 15) dJ1_canEncode_9a6ad_8 (by decide) (by first | exact i32_eq (by assumption) | exact i32_eq ⟨by omega, by omega⟩ | with_reducible exact i32_i32 _ | with_reducible exact i32_eq (b2i_inr _) | rfl) (by first | exact i32_eq (by assumption) | exact i32_eq ⟨by omega, by omega⟩ | with_reducible exact i32_i32 _ | with_reducible exact i32_eq (b2i_inr _) | rfl) (fun h8 => ?_) (fun h8 => ?_)
    · refine A_iconst dJ1_canEncode_9a6ad_15 ?_
      exact A_zret2 dJ1_canEncode_9a6ad_16 (by decide) (by first | (rw [decide_eq_true (by omega), b2i_t]; done) | (rw [decide_eq_false (by omega), b2i_f]; done)) (by rfl)
    · refine A_iconst dJ1_canEncode_9a6ad_11 ?_
      refine A_goto (tgt := 16) dJ1_canEncode_9a6ad_12 (by decide) ?_
      exact A_zret2 dJ1_canEncode_9a6ad_16 (by decide) (by first | (rw [decide_eq_true (by omega), b2i_t]; done) | (rw [decide_eq_false (by omega), b2i_f]; done)) (by rfl)
set_option maxRecDepth 100000 in
set_option maxHeartbeats 4000000 in
theorem w_J1_ioc {f : Fm} (σ : Sg) (i : Nat) (c : Int) (hi : oi G i) : ∀ (n : Nat) (j : Int) (r : Option Value), 0 ≤ j → j + n = kl i → r = some (.int (I32 (ixF i c n j))) → AW l G f (RJ1, cJ1_indexOfChar_4cfef, 6, (some .int)) (0, 0, 0) (QT G f 0 0 r σ) [] 0 0 7 [(5, .int (I32 j)), (0, .ref (G.2.2.2.2.1 i)), (3, .int (I32 (kl i))), (4, .int (I32 (i2b c)))] [] σ := by
  intro n
  induction n using Nat.strongRecOn with | _ n ih =>
  intro j r h0 hn hr
  have hz0 := klL_0 i hi.lt
  have hz1 := klL_i32 i hi.lt
  refine A_iload dJ1_indexOfChar_4cfef_7 0 rfl ?_
  refine A_iload_n dJ1_indexOfChar_4cfef_9 rfl 2 rfl ?_
  refine J_icmp_ge (tgt := 31) dJ1_indexOfChar_4cfef_10 (by decide) (by first | exact i32_eq (by assumption) | exact i32_eq ⟨by omega, by omega⟩ | exact hz1 | rfl) (by first | exact i32_eq (by assumption) | exact i32_eq ⟨by omega, by omega⟩ | exact hz1 | rfl) (fun h10 => ?_) (fun h10 => ?_)
  · refine A_iconst dJ1_indexOfChar_4cfef_31 ?_
    exact A_iret dJ1_indexOfChar_4cfef_32 (by rw [hr]; have hz0 := klL_0 i hi.lt; have hz1 := klL_i32 i hi.lt; cases n <;> simp only [ixF] <;> (repeat' split) <;> first | rfl | contradiction | (exfalso; omega)) (by rfl)
  · refine A_aload_n dJ1_indexOfChar_4cfef_13 rfl 1 rfl ?_
    refine A_iload dJ1_indexOfChar_4cfef_14 0 rfl ?_
    refine A_kbald hi (by first | exact i32_eq (by assumption) | exact i32_eq ⟨by omega, by omega⟩ | exact hz1 | rfl) (by omega) (by omega) dJ1_indexOfChar_4cfef_16 ?_
    refine A_iload dJ1_indexOfChar_4cfef_17 3 rfl ?_
    refine J_icmp_ne (tgt := 25) dJ1_indexOfChar_4cfef_19 (by decide) (by first | exact i32_eq (by assumption) | exact i32_eq ⟨by omega, by omega⟩ | exact hz1 | rfl) (by first | exact i32_eq (by assumption) | exact i32_eq ⟨by omega, by omega⟩ | exact hz1 | rfl) (fun h19 => ?_) (fun h19 => ?_)
    · refine A_iinc (lv2 := [(5, _), (0, _), (3, _), (4, _)]) dJ1_indexOfChar_4cfef_25 0 rfl (by decide) rfl ?_
      refine A_goto (tgt := 7) dJ1_indexOfChar_4cfef_28 (by decide) ?_
      refine A_lv [0, 1, 2, 3] rfl ?_
      exact ih (n - 1) (by omega) (j + 1) r (by omega) (by omega) (by rw [hr]; cases n with
        | zero => exfalso; omega
        | succ n => simp only [ixF, Nat.add_sub_cancel]; rw [if_neg (by assumption)])
    · refine A_iload dJ1_indexOfChar_4cfef_22 0 rfl ?_
      exact A_iret dJ1_indexOfChar_4cfef_24 (by rw [hr]; have hz0 := klL_0 i hi.lt; have hz1 := klL_i32 i hi.lt; cases n <;> simp only [ixF] <;> (repeat' split) <;> first | rfl | contradiction | (exfalso; omega)) (by rfl)
set_option maxRecDepth 100000 in
set_option maxHeartbeats 4000000 in
theorem c_J1_indexOfChar_4cfef (σ : Sg) (i : Nat) (c : Int) (hi : oi G i) : Ct l G yJ1_indexOfChar_4cfef cJ1_indexOfChar_4cfef 6 (some .int) 0 0 0 [.ref (G.2.2.2.2.1 i), .int (I32 c), .int (I32 0), .int (I32 (kl i))] σ (some (.int (I32 (ixF i c (kl i).toNat 0)))) (σ) := by
  refine Ct.of (by decide +kernel) (Nat.le_of_ble_eq_true rfl) (fun f => ?_)
  show AW _ _ _ _ _ _ _ _ _ _ [(0, _), (1, _), (2, _), (3, _)] _ _
  refine A_iload_n dJ1_indexOfChar_4cfef_0 rfl 1 rfl ?_
  refine A_i2b dJ1_indexOfChar_4cfef_1 ?_
  refine A_istore (lv2 := [(4, _), (0, _), (1, _), (2, _), (3, _)]) dJ1_indexOfChar_4cfef_2 (by decide) rfl ?_
  refine A_iload_n dJ1_indexOfChar_4cfef_4 rfl 3 rfl ?_
  refine A_istore (lv2 := [(5, _), (4, _), (0, _), (1, _), (2, _), (3, _)]) dJ1_indexOfChar_4cfef_5 (by decide) rfl ?_
  refine A_lv [0, 2, 5, 1] rfl ?_
  exact w_J1_ioc σ i c hi (kl i).toNat 0 _ (by omega) (by have := klL_0 i hi.lt; omega) rfl
set_option maxRecDepth 100000 in
set_option maxHeartbeats 4000000 in
theorem c_J1_indexOf_4cfef (σ : Sg) (i : Nat) (c : Int) (hi : oi G i) : Ct l G yJ1_indexOf_4cfef cJ1_indexOf_4cfef 4 (some .int) 1 0 0 [.ref (G.2.2.2.2.1 i), .int (I32 c), .int (I32 0), .int (I32 (kl i))] σ (some (.int (I32 (ioC i c)))) (σ) := by
  have hz0 := klL_0 i hi.lt
  have hz1 := klL_i32 i hi.lt
  have hzz : i32 0 = 0 := rfl
  refine Ct.of (by decide +kernel) (Nat.le_of_ble_eq_true rfl) (fun f => ?_)
  show AW _ _ _ _ _ _ _ _ _ _ [(0, _), (1, _), (2, _), (3, _)] _ _
  refine A_iload_n dJ1_indexOf_4cfef_0 rfl 1 rfl ?_
  refine A_Sa1 ms_J1_88 (c_J1_canEncode_9a6ad _ _) (Nat.le_of_ble_eq_true rfl) (by omega) (by omega) dJ1_indexOf_4cfef_1 ?_
  refine A_ifne_b (tgt := 9) dJ1_indexOf_4cfef_4 (by decide) (fun h4 => ?_) (fun h4 => ?_)
  · refine A_iload_n dJ1_indexOf_4cfef_9 rfl 2 rfl ?_
    refine A_iconst dJ1_indexOf_4cfef_10 ?_
    refine A_max mx_J1_92 (by first | exact i32_eq (by assumption) | exact i32_eq ⟨by omega, by omega⟩ | exact hz1 | rfl) (by first | exact i32_eq (by assumption) | exact i32_eq ⟨by omega, by omega⟩ | exact hz1 | rfl) (Nat.le_of_ble_eq_true rfl) (by omega) (by omega) dJ1_indexOf_4cfef_11 ?_
    have e11 : max (0 : Int) 0 = 0 := rfl
    rw [e11]
    refine A_istore_n (lv2 := [(2, _), (0, _), (1, _), (3, _)]) dJ1_indexOf_4cfef_14 rfl (by decide) rfl ?_
    refine A_iload_n dJ1_indexOf_4cfef_15 rfl 3 rfl ?_
    refine A_aload_n dJ1_indexOf_4cfef_16 rfl 1 rfl ?_
    refine A_klen hi dJ1_indexOf_4cfef_17 ?_
    refine A_min mm_J1_38 (by first | exact i32_eq (by assumption) | exact i32_eq ⟨by omega, by omega⟩ | exact hz1 | rfl) (by first | exact i32_eq (by assumption) | exact i32_eq ⟨by omega, by omega⟩ | exact hz1 | rfl) (Nat.le_of_ble_eq_true rfl) (by omega) (by omega) dJ1_indexOf_4cfef_18 ?_
    first | rw [show min (kl i) (kl i) = kl i from by omega] | rw [show min (i32 (kl i)) (i32 (kl i)) = kl i from by omega]
    refine A_istore_n (lv2 := [(3, _), (2, _), (0, _), (1, _)]) dJ1_indexOf_4cfef_21 rfl (by decide) rfl ?_
    refine A_iload_n dJ1_indexOf_4cfef_22 rfl 1 rfl ?_
    refine A_iload_n dJ1_indexOf_4cfef_23 rfl 0 rfl ?_
    refine J_icmp_lt (tgt := 29) dJ1_indexOf_4cfef_24 (by decide) (by first | exact i32_eq (by assumption) | exact i32_eq ⟨by omega, by omega⟩ | exact hz1 | rfl) (by first | exact i32_eq (by assumption) | exact i32_eq ⟨by omega, by omega⟩ | exact hz1 | rfl) (fun h24 => ?_) (fun h24 => ?_)
    · refine A_aload_n dJ1_indexOf_4cfef_29 rfl 2 rfl ?_
      refine A_iload_n dJ1_indexOf_4cfef_30 rfl 3 rfl ?_
      refine A_iload_n dJ1_indexOf_4cfef_31 rfl 1 rfl ?_
      refine A_iload_n dJ1_indexOf_4cfef_32 rfl 0 rfl ?_
      refine A_Sa4 ms_J1_95 (c_J1_indexOfChar_4cfef σ i c hi) (Nat.le_of_ble_eq_true rfl) (by omega) (by omega) dJ1_indexOf_4cfef_33 ?_
      exact A_iret dJ1_indexOf_4cfef_36 (by simp only [ioC]; first | (rw [if_pos (of_decide_eq_true (by assumption))]; done) | (rw [if_neg (of_decide_eq_false (by assumption))]; done)) (by rfl)
    · exfalso; omega
      --end
  · refine A_iconst dJ1_indexOf_4cfef_7 ?_
    exact A_iret dJ1_indexOf_4cfef_8 (by simp only [ioC]; first | (rw [if_pos (of_decide_eq_true (by assumption))]; done) | (rw [if_neg (of_decide_eq_false (by assumption))]; done)) (by rfl)
set_option maxRecDepth 100000 in
set_option maxHeartbeats 4000000 in
theorem c_J0_indexOf_7cf53 (σ : Sg) (i : Nat) (c : Int) (hi : oi G i) : Ct l G yJ0_indexOf_7cf53 cJ0_indexOf_7cf53 3 (some .int) 2 0 0 [.ref (G.2.2.2.1 i), .int (I32 c), .int (I32 0)] σ (some (.int (I32 (ioC i c)))) (σ) := by
  refine Ct.of (by decide +kernel) (Nat.le_of_ble_eq_true rfl) (fun f => ?_)
  show AW _ _ _ _ _ _ _ _ _ _ [(0, _), (1, _), (2, _)] _ _
  refine A_aload_n dJ0_indexOf_7cf53_0 rfl 0 rfl ?_
  refine A_Ka0 hi mv_J0_492 rfl (c_J0_isLatin1_aae02 _ _ (by first | assumption | exact oi_c (by decide) | decide | omega)) (Nat.le_of_ble_eq_true rfl) (by omega) (by omega) dJ0_indexOf_7cf53_1 ?_
  refine A_if_eq (tgt := 23) dJ0_indexOf_7cf53_4 (by decide) ⟨by decide, by decide⟩ (fun h => absurd h (by decide)) (fun _ => ?_)
  refine A_aload_n dJ0_indexOf_7cf53_7 rfl 0 rfl ?_
  refine A_kval hi fk_J0_9 dJ0_indexOf_7cf53_8 ?_
  refine A_iload_n dJ0_indexOf_7cf53_11 rfl 1 rfl ?_
  refine A_iload_n dJ0_indexOf_7cf53_12 rfl 2 rfl ?_
  refine A_aload_n dJ0_indexOf_7cf53_13 rfl 0 rfl ?_
  refine A_Ka0 hi mv_J0_505 rfl (c_J0_length_8abf5 _ _ (by first | assumption | exact oi_c (by decide) | decide | omega)) (Nat.le_of_ble_eq_true rfl) (by omega) (by omega) dJ0_indexOf_7cf53_14 ?_
  refine A_Ta4 mt_J0_637 (c_J1_indexOf_4cfef _ _ _ (by first | assumption | exact oi_c (by decide) | decide | omega)) (Nat.le_of_ble_eq_true rfl) (by omega) (by omega) dJ0_indexOf_7cf53_17 ?_
  refine A_goto (tgt := 36) dJ0_indexOf_7cf53_20 (by decide) ?_
  exact A_iret dJ0_indexOf_7cf53_36 (by rfl) (by rfl)
set_option maxRecDepth 100000 in
set_option maxHeartbeats 4000000 in
theorem c_J0_indexOf_0f7a4 (σ : Sg) (i : Nat) (c : Int) (hi : oi G i) : Ct l G yJ0_indexOf_0f7a4 cJ0_indexOf_0f7a4 2 (some .int) 3 0 0 [.ref (G.2.2.2.1 i), .int (I32 c)] σ (some (.int (I32 (ioC i c)))) (σ) := by
  refine Ct.of (by decide +kernel) (Nat.le_of_ble_eq_true rfl) (fun f => ?_)
  show AW _ _ _ _ _ _ _ _ _ _ [(0, _), (1, _)] _ _
  refine A_aload_n dJ0_indexOf_0f7a4_0 rfl 0 rfl ?_
  refine A_iload_n dJ0_indexOf_0f7a4_1 rfl 1 rfl ?_
  refine A_iconst dJ0_indexOf_0f7a4_2 ?_
  refine A_Ka2 hi mv_J0_633 rfl (c_J0_indexOf_7cf53 _ _ _ (by first | assumption | exact oi_c (by decide) | decide | omega)) (Nat.le_of_ble_eq_true rfl) (by omega) (by omega) dJ0_indexOf_0f7a4_3 ?_
  exact A_iret dJ0_indexOf_0f7a4_6 (by rfl) (by rfl)
theorem rwF_bd (σ : Sg) : ∀ (n : Nat) (e c : Int), e ≤ (rwF σ n e c).1 ∧ (rwF σ n e c).1 ≤ max e 1500
  | 0, e, c => ⟨Int.le_refl _, by simp only [rwF]; omega⟩
  | n + 1, e, c => by
    simp only [rwF]
    split
    · have := rwF_bd σ n (e + 1) (c * 27 + i32 (byteC σ e - 97 + 1)); omega
    · exact ⟨Int.le_refl _, by simp only []; omega⟩
theorem rnF_bd (σ : Sg) : ∀ (n : Nat) (e c : Int), e ≤ (rnF σ n e c).1 ∧ (rnF σ n e c).1 ≤ max e 1500
  | 0, e, c => ⟨Int.le_refl _, by simp only [rnF]; omega⟩
  | n + 1, e, c => by
    simp only [rnF]
    split
    · have := rnF_bd σ n (e + 1) (c * 10 + i32 (byteC σ e) - 48); omega
    · exact ⟨Int.le_refl _, by simp only []; omega⟩
def syC (σ : Sg) (p : Int) : Int := if 0 ≤ i32 (ioC 23 (i2c (byteC σ p))) then 17 + ioC 23 (i2c (byteC σ p)) else 24
def raC (σ : Sg) (p : Int) : Int × Sg :=
  if i32 (byteC σ p) = 32 ∨ i32 (byteC σ p) = 10 then (p + 1, σ)
  else if isLet (byteC σ p) = true then ((rwC σ p).1, rwS σ p (rwC σ p))
  else if isDig (byteC σ p) = true then ((rnC σ p).1, rnS σ p (rnC σ p))
  else (p + 1, apC σ (syC σ p) p 0)
theorem raC_bd (σ : Sg) (p : Int) (h : 0 ≤ p ∧ p < 1500) : 0 ≤ (raC σ p).1 ∧ (raC σ p).1 ≤ 1500 := by
  unfold raC
  split
  · simp only []; omega
  · split
    · have := rwF_bd σ (1500 - p).toNat p 0; simp only [rwC]; omega
    · split
      · have := rnF_bd σ (1500 - p).toNat p 0; simp only [rnC]; omega
      · simp only []; omega
theorem apC_len (σ : Sg) (k s v : Int) : apC σ k s v 1 1 = σ 1 1 := by
  unfold apC
  split
  · rfl
  · rfl
theorem raC_len (σ : Sg) (p : Int) : (raC σ p).2 1 1 = σ 1 1 := by
  unfold raC
  split
  · rfl
  · split
    · exact apC_len _ _ _ _
    · split
      · exact apC_len _ _ _ _
      · exact apC_len _ _ _ _
def rdF : Nat → Int → Sg → Sg
  | 0, _, σ => σ
  | n + 1, p, σ => if p < i32 (σ 1 1) then rdF n (raC σ p).1 (raC σ p).2 else σ
def rdE (σ : Sg) : Sg := apC σ 25 (σ 1 1) 0
def readC (σ : Sg) : Sg := rdE (rdF 1500 0 (up σ 3 4 0))
set_option maxRecDepth 100000 in
set_option maxHeartbeats 4000000 in
theorem c_X9_readAt (σ : Sg) (p : Int) (hp : 0 ≤ p ∧ p < 1500) : Ct l G yX9_readAt cX9_readAt 5 (some .int) 4 0 0 [.ref (lay G 3), .ref (lay G 1), .int (I32 p)] σ (some (.int (I32 (raC σ p).1))) ((raC σ p).2) := by
  refine Ct.of (by decide +kernel) (Nat.le_of_ble_eq_true rfl) (fun f => ?_)
  show AW _ _ _ _ _ _ _ _ _ _ [(0, _), (1, _), (2, _)] _ _
  refine A_aload_n dX9_readAt_0 rfl 1 rfl ?_
  refine A_iload_n dX9_readAt_1 rfl 2 rfl ?_
  refine A_Va1 mv_X9_57 lk_1 rfl rfl (c_X8_byteAt _ _) (Nat.le_of_ble_eq_true rfl) (by omega) (by omega) dX9_readAt_2 ?_
  refine A_istore_n (lv2 := [(3, _), (0, _), (1, _), (2, _)]) dX9_readAt_5 rfl (by decide) rfl ?_
  refine A_iload_n dX9_readAt_6 rfl 0 rfl ?_
  refine A_bipush dX9_readAt_7 (by decide +kernel) ?_
  refine J_icmp_eq (tgt := 18) dX9_readAt_9 (by decide) (by first | exact i32_eq (by assumption) | exact i32_eq ⟨by omega, by omega⟩ | with_reducible exact i32_i32 _ | with_reducible exact i32_eq (b2i_inr _) | rfl) (by first | exact i32_eq (by assumption) | exact i32_eq ⟨by omega, by omega⟩ | with_reducible exact i32_i32 _ | with_reducible exact i32_eq (b2i_inr _) | rfl) (fun h9 => ?_) (fun h9 => ?_)
  · refine A_iload_n dX9_readAt_18 rfl 3 rfl ?_
    refine A_iconst dX9_readAt_19 ?_
    refine A_iadd dX9_readAt_20 ?_
    exact A_iret dX9_readAt_21 (by simp only [raC]; (repeat' split) <;> first | contradiction | (exfalso; omega) | (exfalso; simp_all; done) | rfl) (by simp only [raC, syC]; (repeat' split) <;> first | contradiction | (exfalso; omega) | (exfalso; simp_all; done) | rfl)
  · refine A_iload_n dX9_readAt_12 rfl 0 rfl ?_
    refine A_bipush dX9_readAt_13 (by decide +kernel) ?_
    refine J_icmp_ne (tgt := 22) dX9_readAt_15 (by decide) (by first | exact i32_eq (by assumption) | exact i32_eq ⟨by omega, by omega⟩ | with_reducible exact i32_i32 _ | with_reducible exact i32_eq (b2i_inr _) | rfl) (by first | exact i32_eq (by assumption) | exact i32_eq ⟨by omega, by omega⟩ | with_reducible exact i32_i32 _ | with_reducible exact i32_eq (b2i_inr _) | rfl) (fun h15 => ?_) (fun h15 => ?_)
    · refine A_iload_n dX9_readAt_22 rfl 0 rfl ?_
      refine A_Sa1 ms_X9_61 (c_X9_isLetter _ _) (Nat.le_of_ble_eq_true rfl) (by omega) (by omega) dX9_readAt_23 ?_
      refine A_ifeq_b (tgt := 36) dX9_readAt_26 (by decide) (fun h26 => ?_) (fun h26 => ?_)
      · refine A_iload_n dX9_readAt_36 rfl 0 rfl ?_
        refine A_Sa1 ms_X9_68 (c_X9_isDigit _ _) (Nat.le_of_ble_eq_true rfl) (by omega) (by omega) dX9_readAt_37 ?_
        refine A_ifeq_b (tgt := 50) dX9_readAt_40 (by decide) (fun h40 => ?_) (fun h40 => ?_)
        · refine A_ldcs (i := 23) (by decide +kernel) dX9_readAt_50 ?_
          refine A_iload_n dX9_readAt_52 rfl 0 rfl ?_
          refine A_i2c dX9_readAt_53 ?_
          refine A_Ka1 (oi_c (by decide)) mv_X9_76 rfl (c_J0_indexOf_0f7a4 _ _ _ (by first | assumption | exact oi_c (by decide) | decide | omega)) (Nat.le_of_ble_eq_true rfl) (by omega) (by omega) dX9_readAt_54 ?_
          refine A_istore (lv2 := [(4, _), (3, _), (0, _), (1, _), (2, _)]) dX9_readAt_57 (by decide) rfl ?_
          refine A_aload_n dX9_readAt_59 rfl 2 rfl ?_
          refine A_iload dX9_readAt_60 0 rfl ?_
          refine J_if_lt (tgt := 73) dX9_readAt_62 (by decide) (by first | exact i32_eq (by assumption) | exact i32_eq ⟨by omega, by omega⟩ | with_reducible exact i32_i32 _ | with_reducible exact i32_eq (b2i_inr _) | rfl) (fun h62 => ?_) (fun h62 => ?_)
          · refine A_bipush dX9_readAt_73 (by decide +kernel) ?_
            refine A_iload_n dX9_readAt_75 rfl 4 rfl ?_
            refine A_lconst (w := 0) dX9_readAt_76 rfl ?_
            refine A_Vv3 mv_X9_53 lk_3 rfl rfl (c_X9_append _ _ _ _) (Nat.le_of_ble_eq_true rfl) (by omega) (by omega) dX9_readAt_77 ?_
            refine A_iload_n dX9_readAt_80 rfl 4 rfl ?_
            refine A_iconst dX9_readAt_81 ?_
            refine A_iadd dX9_readAt_82 ?_
            exact A_iret dX9_readAt_83 (by simp only [raC]; (repeat' split) <;> first | contradiction | (exfalso; omega) | (exfalso; simp_all; done) | rfl) (by simp only [raC, syC]; (repeat' split) <;> first | contradiction | (exfalso; omega) | (exfalso; simp_all; done) | rfl)
          · refine A_bipush dX9_readAt_65 (by decide +kernel) ?_
            refine A_iload dX9_readAt_67 0 rfl ?_
            refine A_iadd dX9_readAt_69 ?_
            refine A_goto (tgt := 75) dX9_readAt_70 (by decide) ?_
            refine A_iload_n dX9_readAt_75 rfl 4 rfl ?_
            refine A_lconst (w := 0) dX9_readAt_76 rfl ?_
            refine A_Vv3 mv_X9_53 lk_3 rfl rfl (c_X9_append _ _ _ _) (Nat.le_of_ble_eq_true rfl) (by omega) (by omega) dX9_readAt_77 ?_
            refine A_iload_n dX9_readAt_80 rfl 4 rfl ?_
            refine A_iconst dX9_readAt_81 ?_
            refine A_iadd dX9_readAt_82 ?_
            exact A_iret dX9_readAt_83 (by simp only [raC]; (repeat' split) <;> first | contradiction | (exfalso; omega) | (exfalso; simp_all; done) | rfl) (by simp only [raC, syC]; (repeat' split) <;> first | contradiction | (exfalso; omega) | (exfalso; simp_all; done) | rfl)
        · refine A_aload_n dX9_readAt_43 rfl 1 rfl ?_
          refine A_aload_n dX9_readAt_44 rfl 2 rfl ?_
          refine A_iload_n dX9_readAt_45 rfl 3 rfl ?_
          refine A_Va2 mv_X9_71 lk_3 rfl rfl (c_X9_readNumber σ p hp) (Nat.le_of_ble_eq_true rfl) (by omega) (by omega) dX9_readAt_46 ?_
          exact A_iret dX9_readAt_49 (by simp only [raC]; (repeat' split) <;> first | contradiction | (exfalso; omega) | (exfalso; simp_all; done) | rfl) (by simp only [raC, syC]; (repeat' split) <;> first | contradiction | (exfalso; omega) | (exfalso; simp_all; done) | rfl)
      · refine A_aload_n dX9_readAt_29 rfl 1 rfl ?_
        refine A_aload_n dX9_readAt_30 rfl 2 rfl ?_
        refine A_iload_n dX9_readAt_31 rfl 3 rfl ?_
        refine A_Va2 mv_X9_65 lk_3 rfl rfl (c_X9_readWord σ p hp) (Nat.le_of_ble_eq_true rfl) (by omega) (by omega) dX9_readAt_32 ?_
        exact A_iret dX9_readAt_35 (by simp only [raC]; (repeat' split) <;> first | contradiction | (exfalso; omega) | (exfalso; simp_all; done) | rfl) (by simp only [raC, syC]; (repeat' split) <;> first | contradiction | (exfalso; omega) | (exfalso; simp_all; done) | rfl)
    · refine A_iload_n dX9_readAt_18 rfl 3 rfl ?_
      refine A_iconst dX9_readAt_19 ?_
      refine A_iadd dX9_readAt_20 ?_
      exact A_iret dX9_readAt_21 (by simp only [raC]; (repeat' split) <;> first | contradiction | (exfalso; omega) | (exfalso; simp_all; done) | rfl) (by simp only [raC, syC]; (repeat' split) <;> first | contradiction | (exfalso; omega) | (exfalso; simp_all; done) | rfl)
set_option maxRecDepth 100000 in
set_option maxHeartbeats 4000000 in
theorem w_X9_read {f : Fm} : ∀ (n : Nat) (i p : Int) (σ σ1 : Sg), 0 ≤ i → i + n = 1500 → 0 ≤ p ∧ p ≤ 1500 → i32 (σ 1 1) ≤ 1500 → σ1 = rdE (rdF n p σ) → AW l G f (RX9, cX9_read, 4, none) (5, 0, 0) (QT G f 0 0 none σ1) [] 0 0 9 [(3, .int (I32 i)), (2, .int (I32 p)), (0, .ref (lay G 3)), (1, .ref (lay G 1))] [] σ := by
  intro n
  induction n using Nat.strongRecOn with | _ n ih =>
  intro i p σ σ1 h0 hn hp hl hs
  refine A_iload_n dX9_read_9 rfl 0 rfl ?_
  refine A_sipush dX9_read_10 (by decide +kernel) ?_
  refine J_icmp_ge (tgt := 37) dX9_read_13 (by decide) (by first | exact i32_eq (by assumption) | exact i32_eq ⟨by omega, by omega⟩ | with_reducible exact i32_i32 _ | with_reducible exact i32_eq (b2i_inr _) | rfl) (by first | exact i32_eq (by assumption) | exact i32_eq ⟨by omega, by omega⟩ | with_reducible exact i32_i32 _ | with_reducible exact i32_eq (b2i_inr _) | rfl) (fun h13 => ?_) (fun h13 => ?_)
  · refine A_aload_n dX9_read_37 rfl 2 rfl ?_
    refine A_bipush dX9_read_38 (by decide +kernel) ?_
    refine A_aload_n dX9_read_40 rfl 3 rfl ?_
    refine A_geti fl_X9_47 lk_1 rfl dX9_read_41 ?_
    refine A_lconst (w := 0) dX9_read_44 rfl ?_
    refine A_Vv3 mv_X9_53 lk_3 rfl rfl (c_X9_append _ _ _ _) (Nat.le_of_ble_eq_true rfl) (by omega) (by omega) dX9_read_45 ?_
    exact A_vret dX9_read_48 (by rfl) (by rw [hs]; clear ih; cases n with | zero => rfl | succ n => simp only [rdF]; first | (rw [if_neg (by omega)]; rfl) | (exfalso; omega))
  · refine A_iload_n dX9_read_16 rfl 1 rfl ?_
    refine A_aload_n dX9_read_17 rfl 3 rfl ?_
    refine A_geti fl_X9_47 lk_1 rfl dX9_read_18 ?_
    refine J_icmp_ge (tgt := 37) dX9_read_21 (by decide) (by first | exact i32_eq (by assumption) | exact i32_eq ⟨by omega, by omega⟩ | with_reducible exact i32_i32 _ | with_reducible exact i32_eq (b2i_inr _) | rfl) (by first | exact i32_eq (by assumption) | exact i32_eq ⟨by omega, by omega⟩ | with_reducible exact i32_i32 _ | with_reducible exact i32_eq (b2i_inr _) | rfl) (fun h21 => ?_) (fun h21 => ?_)
    · refine A_aload_n dX9_read_37 rfl 2 rfl ?_
      refine A_bipush dX9_read_38 (by decide +kernel) ?_
      refine A_aload_n dX9_read_40 rfl 3 rfl ?_
      refine A_geti fl_X9_47 lk_1 rfl dX9_read_41 ?_
      refine A_lconst (w := 0) dX9_read_44 rfl ?_
      refine A_Vv3 mv_X9_53 lk_3 rfl rfl (c_X9_append _ _ _ _) (Nat.le_of_ble_eq_true rfl) (by omega) (by omega) dX9_read_45 ?_
      exact A_vret dX9_read_48 (by rfl) (by rw [hs]; clear ih; cases n with | zero => rfl | succ n => simp only [rdF]; first | (rw [if_neg (by omega)]; rfl) | (exfalso; omega))
    · refine A_aload_n dX9_read_24 rfl 2 rfl ?_
      refine A_aload_n dX9_read_25 rfl 3 rfl ?_
      refine A_iload_n dX9_read_26 rfl 1 rfl ?_
      refine A_Va2 mv_X9_49 lk_3 rfl rfl (c_X9_readAt _ _ (by omega)) (Nat.le_of_ble_eq_true rfl) (by omega) (by omega) dX9_read_27 ?_
      refine A_istore_n (lv2 := [(2, _), (3, _), (0, _), (1, _)]) dX9_read_30 rfl (by decide) rfl ?_
      refine A_iinc (lv2 := [(3, _), (2, _), (0, _), (1, _)]) dX9_read_31 1 rfl (by decide) rfl ?_
      refine A_goto (tgt := 9) dX9_read_34 (by decide) ?_
      refine A_lv [0, 1, 2, 3] rfl ?_
      refine ih (n - 1) (by omega) (i + 1) _ _ σ1 (by omega) (by omega) (raC_bd σ p ⟨by omega, by omega⟩) (by rw [raC_len]; exact hl) ?_
      rw [hs]; clear ih
      obtain ⟨n, rfl⟩ : ∃ q, n = q + 1 := ⟨n - 1, by omega⟩
      simp only [rdF, Nat.add_sub_cancel]
      rw [if_pos (by omega)]
set_option maxRecDepth 100000 in
set_option maxHeartbeats 4000000 in
theorem c_X9_read (σ : Sg) (hl : i32 (σ 1 1) ≤ 1500) : Ct l G yX9_read cX9_read 4 none 5 0 0 [.ref (lay G 3), .ref (lay G 1)] σ (none) (readC σ) := by
  refine Ct.of (by decide +kernel) (Nat.le_of_ble_eq_true rfl) (fun f => ?_)
  show AW _ _ _ _ _ _ _ _ _ _ [(0, _), (1, _)] _ _
  refine A_aload_n dX9_read_0 rfl 0 rfl ?_
  refine A_iconst dX9_read_1 ?_
  refine A_puti fl_X9_43 lk_3 rfl dX9_read_2 ?_
  refine A_iconst dX9_read_5 ?_
  refine A_istore_n (lv2 := [(2, _), (0, _), (1, _)]) dX9_read_6 rfl (by decide) rfl ?_
  refine A_iconst dX9_read_7 ?_
  refine A_istore_n (lv2 := [(3, _), (2, _), (0, _), (1, _)]) dX9_read_8 rfl (by decide) rfl ?_
  refine A_lv [0, 1, 2, 3] rfl ?_
  exact w_X9_read 1500 0 0 _ _ (by omega) (by omega) ⟨by omega, by omega⟩ hl rfl
end S23
