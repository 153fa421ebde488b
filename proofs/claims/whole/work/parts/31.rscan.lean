/-! the reference: leaves -/
section S31
variable {l : Launch} {G : Gx}
def Rb (σ : Sg) : Prop := (0 ≤ σ 84 2 ∧ σ 84 2 ≤ 1500) ∧ ∀ j, 0 ≤ σ 85 j ∧ σ 85 j ≤ 255
def Rt (σ : Sg) : Prop := ∀ j, (0 ≤ σ 86 j ∧ σ 86 j ≤ 4) ∧ (0 ≤ σ 87 j ∧ σ 87 j ≤ σ 88 j ∧ σ 88 j ≤ 1500)
def inR (v lo hi : Int) : Bool := decide (i32 lo ≤ i32 v ∧ i32 v ≤ i32 hi)
def isSym (c : Int) : Bool := decide (i32 c = 59 ∨ i32 c = 58 ∨ i32 c = 44 ∨ i32 c = 40 ∨ i32 c = 41)
def bR (σ : Sg) (k : Int) : Int := if k < σ 84 2 then σ 85 k.toNat else -1
theorem i32_n (n : Int) (h : -1000000 ≤ n ∧ n ≤ 1000000) : i32 n = n := i32_eq ⟨by omega, by omega⟩
theorem inR_l (c : Int) : inR c 97 122 = isLet c := by unfold inR isLet; rw [i32_n 97 (by decide), i32_n 122 (by decide)]
theorem inR_d (c : Int) : inR c 48 57 = isDig c := by unfold inR isDig; rw [i32_n 48 (by decide), i32_n 57 (by decide)]
theorem bR_in {σ : Sg} (h : Rb σ) (k : Int) : -1 ≤ bR σ k ∧ bR σ k ≤ 255 := by
  unfold bR
  split
  · have := h.2 k.toNat; omega
  · omega
theorem bR_i32 {σ : Sg} (h : Rb σ) (k : Int) : i32 (bR σ k) = bR σ k := i32_n _ (by have := bR_in h k; omega)
theorem bR_end {σ : Sg} {k : Int} (h : σ 84 2 ≤ k) : bR σ k = -1 := by unfold bR; rw [if_neg (by omega)]
theorem bR_let {σ : Sg} {k : Int} (h : isLet (bR σ k) = true) : k < σ 84 2 := by
  by_cases e : k < σ 84 2
  · exact e
  · rw [bR_end (by omega)] at h; exact absurd h (by decide +kernel)
theorem bR_dig {σ : Sg} {k : Int} (h : isDig (bR σ k) = true) : k < σ 84 2 := by
  by_cases e : k < σ 84 2
  · exact e
  · rw [bR_end (by omega)] at h; exact absurd h (by decide +kernel)
def skF (B : Int → Int) : Nat → Int → Int
  | 0, p => p
  | n + 1, p => if B p = 32 ∨ B p = 10 then skF B n (p + 1) else p
def ltF (B : Int → Int) (P : Int → Bool) : Nat → Int → Int
  | 0, q => q
  | n + 1, q => if P (B q) = true then ltF B P n (q + 1) else q
theorem skF_bd (σ : Sg) : ∀ (n : Nat) (p : Int), p ≤ σ 84 2 → p ≤ skF (bR σ) n p ∧ skF (bR σ) n p ≤ σ 84 2
  | 0, p, h => ⟨Int.le_refl _, h⟩
  | n + 1, p, h => by
    simp only [skF]
    split
    · rename_i c
      have hp : p < σ 84 2 := by
        by_cases e : p < σ 84 2
        · exact e
        · rw [bR_end (by omega)] at c; omega
      have := skF_bd σ n (p + 1) (by omega)
      omega
    · omega
theorem ltF_bd (σ : Sg) (P : Int → Bool) (hP : ∀ k, P (bR σ k) = true → k < σ 84 2) : ∀ (n : Nat) (p : Int), p ≤ σ 84 2 → p ≤ ltF (bR σ) P n p ∧ ltF (bR σ) P n p ≤ σ 84 2
  | 0, p, h => ⟨Int.le_refl _, h⟩
  | n + 1, p, h => by
    simp only [ltF]
    split
    · rename_i c
      have hp := hP _ c
      have := ltF_bd σ P hP n (p + 1) (by omega)
      omega
    · omega
theorem ltF_gt (σ : Sg) (P : Int → Bool) (hP : ∀ k, P (bR σ k) = true → k < σ 84 2) (p : Int) (h : P (bR σ p) = true) : p + 1 ≤ ltF (bR σ) P 1500 p := by
  have e : ltF (bR σ) P 1500 p = ltF (bR σ) P 1499 (p + 1) := by
    show (if P (bR σ p) = true then _ else _) = _
    rw [if_pos h]
  rw [e]
  exact (ltF_bd σ P hP 1499 (p + 1) (by have := hP _ h; omega)).1
def tk2 (B : Int → Int) (len p : Int) : Int × Int × Int := if isLet (B p) = true then (if ltF B isLet 1500 p - p ≤ 10 then 1 else 4, p, ltF B isLet 1500 p) else if isDig (B p) = true then (if ltF B isDig 1500 p - p ≤ 4 then 2 else 4, p, ltF B isDig 1500 p) else if p < len then (if isSym (B p) = true then 3 else 4, p, p + 1) else (0, p, p)
def tkR (σ : Sg) (p : Int) : Int × Int × Int := tk2 (bR σ) (σ 84 2) (skF (bR σ) 1500 p)
def scP (σ : Sg) (n : Int) (x : Int × Int × Int) : Sg := up (up (up σ 86 n.toNat x.1) 87 n.toNat x.2.1) 88 n.toNat x.2.2
def scF : Nat → Int → Int → Sg → Sg
  | 0, _, _, σ => σ
  | m + 1, n, p, σ => if (tkR σ p).1 = 0 then scP σ n (tkR σ p) else scF m (n + 1) (tkR σ p).2.2 (scP σ n (tkR σ p))
def scC (σ : Sg) : Sg := scF 1501 0 0 σ
theorem scP_b (σ : Sg) (n : Int) (x : Int × Int × Int) (h : Rb σ) : Rb (scP σ n x) := h
/-- the token, by cases -/
theorem tkR_w {σ : Sg} {p : Int} {k : Int} (h1 : isLet (bR σ (skF (bR σ) 1500 p)) = true) (hk : (if ltF (bR σ) isLet 1500 (skF (bR σ) 1500 p) - skF (bR σ) 1500 p ≤ 10 then (1 : Int) else 4) = k) : tkR σ p = (k, skF (bR σ) 1500 p, ltF (bR σ) isLet 1500 (skF (bR σ) 1500 p)) := by
  unfold tkR tk2; rw [if_pos h1, hk]
theorem tkR_d {σ : Sg} {p : Int} {k : Int} (h1 : isLet (bR σ (skF (bR σ) 1500 p)) = false) (h2 : isDig (bR σ (skF (bR σ) 1500 p)) = true) (hk : (if ltF (bR σ) isDig 1500 (skF (bR σ) 1500 p) - skF (bR σ) 1500 p ≤ 4 then (2 : Int) else 4) = k) : tkR σ p = (k, skF (bR σ) 1500 p, ltF (bR σ) isDig 1500 (skF (bR σ) 1500 p)) := by
  unfold tkR tk2; rw [if_neg (by rw [h1]; decide), if_pos h2, hk]
theorem tkR_s {σ : Sg} {p : Int} {k : Int} (h1 : isLet (bR σ (skF (bR σ) 1500 p)) = false) (h2 : isDig (bR σ (skF (bR σ) 1500 p)) = false) (h3 : skF (bR σ) 1500 p < σ 84 2) (hk : (if isSym (bR σ (skF (bR σ) 1500 p)) = true then (3 : Int) else 4) = k) : tkR σ p = (k, skF (bR σ) 1500 p, skF (bR σ) 1500 p + 1) := by
  unfold tkR tk2; rw [if_neg (by rw [h1]; decide), if_neg (by rw [h2]; decide), if_pos h3, hk]
theorem tkR_e {σ : Sg} {p : Int} (h1 : isLet (bR σ (skF (bR σ) 1500 p)) = false) (h2 : isDig (bR σ (skF (bR σ) 1500 p)) = false) (h3 : σ 84 2 ≤ skF (bR σ) 1500 p) : tkR σ p = (0, skF (bR σ) 1500 p, skF (bR σ) 1500 p) := by
  unfold tkR tk2; rw [if_neg (by rw [h1]; decide), if_neg (by rw [h2]; decide), if_neg (by omega)]
theorem scF_go {σ σ1 : Sg} {m : Nat} {n p k a z : Int} (hm : 0 < m) (hs : σ1 = scF m n p σ) (e : tkR σ p = (k, a, z)) (hk : k ≠ 0) : σ1 = scF (m - 1) (n + 1) z (up (up (up σ 86 n.toNat k) 87 n.toNat a) 88 n.toNat z) := by
  obtain ⟨m, rfl⟩ : ∃ q, m = q + 1 := ⟨m - 1, by omega⟩
  rw [hs, Nat.add_sub_cancel]
  show (if (tkR σ p).1 = 0 then _ else _) = _
  rw [e, if_neg hk]; rfl
theorem scF_end {σ σ1 : Sg} {m : Nat} {n p a z : Int} (hm : 0 < m) (hs : σ1 = scF m n p σ) (e : tkR σ p = (0, a, z)) : σ1 = up (up (up σ 86 n.toNat 0) 87 n.toNat a) 88 n.toNat z := by
  obtain ⟨m, rfl⟩ : ∃ q, m = q + 1 := ⟨m - 1, by omega⟩
  rw [hs]
  show (if (tkR σ p).1 = 0 then _ else _) = _
  rw [e, if_pos rfl]; rfl
set_option maxRecDepth 100000 in
set_option maxHeartbeats 4000000 in
theorem c_X11_thrown (σ : Sg)  : Ct l G yX11_thrown cX11_thrown 1 (some .int) 0 0 0 [.ref (lay G 84)] σ (some (.int (I32 (σ 84 0)))) (σ) := by
  refine Ct.of (by decide +kernel) (Nat.le_of_ble_eq_true rfl) (fun f => ?_)
  show AW _ _ _ _ _ _ _ _ _ _ [(0, _)] _ _
  refine A_aload_n dX11_thrown_0 rfl 0 rfl ?_
  refine A_geti fl_X11_96 lk_84 rfl dX11_thrown_1 ?_
  exact A_iret dX11_thrown_4 (by rfl) (by rfl)
set_option maxRecDepth 100000 in
set_option maxHeartbeats 4000000 in
theorem c_X11_no (σ : Sg) (n : Int)  : Ct l G yX11_no cX11_no 2 (some .int) 0 0 0 [.ref (lay G 84), .int (I32 n)] σ (some (.int (I32 0))) (up σ 84 0 n) := by
  refine Ct.of (by decide +kernel) (Nat.le_of_ble_eq_true rfl) (fun f => ?_)
  show AW _ _ _ _ _ _ _ _ _ _ [(0, _), (1, _)] _ _
  refine A_aload_n dX11_no_0 rfl 0 rfl ?_
  refine A_iload_n dX11_no_1 rfl 1 rfl ?_
  refine A_puti fl_X11_96 lk_84 rfl dX11_no_2 ?_
  refine A_iconst dX11_no_5 ?_
  exact A_iret dX11_no_6 (by rfl) (by rfl)
set_option maxRecDepth 100000 in
set_option maxHeartbeats 4000000 in
theorem c_X11_isIn (σ : Sg) (v lo hi : Int)  : Ct l G yX11_isIn cX11_isIn 3 (some .boolean) 0 0 0 [.int (I32 v), .int (I32 lo), .int (I32 hi)] σ (some (.int (I32 (b2i (inR v lo hi))))) (σ) := by
  refine Ct.of (by decide +kernel) (Nat.le_of_ble_eq_true rfl) (fun f => ?_)
  show AW _ _ _ _ _ _ _ _ _ _ [(0, _), (1, _), (2, _)] _ _
  refine A_iload_n dX11_isIn_0 rfl 0 rfl ?_
  refine A_iload_n dX11_isIn_1 rfl 1 rfl ?_
  refine J_icmp_lt (tgt := 14) dX11_isIn_2 (by decide) (by first | exact i32_eq (by assumption) | exact i32_eq ⟨by omega, by omega⟩ | with_reducible exact i32_i32 _ | with_reducible exact i32_eq (b2i_inr _) | rfl) (by first | exact i32_eq (by assumption) | exact i32_eq ⟨by omega, by omega⟩ | with_reducible exact i32_i32 _ | with_reducible exact i32_eq (b2i_inr _) | rfl) (fun h2 => ?_) (fun h2 => ?_)
  · refine A_iconst dX11_isIn_14 ?_
    exact A_zret2 dX11_isIn_15 (by decide) (by simp only [inR]; first | (rw [decide_eq_true (by omega), b2i_t]; done) | (rw [decide_eq_false (by omega), b2i_f]; done)) (by rfl)
  · refine A_iload_n dX11_isIn_5 rfl 0 rfl ?_
    refine A_iload_n dX11_isIn_6 rfl 2 rfl ?_
    refine J_icmp_gt (tgt := 14) dX11_isIn_7 (by decide) (by first | exact i32_eq (by assumption) | exact i32_eq ⟨by omega, by omega⟩ | with_reducible exact i32_i32 _ | with_reducible exact i32_eq (b2i_inr _) | rfl) (by first | exact i32_eq (by assumption) | exact i32_eq ⟨by omega, by omega⟩ | with_reducible exact i32_i32 _ | with_reducible exact i32_eq (b2i_inr _) | rfl) (fun h7 => ?_) (fun h7 => ?_)
    · refine A_iconst dX11_isIn_14 ?_
      exact A_zret2 dX11_isIn_15 (by decide) (by simp only [inR]; first | (rw [decide_eq_true (by omega), b2i_t]; done) | (rw [decide_eq_false (by omega), b2i_f]; done)) (by rfl)
    · refine A_iconst dX11_isIn_10 ?_
      refine A_goto (tgt := 15) dX11_isIn_11 (by decide) ?_
      exact A_zret2 dX11_isIn_15 (by decide) (by simp only [inR]; first | (rw [decide_eq_true (by omega), b2i_t]; done) | (rw [decide_eq_false (by omega), b2i_f]; done)) (by rfl)
set_option maxRecDepth 100000 in
set_option maxHeartbeats 4000000 in
theorem c_X11_isLetter (σ : Sg) (c : Int)  : Ct l G yX11_isLetter cX11_isLetter 1 (some .boolean) 1 0 0 [.int (I32 c)] σ (some (.int (I32 (b2i (isLet c))))) (σ) := by
  refine Ct.of (by decide +kernel) (Nat.le_of_ble_eq_true rfl) (fun f => ?_)
  show AW _ _ _ _ _ _ _ _ _ _ [(0, _)] _ _
  refine A_iload_n dX11_isLetter_0 rfl 0 rfl ?_
  refine A_bipush dX11_isLetter_1 (by decide +kernel) ?_
  refine A_bipush dX11_isLetter_3 (by decide +kernel) ?_
  refine A_Sa3 ms_X11_106 (c_X11_isIn _ _ _ _) (Nat.le_of_ble_eq_true rfl) (by omega) (by omega) dX11_isLetter_5 ?_
  exact A_zret dX11_isLetter_8 (by rw [inR_l]) (by rfl)
set_option maxRecDepth 100000 in
set_option maxHeartbeats 4000000 in
theorem c_X11_isDigit (σ : Sg) (c : Int)  : Ct l G yX11_isDigit cX11_isDigit 1 (some .boolean) 1 0 0 [.int (I32 c)] σ (some (.int (I32 (b2i (isDig c))))) (σ) := by
  refine Ct.of (by decide +kernel) (Nat.le_of_ble_eq_true rfl) (fun f => ?_)
  show AW _ _ _ _ _ _ _ _ _ _ [(0, _)] _ _
  refine A_iload_n dX11_isDigit_0 rfl 0 rfl ?_
  refine A_bipush dX11_isDigit_1 (by decide +kernel) ?_
  refine A_bipush dX11_isDigit_3 (by decide +kernel) ?_
  refine A_Sa3 ms_X11_106 (c_X11_isIn _ _ _ _) (Nat.le_of_ble_eq_true rfl) (by omega) (by omega) dX11_isDigit_5 ?_
  exact A_zret dX11_isDigit_8 (by rw [inR_d]) (by rfl)
set_option maxRecDepth 100000 in
set_option maxHeartbeats 4000000 in
theorem c_X11_isSymbol (σ : Sg) (c : Int)  : Ct l G yX11_isSymbol cX11_isSymbol 1 (some .boolean) 0 0 0 [.int (I32 c)] σ (some (.int (I32 (b2i (isSym c))))) (σ) := by
  refine Ct.of (by decide +kernel) (Nat.le_of_ble_eq_true rfl) (fun f => ?_)
  show AW _ _ _ _ _ _ _ _ _ _ [(0, _)] _ _
  refine A_iload_n dX11_isSymbol_0 rfl 0 rfl ?_
  refine A_bipush dX11_isSymbol_1 (by decide +kernel) ?_
  refine J_icmp_eq (tgt := 30) dX11_isSymbol_3 (by decide) (by first | exact i32_eq (by assumption) | exact i32_eq ⟨by omega, by omega⟩ | with_reducible exact i32_i32 _ | with_reducible exact i32_eq (b2i_inr _) | rfl) (by first | exact i32_eq (by assumption) | exact i32_eq ⟨by omega, by omega⟩ | with_reducible exact i32_i32 _ | with_reducible exact i32_eq (b2i_inr _) | rfl) (fun h3 => ?_) (fun h3 => ?_)
  · refine A_iconst dX11_isSymbol_30 ?_
    refine A_goto (tgt := 35) dX11_isSymbol_31 (by decide) ?_
    exact A_zret2 dX11_isSymbol_35 (by decide) (by simp only [isSym]; first | (rw [decide_eq_true (by omega), b2i_t]; done) | (rw [decide_eq_false (by omega), b2i_f]; done)) (by rfl)
  · refine A_iload_n dX11_isSymbol_6 rfl 0 rfl ?_
    refine A_bipush dX11_isSymbol_7 (by decide +kernel) ?_
    refine J_icmp_eq (tgt := 30) dX11_isSymbol_9 (by decide) (by first | exact i32_eq (by assumption) | exact i32_eq ⟨by omega, by omega⟩ | with_reducible exact i32_i32 _ | with_reducible exact i32_eq (b2i_inr _) | rfl) (by first | exact i32_eq (by assumption) | exact i32_eq ⟨by omega, by omega⟩ | with_reducible exact i32_i32 _ | with_reducible exact i32_eq (b2i_inr _) | rfl) (fun h9 => ?_) (fun h9 => ?_)
    · refine A_iconst dX11_isSymbol_30 ?_
      refine A_goto (tgt := 35) dX11_isSymbol_31 (by decide) ?_
      exact A_zret2 dX11_isSymbol_35 (by decide) (by simp only [isSym]; first | (rw [decide_eq_true (by omega), b2i_t]; done) | (rw [decide_eq_false (by omega), b2i_f]; done)) (by rfl)
    · refine A_iload_n dX11_isSymbol_12 rfl 0 rfl ?_
      refine A_bipush dX11_isSymbol_13 (by decide +kernel) ?_
      refine J_icmp_eq (tgt := 30) dX11_isSymbol_15 (by decide) (by first | exact i32_eq (by assumption) | exact i32_eq ⟨by omega, by omega⟩ | with_reducible exact i32_i32 _ | with_reducible exact i32_eq (b2i_inr _) | rfl) (by first | exact i32_eq (by assumption) | exact i32_eq ⟨by omega, by omega⟩ | with_reducible exact i32_i32 _ | with_reducible exact i32_eq (b2i_inr _) | rfl) (fun h15 => ?_) (fun h15 => ?_)
      · refine A_iconst dX11_isSymbol_30 ?_
        refine A_goto (tgt := 35) dX11_isSymbol_31 (by decide) ?_
        exact A_zret2 dX11_isSymbol_35 (by decide) (by simp only [isSym]; first | (rw [decide_eq_true (by omega), b2i_t]; done) | (rw [decide_eq_false (by omega), b2i_f]; done)) (by rfl)
      · refine A_iload_n dX11_isSymbol_18 rfl 0 rfl ?_
        refine A_bipush dX11_isSymbol_19 (by decide +kernel) ?_
        refine J_icmp_eq (tgt := 30) dX11_isSymbol_21 (by decide) (by first | exact i32_eq (by assumption) | exact i32_eq ⟨by omega, by omega⟩ | with_reducible exact i32_i32 _ | with_reducible exact i32_eq (b2i_inr _) | rfl) (by first | exact i32_eq (by assumption) | exact i32_eq ⟨by omega, by omega⟩ | with_reducible exact i32_i32 _ | with_reducible exact i32_eq (b2i_inr _) | rfl) (fun h21 => ?_) (fun h21 => ?_)
        · refine A_iconst dX11_isSymbol_30 ?_
          refine A_goto (tgt := 35) dX11_isSymbol_31 (by decide) ?_
          exact A_zret2 dX11_isSymbol_35 (by decide) (by simp only [isSym]; first | (rw [decide_eq_true (by omega), b2i_t]; done) | (rw [decide_eq_false (by omega), b2i_f]; done)) (by rfl)
        · refine A_iload_n dX11_isSymbol_24 rfl 0 rfl ?_
          refine A_bipush dX11_isSymbol_25 (by decide +kernel) ?_
          refine J_icmp_ne (tgt := 34) dX11_isSymbol_27 (by decide) (by first | exact i32_eq (by assumption) | exact i32_eq ⟨by omega, by omega⟩ | with_reducible exact i32_i32 _ | with_reducible exact i32_eq (b2i_inr _) | rfl) (by first | exact i32_eq (by assumption) | exact i32_eq ⟨by omega, by omega⟩ | with_reducible exact i32_i32 _ | with_reducible exact i32_eq (b2i_inr _) | rfl) (fun h27 => ?_) (fun h27 => ?_)
          · refine A_iconst dX11_isSymbol_34 ?_
            exact A_zret2 dX11_isSymbol_35 (by decide) (by simp only [isSym]; first | (rw [decide_eq_true (by omega), b2i_t]; done) | (rw [decide_eq_false (by omega), b2i_f]; done)) (by rfl)
          · refine A_iconst dX11_isSymbol_30 ?_
            refine A_goto (tgt := 35) dX11_isSymbol_31 (by decide) ?_
            exact A_zret2 dX11_isSymbol_35 (by decide) (by simp only [isSym]; first | (rw [decide_eq_true (by omega), b2i_t]; done) | (rw [decide_eq_false (by omega), b2i_f]; done)) (by rfl)
set_option maxRecDepth 100000 in
set_option maxHeartbeats 4000000 in
theorem c_X11_byteAt (σ : Sg) (k : Int) (hb : Rb σ) (hk : 0 ≤ k ∧ k ≤ 1500) : Ct l G yX11_byteAt cX11_byteAt 2 (some .int) 0 0 0 [.ref (lay G 84), .int (I32 k)] σ (some (.int (I32 (bR σ k)))) (σ) := by
  obtain ⟨⟨hb1, hb2⟩, hb3⟩ := hb
  refine Ct.of (by decide +kernel) (Nat.le_of_ble_eq_true rfl) (fun f => ?_)
  show AW _ _ _ _ _ _ _ _ _ _ [(0, _), (1, _)] _ _
  refine A_iload_n dX11_byteAt_0 rfl 1 rfl ?_
  refine A_aload_n dX11_byteAt_1 rfl 0 rfl ?_
  refine A_geti fl_X11_99 lk_84 rfl dX11_byteAt_2 ?_
  refine J_icmp_ge (tgt := 17) dX11_byteAt_5 (by decide) (by first | exact i32_eq (by assumption) | exact i32_eq ⟨by omega, by omega⟩ | with_reducible exact i32_i32 _ | with_reducible exact i32_eq (b2i_inr _) | rfl) (by first | exact i32_eq (by assumption) | exact i32_eq ⟨by omega, by omega⟩ | with_reducible exact i32_i32 _ | with_reducible exact i32_eq (b2i_inr _) | rfl) (fun h5 => ?_) (fun h5 => ?_)
  · refine A_iconst dX11_byteAt_17 ?_
    exact A_iret dX11_byteAt_18 (by simp only [bR]; (repeat' split) <;> first | rfl | contradiction | (exfalso; omega) | (simp only [I32_i32, I64_i64]; done)) (by rfl)
  · refine A_aload_n dX11_byteAt_8 rfl 0 rfl ?_
    refine A_getr fl_X11_9 lk_84 rfl dX11_byteAt_9 ?_
    refine A_iload_n dX11_byteAt_12 rfl 1 rfl ?_
    refine J_iald lk_85 (by first | exact i32_eq (by assumption) | exact i32_eq ⟨by omega, by omega⟩ | with_reducible exact i32_i32 _ | with_reducible exact i32_eq (b2i_inr _) | rfl) (by omega) (by omega) (by decide) dX11_byteAt_13 ?_
    refine A_goto (tgt := 18) dX11_byteAt_14 (by decide) ?_
    exact A_iret dX11_byteAt_18 (by simp only [bR]; (repeat' split) <;> first | rfl | contradiction | (exfalso; omega) | (simp only [I32_i32, I64_i64]; done)) (by rfl)
set_option maxRecDepth 100000 in
set_option maxHeartbeats 4000000 in
theorem w_X11_sk {f : Fm} {Q : State → Prop} (σ : Sg) (hb : Rb σ) (m p : Int) : ∀ (n : Nat) (q : Int), 0 ≤ q → q ≤ σ 84 2 → σ 84 2 ≤ q + n → (AW l G f (RX11, cX11_scan, 6, none) (3, 0, 0) Q [] 0 0 36 [(2, .int (I32 (skF (bR σ) n q))), (1, .int (I32 m)), (3, .int (I32 1)), (0, .ref (lay G 84))] [] σ) → AW l G f (RX11, cX11_scan, 6, none) (3, 0, 0) (Q) [] 0 0 10 [(2, .int (I32 q)), (1, .int (I32 m)), (3, .int (I32 1)), (0, .ref (lay G 84))] [] σ := by
  obtain ⟨⟨hb1, hb2⟩, hb3⟩ := id hb
  intro n
  induction n using Nat.strongRecOn with | _ n ih =>
  intro q h0 h1 hn hK
  have hbe := @bR_end σ q
  refine A_aload_n dX11_scan_10 rfl 3 rfl ?_
  refine A_iload_n dX11_scan_11 rfl 0 rfl ?_
  refine A_Va1 mv_X11_110 lk_84 rfl rfl (c_X11_byteAt _ _ hb (by first | assumption | omega)) (Nat.le_of_ble_eq_true rfl) (by omega) (by omega) dX11_scan_12 ?_
  refine A_bipush dX11_scan_15 (by decide +kernel) ?_
  refine J_icmp_eq (tgt := 30) dX11_scan_17 (by decide) (by first | with_reducible exact bR_i32 hb _ | exact i32_eq ⟨by omega, by omega⟩ | with_reducible exact i32_i32 _ | rfl) (by first | with_reducible exact bR_i32 hb _ | exact i32_eq ⟨by omega, by omega⟩ | with_reducible exact i32_i32 _ | rfl) (fun h17 => ?_) (fun h17 => ?_)
  · refine A_iinc (lv2 := [(2, _), (1, _), (3, _), (0, _)]) dX11_scan_30 0 rfl (by decide) rfl ?_
    refine A_goto (tgt := 10) dX11_scan_33 (by decide) ?_
    refine A_lv [0, 1, 2, 3] rfl ?_
    refine ih (n - 1) (by omega) (q + 1) (by omega) (by omega) (by omega) ?_
    obtain ⟨n, rfl⟩ : ∃ m, n = m + 1 := ⟨n - 1, by omega⟩
    clear ih
    simp only [skF] at hK
    rw [if_pos (by omega)] at hK
    exact hK
  · refine A_aload_n dX11_scan_20 rfl 3 rfl ?_
    refine A_iload_n dX11_scan_21 rfl 0 rfl ?_
    refine A_Va1 mv_X11_110 lk_84 rfl rfl (c_X11_byteAt _ _ hb (by first | assumption | omega)) (Nat.le_of_ble_eq_true rfl) (by omega) (by omega) dX11_scan_22 ?_
    refine A_bipush dX11_scan_25 (by decide +kernel) ?_
    refine J_icmp_ne (tgt := 36) dX11_scan_27 (by decide) (by first | with_reducible exact bR_i32 hb _ | exact i32_eq ⟨by omega, by omega⟩ | with_reducible exact i32_i32 _ | rfl) (by first | with_reducible exact bR_i32 hb _ | exact i32_eq ⟨by omega, by omega⟩ | with_reducible exact i32_i32 _ | rfl) (fun h27 => ?_) (fun h27 => ?_)
    · refine A_lv [0, 1, 2, 3] rfl ?_
      clear ih
      rcases n with _ | n <;> simp only [skF] at hK
      · exact hK
      · rw [if_neg (by omega)] at hK; exact hK
    · refine A_iinc (lv2 := [(2, _), (1, _), (3, _), (0, _)]) dX11_scan_30 0 rfl (by decide) rfl ?_
      refine A_goto (tgt := 10) dX11_scan_33 (by decide) ?_
      refine A_lv [0, 1, 2, 3] rfl ?_
      refine ih (n - 1) (by omega) (q + 1) (by omega) (by omega) (by omega) ?_
      obtain ⟨n, rfl⟩ : ∃ m, n = m + 1 := ⟨n - 1, by omega⟩
      clear ih
      simp only [skF] at hK
      rw [if_pos (by omega)] at hK
      exact hK
set_option maxRecDepth 100000 in
set_option maxHeartbeats 4000000 in
theorem w_X11_lt {f : Fm} {Q : State → Prop} (σ : Sg) (hb : Rb σ) (m p : Int) : ∀ (n : Nat) (q : Int), 0 ≤ q → q ≤ σ 84 2 → σ 84 2 ≤ q + n → (AW l G f (RX11, cX11_scan, 6, none) (3, 0, 0) Q [] 0 0 71 [(4, .int (I32 (ltF (bR σ) isLet n q))), (1, .int (I32 m)), (2, .int (I32 p)), (3, .int (I32 1)), (5, .int (I32 0)), (0, .ref (lay G 84))] [] σ) → AW l G f (RX11, cX11_scan, 6, none) (3, 0, 0) (Q) [] 0 0 53 [(4, .int (I32 q)), (1, .int (I32 m)), (2, .int (I32 p)), (3, .int (I32 1)), (5, .int (I32 0)), (0, .ref (lay G 84))] [] σ := by
  obtain ⟨⟨hb1, hb2⟩, hb3⟩ := id hb
  intro n
  induction n using Nat.strongRecOn with | _ n ih =>
  intro q h0 h1 hn hK
  
  refine A_aload_n dX11_scan_53 rfl 5 rfl ?_
  refine A_iload dX11_scan_54 0 rfl ?_
  refine A_Va1 mv_X11_110 lk_84 rfl rfl (c_X11_byteAt _ _ hb (by first | assumption | omega)) (Nat.le_of_ble_eq_true rfl) (by omega) (by omega) dX11_scan_56 ?_
  refine A_Sa1 ms_X11_113 (c_X11_isLetter _ _) (Nat.le_of_ble_eq_true rfl) (by omega) (by omega) dX11_scan_59 ?_
  refine A_ifeq_b (tgt := 71) dX11_scan_62 (by decide) (fun h62 => ?_) (fun h62 => ?_)
  · refine A_lv [0, 1, 2, 3, 4, 5] rfl ?_
    clear ih
    rcases n with _ | n <;> simp only [ltF] at hK
    · exact hK
    · rw [if_neg (by rw [h62]; decide)] at hK; exact hK
  · refine A_iinc (lv2 := [(4, _), (1, _), (2, _), (3, _), (5, _), (0, _)]) dX11_scan_65 0 rfl (by decide) rfl ?_
    refine A_goto (tgt := 53) dX11_scan_68 (by decide) ?_
    refine A_lv [0, 1, 2, 3, 4, 5] rfl ?_
    have hq := bR_let h62
    refine ih (n - 1) (by omega) (q + 1) (by omega) (by omega) (by omega) ?_
    obtain ⟨n, rfl⟩ : ∃ m, n = m + 1 := ⟨n - 1, by omega⟩
    clear ih
    simp only [ltF] at hK
    rw [if_pos h62] at hK
    exact hK
set_option maxRecDepth 100000 in
set_option maxHeartbeats 4000000 in
theorem w_X11_dg {f : Fm} {Q : State → Prop} (σ : Sg) (hb : Rb σ) (m p : Int) : ∀ (n : Nat) (q : Int), 0 ≤ q → q ≤ σ 84 2 → σ 84 2 ≤ q + n → (AW l G f (RX11, cX11_scan, 6, none) (3, 0, 0) Q [] 0 0 119 [(4, .int (I32 (ltF (bR σ) isDig n q))), (1, .int (I32 m)), (2, .int (I32 p)), (3, .int (I32 1)), (5, .int (I32 0)), (0, .ref (lay G 84))] [] σ) → AW l G f (RX11, cX11_scan, 6, none) (3, 0, 0) (Q) [] 0 0 101 [(4, .int (I32 q)), (1, .int (I32 m)), (2, .int (I32 p)), (3, .int (I32 1)), (5, .int (I32 0)), (0, .ref (lay G 84))] [] σ := by
  obtain ⟨⟨hb1, hb2⟩, hb3⟩ := id hb
  intro n
  induction n using Nat.strongRecOn with | _ n ih =>
  intro q h0 h1 hn hK
  
  refine A_aload_n dX11_scan_101 rfl 5 rfl ?_
  refine A_iload dX11_scan_102 0 rfl ?_
  refine A_Va1 mv_X11_110 lk_84 rfl rfl (c_X11_byteAt _ _ hb (by first | assumption | omega)) (Nat.le_of_ble_eq_true rfl) (by omega) (by omega) dX11_scan_104 ?_
  refine A_Sa1 ms_X11_117 (c_X11_isDigit _ _) (Nat.le_of_ble_eq_true rfl) (by omega) (by omega) dX11_scan_107 ?_
  refine A_ifeq_b (tgt := 119) dX11_scan_110 (by decide) (fun h110 => ?_) (fun h110 => ?_)
  · refine A_lv [0, 1, 2, 3, 4, 5] rfl ?_
    clear ih
    rcases n with _ | n <;> simp only [ltF] at hK
    · exact hK
    · rw [if_neg (by rw [h110]; decide)] at hK; exact hK
  · refine A_iinc (lv2 := [(4, _), (1, _), (2, _), (3, _), (5, _), (0, _)]) dX11_scan_113 0 rfl (by decide) rfl ?_
    refine A_goto (tgt := 101) dX11_scan_116 (by decide) ?_
    refine A_lv [0, 1, 2, 3, 4, 5] rfl ?_
    have hq := bR_dig h110
    refine ih (n - 1) (by omega) (q + 1) (by omega) (by omega) (by omega) ?_
    obtain ⟨n, rfl⟩ : ∃ m, n = m + 1 := ⟨n - 1, by omega⟩
    clear ih
    simp only [ltF] at hK
    rw [if_pos h110] at hK
    exact hK
set_option maxRecDepth 100000 in
set_option maxHeartbeats 4000000 in
theorem w_X11_scan {f : Fm} : ∀ (m : Nat) (n p : Int) (σ σ1 : Sg), Rb σ → 0 ≤ n → n ≤ p → p ≤ σ 84 2 → σ 84 2 < p + m → σ1 = scF m n p σ → AW l G f (RX11, cX11_scan, 6, none) (3, 0, 0) (QT G f 0 0 none σ1) [] 0 0 6 [(3, .int (I32 1)), (1, .int (I32 n)), (2, .int (I32 p)), (0, .ref (lay G 84))] [] σ := by
  intro m
  induction m using Nat.strongRecOn with | _ m ih =>
  intro n p σ σ1 hb h0 h1 h2 hm hs
  obtain ⟨⟨hb1, hb2⟩, hb3⟩ := id hb
  have hsk := skF_bd σ 1500 p h2
  have hlt := ltF_bd σ isLet (fun _ => bR_let) 1500 (skF (bR σ) 1500 p) hsk.2
  have hdg := ltF_bd σ isDig (fun _ => bR_dig) 1500 (skF (bR σ) 1500 p) hsk.2
  refine A_iload_n dX11_scan_6 rfl 0 rfl ?_
  refine A_if_eq (tgt := 209) dX11_scan_7 (by decide) ⟨by decide, by decide⟩ (fun h => absurd h (by decide)) (fun _ => ?_)
  refine A_lv [2, 1, 0, 3] rfl ?_
  refine w_X11_sk σ hb n p 1500 p (by omega) (by omega) (by omega) ?_
  refine A_iload_n dX11_scan_36 rfl 0 rfl ?_
  refine A_istore (lv2 := [(4, _), (2, _), (1, _), (3, _), (0, _)]) dX11_scan_37 (by decide) rfl ?_
  refine A_iconst dX11_scan_39 ?_
  refine A_istore (lv2 := [(5, _), (4, _), (2, _), (1, _), (3, _), (0, _)]) dX11_scan_40 (by decide) rfl ?_
  refine A_aload_n dX11_scan_42 rfl 5 rfl ?_
  refine A_iload_n dX11_scan_43 rfl 2 rfl ?_
  refine A_Va1 mv_X11_110 lk_84 rfl rfl (c_X11_byteAt _ _ hb (by first | assumption | omega)) (Nat.le_of_ble_eq_true rfl) (by omega) (by omega) dX11_scan_44 ?_
  refine A_Sa1 ms_X11_113 (c_X11_isLetter _ _) (Nat.le_of_ble_eq_true rfl) (by omega) (by omega) dX11_scan_47 ?_
  refine A_ifeq_b (tgt := 90) dX11_scan_50 (by decide) (fun h50 => ?_) (fun h50 => ?_)
  · refine A_aload_n dX11_scan_90 rfl 5 rfl ?_
    refine A_iload_n dX11_scan_91 rfl 2 rfl ?_
    refine A_Va1 mv_X11_110 lk_84 rfl rfl (c_X11_byteAt _ _ hb (by first | assumption | omega)) (Nat.le_of_ble_eq_true rfl) (by omega) (by omega) dX11_scan_92 ?_
    refine A_Sa1 ms_X11_117 (c_X11_isDigit _ _) (Nat.le_of_ble_eq_true rfl) (by omega) (by omega) dX11_scan_95 ?_
    refine A_ifeq_b (tgt := 137) dX11_scan_98 (by decide) (fun h98 => ?_) (fun h98 => ?_)
    · refine A_iload_n dX11_scan_137 rfl 2 rfl ?_
      refine A_aload_n dX11_scan_138 rfl 5 rfl ?_
      refine A_geti fl_X11_99 lk_84 rfl dX11_scan_139 ?_
      try simp (disch := omega) only [up_k, up_j, up_s]
      refine J_icmp_ge (tgt := 166) dX11_scan_142 (by decide) (by first | with_reducible exact bR_i32 hb _ | exact i32_eq ⟨by omega, by omega⟩ | with_reducible exact i32_i32 _ | rfl) (by first | with_reducible exact bR_i32 hb _ | exact i32_eq ⟨by omega, by omega⟩ | with_reducible exact i32_i32 _ | rfl) (fun h142 => ?_) (fun h142 => ?_)
      · refine A_aload_n dX11_scan_166 rfl 5 rfl ?_
        refine A_getr fl_X11_17 lk_84 rfl dX11_scan_167 ?_
        refine A_iload_n dX11_scan_170 rfl 3 rfl ?_
        refine A_iload dX11_scan_171 0 rfl ?_
        refine J_iast lk_86 (by first | with_reducible exact bR_i32 hb _ | exact i32_eq ⟨by omega, by omega⟩ | with_reducible exact i32_i32 _ | rfl) (by omega) (by omega) (by decide) dX11_scan_173 ?_
        refine A_aload_n dX11_scan_174 rfl 5 rfl ?_
        refine A_getr fl_X11_20 lk_84 rfl dX11_scan_175 ?_
        refine A_iload_n dX11_scan_178 rfl 3 rfl ?_
        refine A_iload_n dX11_scan_179 rfl 2 rfl ?_
        refine J_iast lk_87 (by first | with_reducible exact bR_i32 hb _ | exact i32_eq ⟨by omega, by omega⟩ | with_reducible exact i32_i32 _ | rfl) (by omega) (by omega) (by decide) dX11_scan_180 ?_
        refine A_aload_n dX11_scan_181 rfl 5 rfl ?_
        refine A_getr fl_X11_23 lk_84 rfl dX11_scan_182 ?_
        refine A_iload_n dX11_scan_185 rfl 3 rfl ?_
        refine A_iload dX11_scan_186 1 rfl ?_
        refine J_iast lk_88 (by first | with_reducible exact bR_i32 hb _ | exact i32_eq ⟨by omega, by omega⟩ | with_reducible exact i32_i32 _ | rfl) (by omega) (by omega) (by decide) dX11_scan_188 ?_
        refine A_iinc (lv2 := [(1, _), (5, _), (4, _), (2, _), (3, _), (0, _)]) dX11_scan_189 3 rfl (by decide) rfl ?_
        refine A_iload dX11_scan_192 2 rfl ?_
        refine A_istore_n (lv2 := [(2, _), (1, _), (5, _), (4, _), (3, _), (0, _)]) dX11_scan_194 rfl (by decide) rfl ?_
        refine A_iload dX11_scan_195 2 rfl ?_
        refine A_if_eq (tgt := 204) dX11_scan_197 (by decide) ⟨by decide, by decide⟩ (fun _ => ?_) (fun h => absurd h (by decide))
        refine A_iconst dX11_scan_204 ?_
        refine A_istore_n (lv2 := [(3, _), (2, _), (1, _), (5, _), (4, _), (0, _)]) dX11_scan_205 rfl (by decide) rfl ?_
        refine A_goto (tgt := 6) dX11_scan_206 (by decide) ?_
        refine A_lv [0, 2, 1, 5] rfl ?_
        have e2 := scF_end (by omega) hs (tkR_e h50 h98 (by omega))
        refine A_iload_n dX11_scan_6 rfl 0 rfl ?_
        refine A_if_eq (tgt := 209) dX11_scan_7 (by decide) ⟨by decide, by decide⟩ (fun _ => ?_) (fun h => absurd rfl h)
        exact A_vret dX11_scan_209 rfl e2
      · have eT := fun k => @tkR_s σ p k h50 h98 h142
        refine A_iinc (lv2 := [(4, _), (5, _), (2, _), (1, _), (3, _), (0, _)]) dX11_scan_145 1 rfl (by decide) rfl ?_
        refine A_aload_n dX11_scan_148 rfl 5 rfl ?_
        refine A_iload_n dX11_scan_149 rfl 2 rfl ?_
        refine A_Va1 mv_X11_110 lk_84 rfl rfl (c_X11_byteAt _ _ hb (by first | assumption | omega)) (Nat.le_of_ble_eq_true rfl) (by omega) (by omega) dX11_scan_150 ?_
        refine A_Sa1 ms_X11_120 (c_X11_isSymbol _ _) (Nat.le_of_ble_eq_true rfl) (by omega) (by omega) dX11_scan_153 ?_
        refine A_ifeq_b (tgt := 163) dX11_scan_156 (by decide) (fun h156 => ?_) (fun h156 => ?_)
        · refine A_iconst dX11_scan_163 ?_
          refine A_istore (lv2 := [(5, _), (4, _), (2, _), (1, _), (3, _), (0, _)]) dX11_scan_164 (by decide) rfl ?_
          refine A_aload_n dX11_scan_166 rfl 5 rfl ?_
          refine A_getr fl_X11_17 lk_84 rfl dX11_scan_167 ?_
          refine A_iload_n dX11_scan_170 rfl 3 rfl ?_
          refine A_iload dX11_scan_171 0 rfl ?_
          refine J_iast lk_86 (by first | with_reducible exact bR_i32 hb _ | exact i32_eq ⟨by omega, by omega⟩ | with_reducible exact i32_i32 _ | rfl) (by omega) (by omega) (by decide) dX11_scan_173 ?_
          refine A_aload_n dX11_scan_174 rfl 5 rfl ?_
          refine A_getr fl_X11_20 lk_84 rfl dX11_scan_175 ?_
          refine A_iload_n dX11_scan_178 rfl 3 rfl ?_
          refine A_iload_n dX11_scan_179 rfl 2 rfl ?_
          refine J_iast lk_87 (by first | with_reducible exact bR_i32 hb _ | exact i32_eq ⟨by omega, by omega⟩ | with_reducible exact i32_i32 _ | rfl) (by omega) (by omega) (by decide) dX11_scan_180 ?_
          refine A_aload_n dX11_scan_181 rfl 5 rfl ?_
          refine A_getr fl_X11_23 lk_84 rfl dX11_scan_182 ?_
          refine A_iload_n dX11_scan_185 rfl 3 rfl ?_
          refine A_iload dX11_scan_186 1 rfl ?_
          refine J_iast lk_88 (by first | with_reducible exact bR_i32 hb _ | exact i32_eq ⟨by omega, by omega⟩ | with_reducible exact i32_i32 _ | rfl) (by omega) (by omega) (by decide) dX11_scan_188 ?_
          refine A_iinc (lv2 := [(1, _), (5, _), (4, _), (2, _), (3, _), (0, _)]) dX11_scan_189 3 rfl (by decide) rfl ?_
          refine A_iload dX11_scan_192 2 rfl ?_
          refine A_istore_n (lv2 := [(2, _), (1, _), (5, _), (4, _), (3, _), (0, _)]) dX11_scan_194 rfl (by decide) rfl ?_
          refine A_iload dX11_scan_195 2 rfl ?_
          refine A_if_eq (tgt := 204) dX11_scan_197 (by decide) ⟨by decide, by decide⟩ (fun h => absurd h (by decide)) (fun _ => ?_)
          refine A_iconst dX11_scan_200 ?_
          refine A_goto (tgt := 205) dX11_scan_201 (by decide) ?_
          refine A_istore_n (lv2 := [(3, _), (2, _), (1, _), (5, _), (4, _), (0, _)]) dX11_scan_205 rfl (by decide) rfl ?_
          refine A_goto (tgt := 6) dX11_scan_206 (by decide) ?_
          refine A_lv [0, 2, 1, 5] rfl ?_
          have e2 := scF_go (by omega) hs (eT 4 (by first | (rw [if_pos (by first | assumption | omega)]; done) | (rw [if_neg (by first | omega | simp_all)]; done))) (by decide)
          refine ih (m - 1) (by omega) (n + 1) _ _ σ1 (scP_b σ n (_, _, _) hb) (by omega) (by first | (have := ltF_gt σ isLet (fun _ => bR_let) _ h50; omega) | (have := ltF_gt σ isDig (fun _ => bR_dig) _ h98; omega) | omega) ?_ ?_ e2
          · show _ ≤ σ 84 2; omega
          · show σ 84 2 < _; first | (have := ltF_gt σ isLet (fun _ => bR_let) _ h50; omega) | (have := ltF_gt σ isDig (fun _ => bR_dig) _ h98; omega) | omega
        · refine A_iconst dX11_scan_159 ?_
          refine A_goto (tgt := 164) dX11_scan_160 (by decide) ?_
          refine A_istore (lv2 := [(5, _), (4, _), (2, _), (1, _), (3, _), (0, _)]) dX11_scan_164 (by decide) rfl ?_
          refine A_aload_n dX11_scan_166 rfl 5 rfl ?_
          refine A_getr fl_X11_17 lk_84 rfl dX11_scan_167 ?_
          refine A_iload_n dX11_scan_170 rfl 3 rfl ?_
          refine A_iload dX11_scan_171 0 rfl ?_
          refine J_iast lk_86 (by first | with_reducible exact bR_i32 hb _ | exact i32_eq ⟨by omega, by omega⟩ | with_reducible exact i32_i32 _ | rfl) (by omega) (by omega) (by decide) dX11_scan_173 ?_
          refine A_aload_n dX11_scan_174 rfl 5 rfl ?_
          refine A_getr fl_X11_20 lk_84 rfl dX11_scan_175 ?_
          refine A_iload_n dX11_scan_178 rfl 3 rfl ?_
          refine A_iload_n dX11_scan_179 rfl 2 rfl ?_
          refine J_iast lk_87 (by first | with_reducible exact bR_i32 hb _ | exact i32_eq ⟨by omega, by omega⟩ | with_reducible exact i32_i32 _ | rfl) (by omega) (by omega) (by decide) dX11_scan_180 ?_
          refine A_aload_n dX11_scan_181 rfl 5 rfl ?_
          refine A_getr fl_X11_23 lk_84 rfl dX11_scan_182 ?_
          refine A_iload_n dX11_scan_185 rfl 3 rfl ?_
          refine A_iload dX11_scan_186 1 rfl ?_
          refine J_iast lk_88 (by first | with_reducible exact bR_i32 hb _ | exact i32_eq ⟨by omega, by omega⟩ | with_reducible exact i32_i32 _ | rfl) (by omega) (by omega) (by decide) dX11_scan_188 ?_
          refine A_iinc (lv2 := [(1, _), (5, _), (4, _), (2, _), (3, _), (0, _)]) dX11_scan_189 3 rfl (by decide) rfl ?_
          refine A_iload dX11_scan_192 2 rfl ?_
          refine A_istore_n (lv2 := [(2, _), (1, _), (5, _), (4, _), (3, _), (0, _)]) dX11_scan_194 rfl (by decide) rfl ?_
          refine A_iload dX11_scan_195 2 rfl ?_
          refine A_if_eq (tgt := 204) dX11_scan_197 (by decide) ⟨by decide, by decide⟩ (fun h => absurd h (by decide)) (fun _ => ?_)
          refine A_iconst dX11_scan_200 ?_
          refine A_goto (tgt := 205) dX11_scan_201 (by decide) ?_
          refine A_istore_n (lv2 := [(3, _), (2, _), (1, _), (5, _), (4, _), (0, _)]) dX11_scan_205 rfl (by decide) rfl ?_
          refine A_goto (tgt := 6) dX11_scan_206 (by decide) ?_
          refine A_lv [0, 2, 1, 5] rfl ?_
          have e2 := scF_go (by omega) hs (eT 3 (by first | (rw [if_pos (by first | assumption | omega)]; done) | (rw [if_neg (by first | omega | simp_all)]; done))) (by decide)
          refine ih (m - 1) (by omega) (n + 1) _ _ σ1 (scP_b σ n (_, _, _) hb) (by omega) (by first | (have := ltF_gt σ isLet (fun _ => bR_let) _ h50; omega) | (have := ltF_gt σ isDig (fun _ => bR_dig) _ h98; omega) | omega) ?_ ?_ e2
          · show _ ≤ σ 84 2; omega
          · show σ 84 2 < _; first | (have := ltF_gt σ isLet (fun _ => bR_let) _ h50; omega) | (have := ltF_gt σ isDig (fun _ => bR_dig) _ h98; omega) | omega
    · have eT := fun k => @tkR_d σ p k h50 h98
      refine A_lv [1, 3, 2, 4, 0, 5] rfl ?_
      refine w_X11_dg σ hb n (skF (bR σ) 1500 p) 1500 _ (by omega) (by omega) (by omega) ?_
      refine A_iload dX11_scan_119 0 rfl ?_
      refine A_iload_n dX11_scan_121 rfl 2 rfl ?_
      refine A_isub dX11_scan_122 ?_
      refine A_iconst dX11_scan_123 ?_
      refine J_icmp_gt (tgt := 131) dX11_scan_124 (by decide) (by first | with_reducible exact bR_i32 hb _ | exact i32_eq ⟨by omega, by omega⟩ | with_reducible exact i32_i32 _ | rfl) (by first | with_reducible exact bR_i32 hb _ | exact i32_eq ⟨by omega, by omega⟩ | with_reducible exact i32_i32 _ | rfl) (fun h124 => ?_) (fun h124 => ?_)
      · refine A_iconst dX11_scan_131 ?_
        refine A_istore (lv2 := [(5, _), (4, _), (1, _), (2, _), (3, _), (0, _)]) dX11_scan_132 (by decide) rfl ?_
        refine A_goto (tgt := 166) dX11_scan_134 (by decide) ?_
        refine A_aload_n dX11_scan_166 rfl 5 rfl ?_
        refine A_getr fl_X11_17 lk_84 rfl dX11_scan_167 ?_
        refine A_iload_n dX11_scan_170 rfl 2 rfl ?_
        refine A_iload dX11_scan_171 0 rfl ?_
        refine J_iast lk_86 (by first | with_reducible exact bR_i32 hb _ | exact i32_eq ⟨by omega, by omega⟩ | with_reducible exact i32_i32 _ | rfl) (by omega) (by omega) (by decide) dX11_scan_173 ?_
        refine A_aload_n dX11_scan_174 rfl 5 rfl ?_
        refine A_getr fl_X11_20 lk_84 rfl dX11_scan_175 ?_
        refine A_iload_n dX11_scan_178 rfl 2 rfl ?_
        refine A_iload_n dX11_scan_179 rfl 3 rfl ?_
        refine J_iast lk_87 (by first | with_reducible exact bR_i32 hb _ | exact i32_eq ⟨by omega, by omega⟩ | with_reducible exact i32_i32 _ | rfl) (by omega) (by omega) (by decide) dX11_scan_180 ?_
        refine A_aload_n dX11_scan_181 rfl 5 rfl ?_
        refine A_getr fl_X11_23 lk_84 rfl dX11_scan_182 ?_
        refine A_iload_n dX11_scan_185 rfl 2 rfl ?_
        refine A_iload dX11_scan_186 1 rfl ?_
        refine J_iast lk_88 (by first | with_reducible exact bR_i32 hb _ | exact i32_eq ⟨by omega, by omega⟩ | with_reducible exact i32_i32 _ | rfl) (by omega) (by omega) (by decide) dX11_scan_188 ?_
        refine A_iinc (lv2 := [(1, _), (5, _), (4, _), (2, _), (3, _), (0, _)]) dX11_scan_189 2 rfl (by decide) rfl ?_
        refine A_iload dX11_scan_192 2 rfl ?_
        refine A_istore_n (lv2 := [(2, _), (1, _), (5, _), (4, _), (3, _), (0, _)]) dX11_scan_194 rfl (by decide) rfl ?_
        refine A_iload dX11_scan_195 2 rfl ?_
        refine A_if_eq (tgt := 204) dX11_scan_197 (by decide) ⟨by decide, by decide⟩ (fun h => absurd h (by decide)) (fun _ => ?_)
        refine A_iconst dX11_scan_200 ?_
        refine A_goto (tgt := 205) dX11_scan_201 (by decide) ?_
        refine A_istore_n (lv2 := [(3, _), (2, _), (1, _), (5, _), (4, _), (0, _)]) dX11_scan_205 rfl (by decide) rfl ?_
        refine A_goto (tgt := 6) dX11_scan_206 (by decide) ?_
        refine A_lv [0, 2, 1, 5] rfl ?_
        have e2 := scF_go (by omega) hs (eT 4 (by first | (rw [if_pos (by first | assumption | omega)]; done) | (rw [if_neg (by first | omega | simp_all)]; done))) (by decide)
        refine ih (m - 1) (by omega) (n + 1) _ _ σ1 (scP_b σ n (_, _, _) hb) (by omega) (by first | (have := ltF_gt σ isLet (fun _ => bR_let) _ h50; omega) | (have := ltF_gt σ isDig (fun _ => bR_dig) _ h98; omega) | omega) ?_ ?_ e2
        · show _ ≤ σ 84 2; omega
        · show σ 84 2 < _; first | (have := ltF_gt σ isLet (fun _ => bR_let) _ h50; omega) | (have := ltF_gt σ isDig (fun _ => bR_dig) _ h98; omega) | omega
      · refine A_iconst dX11_scan_127 ?_
        refine A_goto (tgt := 132) dX11_scan_128 (by decide) ?_
        refine A_istore (lv2 := [(5, _), (4, _), (1, _), (2, _), (3, _), (0, _)]) dX11_scan_132 (by decide) rfl ?_
        refine A_goto (tgt := 166) dX11_scan_134 (by decide) ?_
        refine A_aload_n dX11_scan_166 rfl 5 rfl ?_
        refine A_getr fl_X11_17 lk_84 rfl dX11_scan_167 ?_
        refine A_iload_n dX11_scan_170 rfl 2 rfl ?_
        refine A_iload dX11_scan_171 0 rfl ?_
        refine J_iast lk_86 (by first | with_reducible exact bR_i32 hb _ | exact i32_eq ⟨by omega, by omega⟩ | with_reducible exact i32_i32 _ | rfl) (by omega) (by omega) (by decide) dX11_scan_173 ?_
        refine A_aload_n dX11_scan_174 rfl 5 rfl ?_
        refine A_getr fl_X11_20 lk_84 rfl dX11_scan_175 ?_
        refine A_iload_n dX11_scan_178 rfl 2 rfl ?_
        refine A_iload_n dX11_scan_179 rfl 3 rfl ?_
        refine J_iast lk_87 (by first | with_reducible exact bR_i32 hb _ | exact i32_eq ⟨by omega, by omega⟩ | with_reducible exact i32_i32 _ | rfl) (by omega) (by omega) (by decide) dX11_scan_180 ?_
        refine A_aload_n dX11_scan_181 rfl 5 rfl ?_
        refine A_getr fl_X11_23 lk_84 rfl dX11_scan_182 ?_
        refine A_iload_n dX11_scan_185 rfl 2 rfl ?_
        refine A_iload dX11_scan_186 1 rfl ?_
        refine J_iast lk_88 (by first | with_reducible exact bR_i32 hb _ | exact i32_eq ⟨by omega, by omega⟩ | with_reducible exact i32_i32 _ | rfl) (by omega) (by omega) (by decide) dX11_scan_188 ?_
        refine A_iinc (lv2 := [(1, _), (5, _), (4, _), (2, _), (3, _), (0, _)]) dX11_scan_189 2 rfl (by decide) rfl ?_
        refine A_iload dX11_scan_192 2 rfl ?_
        refine A_istore_n (lv2 := [(2, _), (1, _), (5, _), (4, _), (3, _), (0, _)]) dX11_scan_194 rfl (by decide) rfl ?_
        refine A_iload dX11_scan_195 2 rfl ?_
        refine A_if_eq (tgt := 204) dX11_scan_197 (by decide) ⟨by decide, by decide⟩ (fun h => absurd h (by decide)) (fun _ => ?_)
        refine A_iconst dX11_scan_200 ?_
        refine A_goto (tgt := 205) dX11_scan_201 (by decide) ?_
        refine A_istore_n (lv2 := [(3, _), (2, _), (1, _), (5, _), (4, _), (0, _)]) dX11_scan_205 rfl (by decide) rfl ?_
        refine A_goto (tgt := 6) dX11_scan_206 (by decide) ?_
        refine A_lv [0, 2, 1, 5] rfl ?_
        have e2 := scF_go (by omega) hs (eT 2 (by first | (rw [if_pos (by first | assumption | omega)]; done) | (rw [if_neg (by first | omega | simp_all)]; done))) (by decide)
        refine ih (m - 1) (by omega) (n + 1) _ _ σ1 (scP_b σ n (_, _, _) hb) (by omega) (by first | (have := ltF_gt σ isLet (fun _ => bR_let) _ h50; omega) | (have := ltF_gt σ isDig (fun _ => bR_dig) _ h98; omega) | omega) ?_ ?_ e2
        · show _ ≤ σ 84 2; omega
        · show σ 84 2 < _; first | (have := ltF_gt σ isLet (fun _ => bR_let) _ h50; omega) | (have := ltF_gt σ isDig (fun _ => bR_dig) _ h98; omega) | omega
  · have eT := fun k => @tkR_w σ p k h50
    refine A_lv [1, 3, 2, 4, 0, 5] rfl ?_
    refine w_X11_lt σ hb n (skF (bR σ) 1500 p) 1500 _ (by omega) (by omega) (by omega) ?_
    refine A_iload dX11_scan_71 0 rfl ?_
    refine A_iload_n dX11_scan_73 rfl 2 rfl ?_
    refine A_isub dX11_scan_74 ?_
    refine A_bipush dX11_scan_75 (by decide +kernel) ?_
    refine J_icmp_gt (tgt := 84) dX11_scan_77 (by decide) (by first | with_reducible exact bR_i32 hb _ | exact i32_eq ⟨by omega, by omega⟩ | with_reducible exact i32_i32 _ | rfl) (by first | with_reducible exact bR_i32 hb _ | exact i32_eq ⟨by omega, by omega⟩ | with_reducible exact i32_i32 _ | rfl) (fun h77 => ?_) (fun h77 => ?_)
    · refine A_iconst dX11_scan_84 ?_
      refine A_istore (lv2 := [(5, _), (4, _), (1, _), (2, _), (3, _), (0, _)]) dX11_scan_85 (by decide) rfl ?_
      refine A_goto (tgt := 166) dX11_scan_87 (by decide) ?_
      refine A_aload_n dX11_scan_166 rfl 5 rfl ?_
      refine A_getr fl_X11_17 lk_84 rfl dX11_scan_167 ?_
      refine A_iload_n dX11_scan_170 rfl 2 rfl ?_
      refine A_iload dX11_scan_171 0 rfl ?_
      refine J_iast lk_86 (by first | with_reducible exact bR_i32 hb _ | exact i32_eq ⟨by omega, by omega⟩ | with_reducible exact i32_i32 _ | rfl) (by omega) (by omega) (by decide) dX11_scan_173 ?_
      refine A_aload_n dX11_scan_174 rfl 5 rfl ?_
      refine A_getr fl_X11_20 lk_84 rfl dX11_scan_175 ?_
      refine A_iload_n dX11_scan_178 rfl 2 rfl ?_
      refine A_iload_n dX11_scan_179 rfl 3 rfl ?_
      refine J_iast lk_87 (by first | with_reducible exact bR_i32 hb _ | exact i32_eq ⟨by omega, by omega⟩ | with_reducible exact i32_i32 _ | rfl) (by omega) (by omega) (by decide) dX11_scan_180 ?_
      refine A_aload_n dX11_scan_181 rfl 5 rfl ?_
      refine A_getr fl_X11_23 lk_84 rfl dX11_scan_182 ?_
      refine A_iload_n dX11_scan_185 rfl 2 rfl ?_
      refine A_iload dX11_scan_186 1 rfl ?_
      refine J_iast lk_88 (by first | with_reducible exact bR_i32 hb _ | exact i32_eq ⟨by omega, by omega⟩ | with_reducible exact i32_i32 _ | rfl) (by omega) (by omega) (by decide) dX11_scan_188 ?_
      refine A_iinc (lv2 := [(1, _), (5, _), (4, _), (2, _), (3, _), (0, _)]) dX11_scan_189 2 rfl (by decide) rfl ?_
      refine A_iload dX11_scan_192 2 rfl ?_
      refine A_istore_n (lv2 := [(2, _), (1, _), (5, _), (4, _), (3, _), (0, _)]) dX11_scan_194 rfl (by decide) rfl ?_
      refine A_iload dX11_scan_195 2 rfl ?_
      refine A_if_eq (tgt := 204) dX11_scan_197 (by decide) ⟨by decide, by decide⟩ (fun h => absurd h (by decide)) (fun _ => ?_)
      refine A_iconst dX11_scan_200 ?_
      refine A_goto (tgt := 205) dX11_scan_201 (by decide) ?_
      refine A_istore_n (lv2 := [(3, _), (2, _), (1, _), (5, _), (4, _), (0, _)]) dX11_scan_205 rfl (by decide) rfl ?_
      refine A_goto (tgt := 6) dX11_scan_206 (by decide) ?_
      refine A_lv [0, 2, 1, 5] rfl ?_
      have e2 := scF_go (by omega) hs (eT 4 (by first | (rw [if_pos (by first | assumption | omega)]; done) | (rw [if_neg (by first | omega | simp_all)]; done))) (by decide)
      refine ih (m - 1) (by omega) (n + 1) _ _ σ1 (scP_b σ n (_, _, _) hb) (by omega) (by first | (have := ltF_gt σ isLet (fun _ => bR_let) _ h50; omega) | (have := ltF_gt σ isDig (fun _ => bR_dig) _ h98; omega) | omega) ?_ ?_ e2
      · show _ ≤ σ 84 2; omega
      · show σ 84 2 < _; first | (have := ltF_gt σ isLet (fun _ => bR_let) _ h50; omega) | (have := ltF_gt σ isDig (fun _ => bR_dig) _ h98; omega) | omega
    · refine A_iconst dX11_scan_80 ?_
      refine A_goto (tgt := 85) dX11_scan_81 (by decide) ?_
      refine A_istore (lv2 := [(5, _), (4, _), (1, _), (2, _), (3, _), (0, _)]) dX11_scan_85 (by decide) rfl ?_
      refine A_goto (tgt := 166) dX11_scan_87 (by decide) ?_
      refine A_aload_n dX11_scan_166 rfl 5 rfl ?_
      refine A_getr fl_X11_17 lk_84 rfl dX11_scan_167 ?_
      refine A_iload_n dX11_scan_170 rfl 2 rfl ?_
      refine A_iload dX11_scan_171 0 rfl ?_
      refine J_iast lk_86 (by first | with_reducible exact bR_i32 hb _ | exact i32_eq ⟨by omega, by omega⟩ | with_reducible exact i32_i32 _ | rfl) (by omega) (by omega) (by decide) dX11_scan_173 ?_
      refine A_aload_n dX11_scan_174 rfl 5 rfl ?_
      refine A_getr fl_X11_20 lk_84 rfl dX11_scan_175 ?_
      refine A_iload_n dX11_scan_178 rfl 2 rfl ?_
      refine A_iload_n dX11_scan_179 rfl 3 rfl ?_
      refine J_iast lk_87 (by first | with_reducible exact bR_i32 hb _ | exact i32_eq ⟨by omega, by omega⟩ | with_reducible exact i32_i32 _ | rfl) (by omega) (by omega) (by decide) dX11_scan_180 ?_
      refine A_aload_n dX11_scan_181 rfl 5 rfl ?_
      refine A_getr fl_X11_23 lk_84 rfl dX11_scan_182 ?_
      refine A_iload_n dX11_scan_185 rfl 2 rfl ?_
      refine A_iload dX11_scan_186 1 rfl ?_
      refine J_iast lk_88 (by first | with_reducible exact bR_i32 hb _ | exact i32_eq ⟨by omega, by omega⟩ | with_reducible exact i32_i32 _ | rfl) (by omega) (by omega) (by decide) dX11_scan_188 ?_
      refine A_iinc (lv2 := [(1, _), (5, _), (4, _), (2, _), (3, _), (0, _)]) dX11_scan_189 2 rfl (by decide) rfl ?_
      refine A_iload dX11_scan_192 2 rfl ?_
      refine A_istore_n (lv2 := [(2, _), (1, _), (5, _), (4, _), (3, _), (0, _)]) dX11_scan_194 rfl (by decide) rfl ?_
      refine A_iload dX11_scan_195 2 rfl ?_
      refine A_if_eq (tgt := 204) dX11_scan_197 (by decide) ⟨by decide, by decide⟩ (fun h => absurd h (by decide)) (fun _ => ?_)
      refine A_iconst dX11_scan_200 ?_
      refine A_goto (tgt := 205) dX11_scan_201 (by decide) ?_
      refine A_istore_n (lv2 := [(3, _), (2, _), (1, _), (5, _), (4, _), (0, _)]) dX11_scan_205 rfl (by decide) rfl ?_
      refine A_goto (tgt := 6) dX11_scan_206 (by decide) ?_
      refine A_lv [0, 2, 1, 5] rfl ?_
      have e2 := scF_go (by omega) hs (eT 1 (by first | (rw [if_pos (by first | assumption | omega)]; done) | (rw [if_neg (by first | omega | simp_all)]; done))) (by decide)
      refine ih (m - 1) (by omega) (n + 1) _ _ σ1 (scP_b σ n (_, _, _) hb) (by omega) (by first | (have := ltF_gt σ isLet (fun _ => bR_let) _ h50; omega) | (have := ltF_gt σ isDig (fun _ => bR_dig) _ h98; omega) | omega) ?_ ?_ e2
      · show _ ≤ σ 84 2; omega
      · show σ 84 2 < _; first | (have := ltF_gt σ isLet (fun _ => bR_let) _ h50; omega) | (have := ltF_gt σ isDig (fun _ => bR_dig) _ h98; omega) | omega
set_option maxRecDepth 100000 in
set_option maxHeartbeats 4000000 in
theorem c_X11_scan (σ : Sg) (hb : Rb σ) : Ct l G yX11_scan cX11_scan 6 none 3 0 0 [.ref (lay G 84)] σ (none) (scC σ) := by
  refine Ct.of (by decide +kernel) (Nat.le_of_ble_eq_true rfl) (fun f => ?_)
  show AW _ _ _ _ _ _ _ _ _ _ [(0, _)] _ _
  refine A_iconst dX11_scan_0 ?_
  refine A_istore_n (lv2 := [(1, _), (0, _)]) dX11_scan_1 rfl (by decide) rfl ?_
  refine A_iconst dX11_scan_2 ?_
  refine A_istore_n (lv2 := [(2, _), (1, _), (0, _)]) dX11_scan_3 rfl (by decide) rfl ?_
  refine A_iconst dX11_scan_4 ?_
  refine A_istore_n (lv2 := [(3, _), (2, _), (1, _), (0, _)]) dX11_scan_5 rfl (by decide) rfl ?_
  refine A_lv [0, 2, 1, 3] rfl ?_
  exact w_X11_scan 1501 0 0 σ _ hb (by omega) (by omega) hb.1.1 (by have := hb.1.2; omega) rfl
end S31
