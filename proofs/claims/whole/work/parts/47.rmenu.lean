/-! the reference: menus and faults -/
section S47
variable {l : Launch} {G : Gx}
variable {σ : Sg}
theorem iand_i32 (x y : Int) : i32 (iand x y) = iand x y := i32_eq (I32_inr _)
def RI (σ : Sg) : Prop := ∀ r : Nat, (r : Int) < σ 84 30 → (0 ≤ σ 105 r ∧ σ 105 r ≤ 3) ∧ (0 ≤ σ 106 r ∧ σ 106 r ≤ 9999) ∧ (0 ≤ σ 107 r ∧ σ 107 r ≤ 9999) ∧ (-1 ≤ σ 108 r ∧ σ 108 r < 16) ∧ (-1 ≤ σ 109 r ∧ σ 109 r < 16)
def MU (σ : Sg) : Prop := (0 ≤ σ 84 39 ∧ σ 84 39 ≤ 14) ∧ ∀ d c : Nat, (d : Int) < σ 84 39 → (c : Int) < σ 84 25 → -1 ≤ σ 111 (8 * d + c) ∧ σ 111 (8 * d + c) < σ 84 15
def PI (σ : Sg) : Prop := Cn σ ∧ Dn σ ∧ RI σ ∧ MU σ
def dA (σ : Sg) (d c : Int) : Int := σ 111 (8 * d + c).toNat
theorem PI.dA (h : PI σ) {d c : Int} (hd : 0 ≤ d ∧ d < σ 84 39) (hc : 0 ≤ c ∧ c < σ 84 25) : -1 ≤ dA σ d c ∧ dA σ d c < σ 84 15 := by
  have := h.2.2.2.2 d.toNat c.toNat (by omega) (by omega)
  have e : 8 * d.toNat + c.toNat = (8 * d + c).toNat := by omega
  rw [e] at this
  exact this
def enR (σ : Sg) (d : Int) : Int := (σ 95 d.toNat).tdiv (σ 94 d.toNat)
def pcR (σ : Sg) (d : Int) : Int := (σ 96 d.toNat).tdiv (σ 94 d.toNat)
theorem enR_bd (h : PI σ) {d : Int} (hd : 0 ≤ d ∧ d < σ 84 15) : 0 ≤ enR σ d ∧ enR σ d ≤ 1000000 := by
  obtain ⟨h1, h2, -, -⟩ := h.2.1.1 d.toNat (by omega)
  have := tdiv_bd (b := σ 94 d.toNat) h2.1 h1.1
  unfold enR; omega
theorem pcR_bd (h : PI σ) {d : Int} (hd : 0 ≤ d ∧ d < σ 84 15) : 0 ≤ pcR σ d ∧ pcR σ d ≤ 1000000 := by
  obtain ⟨h1, -, h2, -⟩ := h.2.1.1 d.toNat (by omega)
  have := tdiv_bd (b := σ 94 d.toNat) h2.1 h1.1
  unfold pcR; omega
def mtV (σ : Sg) (r : Int) : Int := if σ 105 r.toNat = 3 then 0 else if σ 108 r.toNat = -1 then tgV σ (σ 109 r.toNat) else ishl 1 (σ 108 r.toNat)
def isM (σ : Sg) (s d c : Int) : Bool := decide (¬ dA σ d c = -1 ∧ iand (ishr s (dA σ d c)) 1 = 1)
def miG (σ : Sg) (s d c a : Int) : Int := if isM σ s d c = true then a + 1 else a + 0
def mjG (σ : Sg) (s d a : Int) : Int := fW (σ 84 25) (miG σ s d) 8 0 a
def mnIn (σ : Sg) (s fr un : Int) : Int := fW un (mjG σ s) 14 fr 0
def suG (σ : Sg) (d : Int) (p : Bool) (c a : Int) : Int := if dA σ d c = -1 then a else a + (if p = true then pcR σ (dA σ d c) else enR σ (dA σ d c))
def suV2 (σ : Sg) (d : Int) (p : Bool) : Int := fW (σ 84 25) (suG σ d p) 8 0 0
def qd (σ : Sg) (i : Int) : Int := i.tdiv (σ 84 25)
def qm (σ : Sg) (i : Int) : Int := i - i.tdiv (σ 84 25) * σ 84 25
def apG (σ : Sg) (s r one oth a : Int) : Int := if isM σ s (qd σ one) (qm σ one) = true ∧ isM σ s (qd σ oth) (qm σ oth) = true then (if qd σ one - qd σ oth < σ 106 r.toNat then a + 1 else a + 0) else a + 0
def aoG (σ : Sg) (s r one a : Int) : Int := fW one (apG σ s r one) 112 0 a
def egG (σ : Sg) (r d a : Int) : Int := if inR (suV2 σ d false) (σ 106 r.toNat) (σ 107 r.toNat) = true then a + 0 else a + 1
def rsG (σ : Sg) (s r d a : Int) : Int := if σ 105 r.toNat = 1 then (if σ 106 r.toNat < mnIn σ s d (d + σ 107 r.toNat) then a + 1 else a + 0) else (if mnIn σ s d (d + σ 107 r.toNat) < σ 106 r.toNat then a + 1 else a + 0)
def ruV (σ : Sg) (r : Int) : Int := if σ 105 r.toNat = 0 then fW (σ 84 39 * σ 84 25) (aoG σ (mtV σ r) r) 112 0 0 else if σ 105 r.toNat = 3 then fW (σ 84 39) (egG σ r) 14 0 0 else if σ 84 39 < σ 107 r.toNat then (if σ 105 r.toNat = 1 ∧ σ 106 r.toNat < mnIn σ (mtV σ r) 0 (σ 84 39) then 1 else 0) else fG (fun d _ => decide (d + σ 107 r.toNat ≤ σ 84 39)) (rsG σ (mtV σ r) r) 15 0 0
def gpG (σ : Sg) (d c a : Int) : Int := if dA σ d c = -1 then a + 1 else a + 0
def gqG (σ : Sg) (d a : Int) : Int := fW (σ 84 25) (gpG σ d) 8 0 a
def gapV (σ : Sg) : Int := fW (σ 84 39) (gqG σ) 14 0 0
def afV (σ : Sg) : Int := fW (σ 84 30) (fun r a => a + ruV σ r) 8 0 (gapV σ)
def hfG (σ : Sg) (r a : Int) : Int := if σ 105 r.toNat = 0 ∨ σ 105 r.toNat = 1 then a + ruV σ r else a + 0
def hfV (σ : Sg) : Int := fW (σ 84 30) (hfG σ) 8 0 0
def tiG (σ : Sg) (x d c a : Int) : Int := if dA σ d c = x then a + 1 else a + 0
def tjG (σ : Sg) (x d a : Int) : Int := fW (σ 84 25) (tiG σ x d) 8 0 a
def tiV (σ : Sg) (x : Int) : Int := fW (σ 84 39) (tjG σ x) 14 0 0
/-- a sum that grows by no more than B a step -/
theorem fW_grow {sz : Int} {g : Int → Int → Int} {B : Int} (hB : 0 ≤ B) (hg : ∀ i a, a ≤ g i a ∧ g i a ≤ a + B) : ∀ (n : Nat) (i a : Int), a ≤ fW sz g n i a ∧ fW sz g n i a ≤ a + n * B
  | 0, i, a => ⟨Int.le_refl _, by simp [fW]⟩
  | n + 1, i, a => by
    rw [fW_s]
    have e : ((n + 1 : Nat) : Int) * B = n * B + B := by rw [Int.natCast_add, Int.add_mul]; simp
    have e2 : 0 ≤ (n : Int) * B := Int.mul_nonneg (by omega) hB
    split
    · obtain ⟨h1, h2⟩ := hg i a
      obtain ⟨h3, h4⟩ := fW_grow (sz := sz) hB hg n (i + 1) (g i a)
      omega
    · omega
theorem mjG_bd (s d a : Int) : a ≤ mjG σ s d a ∧ mjG σ s d a ≤ a + 8 := by
  have := fW_grow (sz := σ 84 25) (g := miG σ s d) (B := 1) (by decide) (fun i a => by unfold miG; split <;> omega) 8 0 a
  unfold mjG; omega
theorem mnIn_bd (s fr un : Int) : 0 ≤ mnIn σ s fr un ∧ mnIn σ s fr un ≤ 112 := by
  have := fW_grow (sz := un) (g := mjG σ s) (B := 8) (by decide) (fun i a => mjG_bd s i a) 14 fr 0
  unfold mnIn; omega
theorem mnIn_i32 (s fr un : Int) : i32 (mnIn σ s fr un) = mnIn σ s fr un := i32_n _ (by have := mnIn_bd (σ := σ) s fr un; omega)
theorem tjG_bd (x d a : Int) : a ≤ tjG σ x d a ∧ tjG σ x d a ≤ a + 8 := by
  have := fW_grow (sz := σ 84 25) (g := tiG σ x d) (B := 1) (by decide) (fun i a => by unfold tiG; split <;> omega) 8 0 a
  unfold tjG; omega
theorem tiV_bd (x : Int) : 0 ≤ tiV σ x ∧ tiV σ x ≤ 112 := by
  have := fW_grow (sz := σ 84 39) (g := tjG σ x) (B := 8) (by decide) (fun i a => tjG_bd x i a) 14 0 0
  unfold tiV; omega
theorem tiV_i32 (x : Int) : i32 (tiV σ x) = tiV σ x := i32_n _ (by have := tiV_bd (σ := σ) x; omega)
theorem qd_in {D C i : Int} (hC : 0 ≤ C) (hi : 0 ≤ i ∧ i < D * C) : (0 < C) ∧ (0 ≤ i.tdiv C ∧ i.tdiv C < D) ∧ 0 ≤ i - i.tdiv C * C ∧ i - i.tdiv C * C < C := by
  have hC0 : C ≠ 0 := by
    intro z
    rw [z, Int.mul_zero] at hi
    omega
  have hC1 : 0 < C := by omega
  have e : i.tdiv C = i / C := Int.tdiv_eq_ediv_of_nonneg hi.1
  rw [e]
  have h1 := Int.emod_nonneg i hC0
  have h2 := Int.emod_lt_of_pos i hC1
  have h3 := Int.emod_add_mul_ediv i C
  have h4 : C * (i / C) = i / C * C := Int.mul_comm _ _
  refine ⟨hC1, ⟨Int.ediv_nonneg hi.1 hC, Int.ediv_lt_of_lt_mul hC1 hi.2⟩, by omega, by omega⟩
theorem dc_le {D C : Int} (hD : 0 ≤ D ∧ D ≤ 14) (hC : 0 ≤ C ∧ C ≤ 8) : 0 ≤ D * C ∧ D * C ≤ 112 := mul_bd hD hC
set_option maxRecDepth 100000 in
set_option maxHeartbeats 4000000 in
theorem c_X11_energyOf (d : Int) (hP : PI σ) (hd : 0 ≤ d ∧ d < σ 84 15) : Ct l G yX11_energyOf cX11_energyOf 2 (some .int) 0 0 0 [.ref (lay G 84), .int (I32 d)] σ (some (.int (I32 (enR σ d)))) (σ) := by
  have hD1 := hP.2.1.1 d.toNat (by omega)
  have hC2 := hP.1.2.1
  refine Ct.of (by decide +kernel) (Nat.le_of_ble_eq_true rfl) (fun f => ?_)
  show AW _ _ _ _ _ _ _ _ _ _ [(0, _), (1, _)] _ _
  refine A_aload_n dX11_energyOf_0 rfl 0 rfl ?_
  refine A_getr fl_X11_45 lk_84 rfl dX11_energyOf_1 ?_
  refine A_iload_n dX11_energyOf_4 rfl 1 rfl ?_
  refine J_lald lk_95 (by first | exact i32_eq (by assumption) | with_reducible exact iand_i32 _ _ | with_reducible exact mnIn_i32 _ _ _ | with_reducible exact tiV_i32 _ | exact i32_eq ⟨by omega, by omega⟩ | with_reducible exact i32_i32 _ | with_reducible exact i32_eq (b2i_inr _) | rfl) (by omega) (by omega) (by decide) dX11_energyOf_5 ?_
  refine A_aload_n dX11_energyOf_6 rfl 0 rfl ?_
  refine A_getr fl_X11_42 lk_84 rfl dX11_energyOf_7 ?_
  refine A_iload_n dX11_energyOf_10 rfl 1 rfl ?_
  refine J_iald lk_94 (by first | exact i32_eq (by assumption) | with_reducible exact iand_i32 _ _ | with_reducible exact mnIn_i32 _ _ _ | with_reducible exact tiV_i32 _ | exact i32_eq ⟨by omega, by omega⟩ | with_reducible exact i32_i32 _ | with_reducible exact i32_eq (b2i_inr _) | rfl) (by omega) (by omega) (by decide) dX11_energyOf_11 ?_
  refine J_i2l dX11_energyOf_12 (by first | exact i32_eq (by assumption) | with_reducible exact iand_i32 _ _ | with_reducible exact mnIn_i32 _ _ _ | with_reducible exact tiV_i32 _ | exact i32_eq ⟨by omega, by omega⟩ | with_reducible exact i32_i32 _ | with_reducible exact i32_eq (b2i_inr _) | rfl) ?_
  refine J_ldiv dX11_energyOf_13 (by first | exact i64_eq ⟨by omega, by omega⟩ | rfl) (by first | exact i64_eq ⟨by omega, by omega⟩ | rfl) (by omega) ?_
  refine A_l2i dX11_energyOf_14 ?_
  exact A_iret dX11_energyOf_15 (by rfl) (by rfl)
set_option maxRecDepth 100000 in
set_option maxHeartbeats 4000000 in
theorem c_X11_priceOf (d : Int) (hP : PI σ) (hd : 0 ≤ d ∧ d < σ 84 15) : Ct l G yX11_priceOf cX11_priceOf 2 (some .int) 0 0 0 [.ref (lay G 84), .int (I32 d)] σ (some (.int (I32 (pcR σ d)))) (σ) := by
  have hD1 := hP.2.1.1 d.toNat (by omega)
  have hC2 := hP.1.2.1
  refine Ct.of (by decide +kernel) (Nat.le_of_ble_eq_true rfl) (fun f => ?_)
  show AW _ _ _ _ _ _ _ _ _ _ [(0, _), (1, _)] _ _
  refine A_aload_n dX11_priceOf_0 rfl 0 rfl ?_
  refine A_getr fl_X11_48 lk_84 rfl dX11_priceOf_1 ?_
  refine A_iload_n dX11_priceOf_4 rfl 1 rfl ?_
  refine J_lald lk_96 (by first | exact i32_eq (by assumption) | with_reducible exact iand_i32 _ _ | with_reducible exact mnIn_i32 _ _ _ | with_reducible exact tiV_i32 _ | exact i32_eq ⟨by omega, by omega⟩ | with_reducible exact i32_i32 _ | with_reducible exact i32_eq (b2i_inr _) | rfl) (by omega) (by omega) (by decide) dX11_priceOf_5 ?_
  refine A_aload_n dX11_priceOf_6 rfl 0 rfl ?_
  refine A_getr fl_X11_42 lk_84 rfl dX11_priceOf_7 ?_
  refine A_iload_n dX11_priceOf_10 rfl 1 rfl ?_
  refine J_iald lk_94 (by first | exact i32_eq (by assumption) | with_reducible exact iand_i32 _ _ | with_reducible exact mnIn_i32 _ _ _ | with_reducible exact tiV_i32 _ | exact i32_eq ⟨by omega, by omega⟩ | with_reducible exact i32_i32 _ | with_reducible exact i32_eq (b2i_inr _) | rfl) (by omega) (by omega) (by decide) dX11_priceOf_11 ?_
  refine J_i2l dX11_priceOf_12 (by first | exact i32_eq (by assumption) | with_reducible exact iand_i32 _ _ | with_reducible exact mnIn_i32 _ _ _ | with_reducible exact tiV_i32 _ | exact i32_eq ⟨by omega, by omega⟩ | with_reducible exact i32_i32 _ | with_reducible exact i32_eq (b2i_inr _) | rfl) ?_
  refine J_ldiv dX11_priceOf_13 (by first | exact i64_eq ⟨by omega, by omega⟩ | rfl) (by first | exact i64_eq ⟨by omega, by omega⟩ | rfl) (by omega) ?_
  refine A_l2i dX11_priceOf_14 ?_
  exact A_iret dX11_priceOf_15 (by rfl) (by rfl)
set_option maxRecDepth 100000 in
set_option maxHeartbeats 4000000 in
theorem c_X11_dishAt (d c : Int) (hd : 0 ≤ d ∧ d < 14) (hc : 0 ≤ c ∧ c < 8) : Ct l G yX11_dishAt cX11_dishAt 3 (some .int) 0 0 0 [.ref (lay G 84), .int (I32 d), .int (I32 c)] σ (some (.int (I32 (dA σ d c)))) (σ) := by
  refine Ct.of (by decide +kernel) (Nat.le_of_ble_eq_true rfl) (fun f => ?_)
  show AW _ _ _ _ _ _ _ _ _ _ [(0, _), (1, _), (2, _)] _ _
  refine A_aload_n dX11_dishAt_0 rfl 0 rfl ?_
  refine A_getr fl_X11_93 lk_84 rfl dX11_dishAt_1 ?_
  refine A_bipush dX11_dishAt_4 (by decide +kernel) ?_
  refine A_iload_n dX11_dishAt_6 rfl 1 rfl ?_
  refine A_imul dX11_dishAt_7 ?_
  refine A_iload_n dX11_dishAt_8 rfl 2 rfl ?_
  refine A_iadd dX11_dishAt_9 ?_
  refine J_iald lk_111 (by first | exact i32_eq (by assumption) | with_reducible exact iand_i32 _ _ | with_reducible exact mnIn_i32 _ _ _ | with_reducible exact tiV_i32 _ | exact i32_eq ⟨by omega, by omega⟩ | with_reducible exact i32_i32 _ | with_reducible exact i32_eq (b2i_inr _) | rfl) (by omega) (by omega) (by decide) dX11_dishAt_10 ?_
  exact A_iret dX11_dishAt_11 (by rfl) (by rfl)
set_option maxRecDepth 100000 in
set_option maxHeartbeats 4000000 in
theorem c_X11_meant (r : Int) (hP : PI σ) (hr : 0 ≤ r ∧ r < σ 84 30) : Ct l G yX11_meant cX11_meant 2 (some .int) 1 0 0 [.ref (lay G 84), .int (I32 r)] σ (some (.int (I32 (mtV σ r)))) (σ) := by
  have hR := hP.2.2.1 r.toNat (by omega)
  obtain ⟨hC1, hC2, hC3, hC4, hC5, hC6⟩ := id hP.1
  obtain ⟨hM1, hM2⟩ := id hP.2.2.2.1
  refine Ct.of (by decide +kernel) (Nat.le_of_ble_eq_true rfl) (fun f => ?_)
  show AW _ _ _ _ _ _ _ _ _ _ [(0, _), (1, _)] _ _
  refine A_aload_n dX11_meant_0 rfl 0 rfl ?_
  refine A_getr fl_X11_75 lk_84 rfl dX11_meant_1 ?_
  refine A_iload_n dX11_meant_4 rfl 1 rfl ?_
  refine J_iald lk_105 (by first | exact i32_eq (by assumption) | with_reducible exact iand_i32 _ _ | with_reducible exact mnIn_i32 _ _ _ | with_reducible exact tiV_i32 _ | exact i32_eq ⟨by omega, by omega⟩ | with_reducible exact i32_i32 _ | with_reducible exact i32_eq (b2i_inr _) | rfl) (by omega) (by omega) (by decide) dX11_meant_5 ?_
  refine A_iconst dX11_meant_6 ?_
  refine J_icmp_ne (tgt := 14) dX11_meant_7 (by decide) (by first | exact i32_eq (by assumption) | with_reducible exact iand_i32 _ _ | with_reducible exact mnIn_i32 _ _ _ | with_reducible exact tiV_i32 _ | exact i32_eq ⟨by omega, by omega⟩ | with_reducible exact i32_i32 _ | with_reducible exact i32_eq (b2i_inr _) | rfl) (by first | exact i32_eq (by assumption) | with_reducible exact iand_i32 _ _ | with_reducible exact mnIn_i32 _ _ _ | with_reducible exact tiV_i32 _ | exact i32_eq ⟨by omega, by omega⟩ | with_reducible exact i32_i32 _ | with_reducible exact i32_eq (b2i_inr _) | rfl) (fun h7 => ?_) (fun h7 => ?_)
  · refine A_aload_n dX11_meant_14 rfl 0 rfl ?_
    refine A_getr fl_X11_84 lk_84 rfl dX11_meant_15 ?_
    refine A_iload_n dX11_meant_18 rfl 1 rfl ?_
    refine J_iald lk_108 (by first | exact i32_eq (by assumption) | with_reducible exact iand_i32 _ _ | with_reducible exact mnIn_i32 _ _ _ | with_reducible exact tiV_i32 _ | exact i32_eq ⟨by omega, by omega⟩ | with_reducible exact i32_i32 _ | with_reducible exact i32_eq (b2i_inr _) | rfl) (by omega) (by omega) (by decide) dX11_meant_19 ?_
    refine A_iconst dX11_meant_20 ?_
    refine J_icmp_eq (tgt := 35) dX11_meant_21 (by decide) (by first | exact i32_eq (by assumption) | with_reducible exact iand_i32 _ _ | with_reducible exact mnIn_i32 _ _ _ | with_reducible exact tiV_i32 _ | exact i32_eq ⟨by omega, by omega⟩ | with_reducible exact i32_i32 _ | with_reducible exact i32_eq (b2i_inr _) | rfl) (by first | exact i32_eq (by assumption) | with_reducible exact iand_i32 _ _ | with_reducible exact mnIn_i32 _ _ _ | with_reducible exact tiV_i32 _ | exact i32_eq ⟨by omega, by omega⟩ | with_reducible exact i32_i32 _ | with_reducible exact i32_eq (b2i_inr _) | rfl) (fun h21 => ?_) (fun h21 => ?_)
    · refine A_aload_n dX11_meant_35 rfl 0 rfl ?_
      refine A_aload_n dX11_meant_36 rfl 0 rfl ?_
      refine A_getr fl_X11_87 lk_84 rfl dX11_meant_37 ?_
      refine A_iload_n dX11_meant_40 rfl 1 rfl ?_
      refine J_iald lk_109 (by first | exact i32_eq (by assumption) | with_reducible exact iand_i32 _ _ | with_reducible exact mnIn_i32 _ _ _ | with_reducible exact tiV_i32 _ | exact i32_eq ⟨by omega, by omega⟩ | with_reducible exact i32_i32 _ | with_reducible exact i32_eq (b2i_inr _) | rfl) (by omega) (by omega) (by decide) dX11_meant_41 ?_
      refine A_Va1 mv_X11_313 lk_84 rfl rfl (c_X11_tagged _ hC2) (Nat.le_of_ble_eq_true rfl) (by omega) (by omega) dX11_meant_42 ?_
      exact A_iret dX11_meant_45 (by unfold mtV; first | (rw [if_pos h7]; done) | (rw [if_neg h7, if_pos h21]; done) | (rw [if_neg h7, if_neg h21]; done)) (by rfl)
    · refine A_iconst dX11_meant_24 ?_
      refine A_aload_n dX11_meant_25 rfl 0 rfl ?_
      refine A_getr fl_X11_84 lk_84 rfl dX11_meant_26 ?_
      refine A_iload_n dX11_meant_29 rfl 1 rfl ?_
      refine J_iald lk_108 (by first | exact i32_eq (by assumption) | with_reducible exact iand_i32 _ _ | with_reducible exact mnIn_i32 _ _ _ | with_reducible exact tiV_i32 _ | exact i32_eq ⟨by omega, by omega⟩ | with_reducible exact i32_i32 _ | with_reducible exact i32_eq (b2i_inr _) | rfl) (by omega) (by omega) (by decide) dX11_meant_30 ?_
      refine A_ishl dX11_meant_31 ?_
      refine A_goto (tgt := 45) dX11_meant_32 (by decide) ?_
      exact A_iret dX11_meant_45 (by unfold mtV; first | (rw [if_pos h7]; done) | (rw [if_neg h7, if_pos h21]; done) | (rw [if_neg h7, if_neg h21]; done)) (by rfl)
  · refine A_iconst dX11_meant_10 ?_
    refine A_goto (tgt := 45) dX11_meant_11 (by decide) ?_
    exact A_iret dX11_meant_45 (by unfold mtV; first | (rw [if_pos h7]; done) | (rw [if_neg h7, if_pos h21]; done) | (rw [if_neg h7, if_neg h21]; done)) (by rfl)
set_option maxRecDepth 100000 in
set_option maxHeartbeats 4000000 in
theorem c_X11_isMeant (s d c : Int) (hP : PI σ) (hd : 0 ≤ d ∧ d < σ 84 39) (hc : 0 ≤ c ∧ c < σ 84 25) : Ct l G yX11_isMeant cX11_isMeant 4 (some .boolean) 1 0 0 [.ref (lay G 84), .int (I32 s), .int (I32 d), .int (I32 c)] σ (some (.int (I32 (b2i (isM σ s d c))))) (σ) := by
  obtain ⟨hC1, hC2, hC3, hC4, hC5, hC6⟩ := id hP.1
  obtain ⟨hM1, hM2⟩ := id hP.2.2.2.1
  have hdA := hP.dA hd hc
  refine Ct.of (by decide +kernel) (Nat.le_of_ble_eq_true rfl) (fun f => ?_)
  show AW _ _ _ _ _ _ _ _ _ _ [(0, _), (1, _), (2, _), (3, _)] _ _
  refine A_aload_n dX11_isMeant_0 rfl 0 rfl ?_
  refine A_iload_n dX11_isMeant_1 rfl 2 rfl ?_
  refine A_iload_n dX11_isMeant_2 rfl 3 rfl ?_
  refine A_Va2 mv_X11_362 lk_84 rfl rfl (c_X11_dishAt d c ⟨by omega, by omega⟩ ⟨by omega, by omega⟩) (Nat.le_of_ble_eq_true rfl) (by omega) (by omega) dX11_isMeant_3 ?_
  refine A_iconst dX11_isMeant_6 ?_
  refine J_icmp_eq (tgt := 28) dX11_isMeant_7 (by decide) (by first | exact i32_eq (by assumption) | with_reducible exact iand_i32 _ _ | with_reducible exact mnIn_i32 _ _ _ | with_reducible exact tiV_i32 _ | exact i32_eq ⟨by omega, by omega⟩ | with_reducible exact i32_i32 _ | with_reducible exact i32_eq (b2i_inr _) | rfl) (by first | exact i32_eq (by assumption) | with_reducible exact iand_i32 _ _ | with_reducible exact mnIn_i32 _ _ _ | with_reducible exact tiV_i32 _ | exact i32_eq ⟨by omega, by omega⟩ | with_reducible exact i32_i32 _ | with_reducible exact i32_eq (b2i_inr _) | rfl) (fun h7 => ?_) (fun h7 => ?_)
  · refine A_iconst dX11_isMeant_28 ?_
    exact A_zret2 dX11_isMeant_29 (by decide) (by unfold isM; first | (rw [decide_eq_true ⟨h7, h21⟩, b2i_t]; done) | (rw [decide_eq_false (fun z => z.1 h7), b2i_f]; done) | (rw [decide_eq_false (fun z => h21 z.2), b2i_f]; done)) (by rfl)
  · refine A_iload_n dX11_isMeant_10 rfl 1 rfl ?_
    refine A_aload_n dX11_isMeant_11 rfl 0 rfl ?_
    refine A_iload_n dX11_isMeant_12 rfl 2 rfl ?_
    refine A_iload_n dX11_isMeant_13 rfl 3 rfl ?_
    refine A_Va2 mv_X11_362 lk_84 rfl rfl (c_X11_dishAt d c ⟨by omega, by omega⟩ ⟨by omega, by omega⟩) (Nat.le_of_ble_eq_true rfl) (by omega) (by omega) dX11_isMeant_14 ?_
    refine A_ishr dX11_isMeant_17 ?_
    refine A_iconst dX11_isMeant_18 ?_
    refine A_iand dX11_isMeant_19 ?_
    refine A_iconst dX11_isMeant_20 ?_
    refine J_icmp_ne (tgt := 28) dX11_isMeant_21 (by decide) (by first | exact i32_eq (by assumption) | with_reducible exact iand_i32 _ _ | with_reducible exact mnIn_i32 _ _ _ | with_reducible exact tiV_i32 _ | exact i32_eq ⟨by omega, by omega⟩ | with_reducible exact i32_i32 _ | with_reducible exact i32_eq (b2i_inr _) | rfl) (by first | exact i32_eq (by assumption) | with_reducible exact iand_i32 _ _ | with_reducible exact mnIn_i32 _ _ _ | with_reducible exact tiV_i32 _ | exact i32_eq ⟨by omega, by omega⟩ | with_reducible exact i32_i32 _ | with_reducible exact i32_eq (b2i_inr _) | rfl) (fun h21 => ?_) (fun h21 => ?_)
    · refine A_iconst dX11_isMeant_28 ?_
      exact A_zret2 dX11_isMeant_29 (by decide) (by unfold isM; first | (rw [decide_eq_true ⟨h7, h21⟩, b2i_t]; done) | (rw [decide_eq_false (fun z => z.1 h7), b2i_f]; done) | (rw [decide_eq_false (fun z => h21 z.2), b2i_f]; done)) (by rfl)
    · refine A_iconst dX11_isMeant_24 ?_
      refine A_goto (tgt := 29) dX11_isMeant_25 (by decide) ?_
      exact A_zret2 dX11_isMeant_29 (by decide) (by unfold isM; first | (rw [decide_eq_true ⟨h7, h21⟩, b2i_t]; done) | (rw [decide_eq_false (fun z => z.1 h7), b2i_f]; done) | (rw [decide_eq_false (fun z => h21 z.2), b2i_f]; done)) (by rfl)
set_option maxRecDepth 100000 in
set_option maxHeartbeats 4000000 in
theorem w_X11_mi15 {f : Fm} {Q : State → Prop} {xs : va_W} {kk nn rc rs : Nat} (σ : Sg) (s d un : Int) (hP : PI σ) (hd : 0 ≤ d ∧ d < σ 84 39) (hm : kk ≤ rc ∧ nn ≤ rs) : ∀ (n : Nat) (i : Int) (a : Int), 0 ≤ i → inr i → i + n = 8 → AW l G f (RX11, cX11_meantIn, 7, (some .int)) (2, rc, rs) Q xs kk nn 52 [(4, .int (I32 (fW (σ 84 25) (miG σ s d) n i a))), (0, .ref (lay G 84)), (1, .int (I32 s)), (5, .int (I32 d)), (3, .int (I32 un))] [] (σ) → AW l G f (RX11, cX11_meantIn, 7, (some .int)) (2, rc, rs) Q xs kk nn 15 [(6, .int (I32 i)), (4, .int (I32 a)), (0, .ref (lay G 84)), (1, .int (I32 s)), (5, .int (I32 d)), (3, .int (I32 un))] [] (σ) := by
  intro n
  induction n using Nat.strongRecOn with | _ n ih =>
  intro i a h0 hii hn  hK
  obtain ⟨hi1, hi2⟩ := hii
  obtain ⟨hC1, hC2, hC3, hC4, hC5, hC6⟩ := id hP.1
  obtain ⟨hM1, hM2⟩ := id hP.2.2.2.1
  refine A_iload dX11_meantIn_15 0 rfl ?_
  refine A_aload_n dX11_meantIn_17 rfl 2 rfl ?_
  refine A_geti fl_X11_289 lk_84 rfl dX11_meantIn_18 ?_
  refine J_icmp_ge (tgt := 52) dX11_meantIn_21 (by decide) (by first | exact i32_eq (by assumption) | exact i32_eq ⟨by omega, by omega⟩ | with_reducible exact i32_i32 _ | with_reducible exact i32_eq (b2i_inr _) | rfl) (by first | exact i32_eq (by assumption) | exact i32_eq ⟨by omega, by omega⟩ | with_reducible exact i32_i32 _ | with_reducible exact i32_eq (b2i_inr _) | rfl) (fun h21 => ?_) (fun h21 => ?_)
  · refine A_lv [1, 2, 3, 4, 5] rfl ?_
    clear ih
    rcases n with _ | n <;> simp only [fW] at hK <;> (repeat' split at hK) <;> first | contradiction | (exfalso; omega) | exact hK | (simp_all; done)
  · refine A_iload dX11_meantIn_24 1 rfl ?_
    refine A_aload_n dX11_meantIn_26 rfl 2 rfl ?_
    refine A_iload_n dX11_meantIn_27 rfl 3 rfl ?_
    refine A_iload dX11_meantIn_28 4 rfl ?_
    refine A_iload dX11_meantIn_30 0 rfl ?_
    refine A_Va3 mv_X11_365 lk_84 rfl rfl (c_X11_isMeant _ _ _ hP ⟨by omega, by omega⟩ ⟨by omega, by omega⟩) (Nat.le_of_ble_eq_true rfl) (by omega) (by omega) dX11_meantIn_32 ?_
    refine A_ifeq_b (tgt := 42) dX11_meantIn_35 (by decide) (fun h35 => ?_) (fun h35 => ?_)
    · refine A_iconst dX11_meantIn_42 ?_
      refine A_iadd dX11_meantIn_43 ?_
      refine A_istore (lv2 := [(4, _), (6, _), (0, _), (1, _), (5, _), (3, _)]) dX11_meantIn_44 (by decide) rfl ?_
      refine A_iinc (lv2 := [(6, _), (4, _), (0, _), (1, _), (5, _), (3, _)]) dX11_meantIn_46 1 rfl (by decide) rfl ?_
      refine A_goto (tgt := 15) dX11_meantIn_49 (by decide) ?_
      refine A_lv [0, 1, 2, 3, 4, 5] rfl ?_
      refine ih (n - 1) (by omega) (i + 1) _ (by omega) ⟨by omega, by omega⟩ (by omega) ?_
      obtain ⟨n, rfl⟩ : ∃ q, n = q + 1 := ⟨n - 1, by omega⟩
      clear ih
      rw [fW_s] at hK
      simp only [Nat.add_sub_cancel]
      simp only [miG] at hK
      (repeat' split at hK) <;> first | contradiction | (exfalso; omega) | exact hK | (simp_all; done)
    · refine A_iconst dX11_meantIn_38 ?_
      refine A_goto (tgt := 43) dX11_meantIn_39 (by decide) ?_
      refine A_iadd dX11_meantIn_43 ?_
      refine A_istore (lv2 := [(4, _), (6, _), (0, _), (1, _), (5, _), (3, _)]) dX11_meantIn_44 (by decide) rfl ?_
      refine A_iinc (lv2 := [(6, _), (4, _), (0, _), (1, _), (5, _), (3, _)]) dX11_meantIn_46 1 rfl (by decide) rfl ?_
      refine A_goto (tgt := 15) dX11_meantIn_49 (by decide) ?_
      refine A_lv [0, 1, 2, 3, 4, 5] rfl ?_
      refine ih (n - 1) (by omega) (i + 1) _ (by omega) ⟨by omega, by omega⟩ (by omega) ?_
      obtain ⟨n, rfl⟩ : ∃ q, n = q + 1 := ⟨n - 1, by omega⟩
      clear ih
      rw [fW_s] at hK
      simp only [Nat.add_sub_cancel]
      simp only [miG] at hK
      (repeat' split at hK) <;> first | contradiction | (exfalso; omega) | exact hK | (simp_all; done)
set_option maxRecDepth 100000 in
set_option maxHeartbeats 4000000 in
theorem w_X11_mi6 {f : Fm} {Q : State → Prop} {xs : va_W} {kk nn rc rs : Nat} (σ : Sg) (s un : Int) (hP : PI σ) (hun : un ≤ σ 84 39) (hui : inr un) (hm : kk ≤ rc ∧ nn ≤ rs) : ∀ (n : Nat) (i a : Int), 0 ≤ i → inr i → un ≤ i + n → AW l G f (RX11, cX11_meantIn, 7, (some .int)) (2, rc, rs) Q xs kk nn 58 [(4, .int (I32 (fW un (mjG σ s) n i a))), (0, .ref (lay G 84)), (1, .int (I32 s)), (3, .int (I32 un))] [] σ → AW l G f (RX11, cX11_meantIn, 7, (some .int)) (2, rc, rs) Q xs kk nn 6 [(5, .int (I32 i)), (4, .int (I32 a)), (0, .ref (lay G 84)), (1, .int (I32 s)), (3, .int (I32 un))] [] σ := by
  intro n
  induction n using Nat.strongRecOn with | _ n ih =>
  intro i a h0 hii hn hK
  obtain ⟨hi1, hi2⟩ := hii
  obtain ⟨hC1, hC2, hC3, hC4, hC5, hC6⟩ := id hP.1
  obtain ⟨hM1, hM2⟩ := id hP.2.2.2.1
  refine A_iload dX11_meantIn_6 0 rfl ?_
  refine A_iload_n dX11_meantIn_8 rfl 4 rfl ?_
  refine J_icmp_ge (tgt := 58) dX11_meantIn_9 (by decide) (i32_eq ⟨by omega, by omega⟩) (i32_eq hui) (fun h9 => ?_) (fun h9 => ?_)
  · refine A_lv [1, 2, 3, 4] rfl ?_
    cases n with
    | zero => exact hK
    | succ n => rw [fW_s, if_neg (by omega)] at hK; exact hK
  · refine A_iconst dX11_meantIn_12 ?_
    refine A_istore (lv2 := [(6, _), (5, _), (4, _), (0, _), (1, _), (3, _)]) dX11_meantIn_13 (by decide) rfl ?_
    refine A_lv [0, 2, 3, 4, 1, 5] rfl ?_
    refine w_X11_mi15 σ s i un hP (by omega) hm 8 0 a (by omega) ⟨by omega, by omega⟩ (by omega) ?_
    refine A_iinc (lv2 := [(5, _), (4, _), (0, _), (1, _), (3, _)]) dX11_meantIn_52 3 rfl (by decide) rfl ?_
    refine A_goto (tgt := 6) dX11_meantIn_55 (by decide) ?_
    refine ih (n - 1) (by omega) (i + 1) _ (by omega) ⟨by omega, by omega⟩ (by omega) ?_
    obtain ⟨n, rfl⟩ : ∃ q, n = q + 1 := ⟨n - 1, by omega⟩
    clear ih
    rw [fW_s, if_pos (by omega)] at hK
    simp only [Nat.add_sub_cancel]
    exact hK
set_option maxRecDepth 100000 in
set_option maxHeartbeats 4000000 in
theorem c_X11_meantIn (s fr un : Int) (hP : PI σ) (hfr : 0 ≤ fr ∧ fr ≤ 14) (hun : 0 ≤ un ∧ un ≤ σ 84 39) : Ct l G yX11_meantIn cX11_meantIn 7 (some .int) 2 0 0 [.ref (lay G 84), .int (I32 s), .int (I32 fr), .int (I32 un)] σ (some (.int (I32 (mnIn σ s fr un)))) (σ) := by
  obtain ⟨hC1, hC2, hC3, hC4, hC5, hC6⟩ := id hP.1
  obtain ⟨hM1, hM2⟩ := id hP.2.2.2.1
  refine Ct.of (by decide +kernel) (Nat.le_of_ble_eq_true rfl) (fun f => ?_)
  show AW _ _ _ _ _ _ _ _ _ _ [(0, _), (1, _), (2, _), (3, _)] _ _
  refine A_iconst dX11_meantIn_0 ?_
  refine A_istore (lv2 := [(4, _), (0, _), (1, _), (2, _), (3, _)]) dX11_meantIn_1 (by decide) rfl ?_
  refine A_iload_n dX11_meantIn_3 rfl 3 rfl ?_
  refine A_istore (lv2 := [(5, _), (4, _), (0, _), (1, _), (2, _), (3, _)]) dX11_meantIn_4 (by decide) rfl ?_
  refine A_lv [0, 1, 2, 3, 5] rfl ?_
  refine w_X11_mi6 σ s un hP hun.2 ⟨by omega, by omega⟩ (by omega) 14 fr 0 (by omega) ⟨by omega, by omega⟩ (by omega) ?_
  refine A_iload dX11_meantIn_58 0 rfl ?_
  exact A_iret dX11_meantIn_60 (by rfl) (by rfl)
set_option maxRecDepth 100000 in
set_option maxHeartbeats 4000000 in
theorem w_X11_su {f : Fm} {Q : State → Prop} {xs : va_W} {kk nn rc rs : Nat} (σ : Sg) (d : Int) (p : Bool) (hP : PI σ) (hd : 0 ≤ d ∧ d < σ 84 39) (hm : kk ≤ rc ∧ nn ≤ rs) : ∀ (n : Nat) (i : Int) (a : Int), 0 ≤ i → inr i → i + n = 8 → AW l G f (RX11, cX11_sumOf, 5, (some .int)) (1, rc, rs) Q xs kk nn 63 [(3, .int (I32 (fW (σ 84 25) (suG σ d p) n i a))), (0, .ref (lay G 84)), (1, .int (I32 d)), (2, .int (I32 (b2i p)))] [] (σ) → AW l G f (RX11, cX11_sumOf, 5, (some .int)) (1, rc, rs) Q xs kk nn 5 [(4, .int (I32 i)), (3, .int (I32 a)), (0, .ref (lay G 84)), (1, .int (I32 d)), (2, .int (I32 (b2i p)))] [] (σ) := by
  intro n
  induction n using Nat.strongRecOn with | _ n ih =>
  intro i a h0 hii hn  hK
  obtain ⟨hi1, hi2⟩ := hii
  obtain ⟨hC1, hC2, hC3, hC4, hC5, hC6⟩ := id hP.1
  obtain ⟨hM1, hM2⟩ := id hP.2.2.2.1
  refine A_iload dX11_sumOf_5 0 rfl ?_
  refine A_aload_n dX11_sumOf_7 rfl 2 rfl ?_
  refine A_geti fl_X11_289 lk_84 rfl dX11_sumOf_8 ?_
  refine J_icmp_ge (tgt := 63) dX11_sumOf_11 (by decide) (by first | exact i32_eq (by assumption) | with_reducible exact iand_i32 _ _ | with_reducible exact mnIn_i32 _ _ _ | with_reducible exact tiV_i32 _ | exact i32_eq ⟨by omega, by omega⟩ | with_reducible exact i32_i32 _ | with_reducible exact i32_eq (b2i_inr _) | rfl) (by first | exact i32_eq (by assumption) | with_reducible exact iand_i32 _ _ | with_reducible exact mnIn_i32 _ _ _ | with_reducible exact tiV_i32 _ | exact i32_eq ⟨by omega, by omega⟩ | with_reducible exact i32_i32 _ | with_reducible exact i32_eq (b2i_inr _) | rfl) (fun h11 => ?_) (fun h11 => ?_)
  · refine A_lv [1, 2, 3, 4] rfl ?_
    clear ih
    rcases n with _ | n <;> simp only [fW] at hK <;> (repeat' split at hK) <;> first | contradiction | (exfalso; omega) | exact hK | (simp_all; done)
  · refine A_aload_n dX11_sumOf_14 rfl 2 rfl ?_
    refine A_iload_n dX11_sumOf_15 rfl 3 rfl ?_
    refine A_iload dX11_sumOf_16 0 rfl ?_
    refine A_Va2 mv_X11_362 lk_84 rfl rfl (c_X11_dishAt d i ⟨by omega, by omega⟩ ⟨by omega, by omega⟩) (Nat.le_of_ble_eq_true rfl) (by omega) (by omega) dX11_sumOf_18 ?_
    have hdA := hP.dA hd (c := i) ⟨by omega, by omega⟩
    refine A_iconst dX11_sumOf_21 ?_
    refine J_icmp_eq (tgt := 57) dX11_sumOf_22 (by decide) (by first | exact i32_eq (by assumption) | with_reducible exact iand_i32 _ _ | with_reducible exact mnIn_i32 _ _ _ | with_reducible exact tiV_i32 _ | exact i32_eq ⟨by omega, by omega⟩ | with_reducible exact i32_i32 _ | with_reducible exact i32_eq (b2i_inr _) | rfl) (by first | exact i32_eq (by assumption) | with_reducible exact iand_i32 _ _ | with_reducible exact mnIn_i32 _ _ _ | with_reducible exact tiV_i32 _ | exact i32_eq ⟨by omega, by omega⟩ | with_reducible exact i32_i32 _ | with_reducible exact i32_eq (b2i_inr _) | rfl) (fun h22 => ?_) (fun h22 => ?_)
    · refine A_iinc (lv2 := [(4, _), (3, _), (0, _), (1, _), (2, _)]) dX11_sumOf_57 0 rfl (by decide) rfl ?_
      refine A_goto (tgt := 5) dX11_sumOf_60 (by decide) ?_
      refine A_lv [0, 1, 2, 3, 4] rfl ?_
      refine ih (n - 1) (by omega) (i + 1) _ (by omega) ⟨by omega, by omega⟩ (by omega) ?_
      obtain ⟨n, rfl⟩ : ∃ q, n = q + 1 := ⟨n - 1, by omega⟩
      clear ih
      rw [fW_s] at hK
      simp only [Nat.add_sub_cancel]
      simp only [suG] at hK
      (repeat' split at hK) <;> first | contradiction | (exfalso; omega) | exact hK | (simp_all; done)
    · refine A_iload_n dX11_sumOf_25 rfl 1 rfl ?_
      refine A_iload_n dX11_sumOf_26 rfl 4 rfl ?_
      refine A_ifeq_b (tgt := 44) dX11_sumOf_27 (by decide) (fun h27 => ?_) (fun h27 => ?_)
      · refine A_aload_n dX11_sumOf_44 rfl 2 rfl ?_
        refine A_aload_n dX11_sumOf_45 rfl 2 rfl ?_
        refine A_iload_n dX11_sumOf_46 rfl 3 rfl ?_
        refine A_iload dX11_sumOf_47 0 rfl ?_
        refine A_Va2 mv_X11_362 lk_84 rfl rfl (c_X11_dishAt d i ⟨by omega, by omega⟩ ⟨by omega, by omega⟩) (Nat.le_of_ble_eq_true rfl) (by omega) (by omega) dX11_sumOf_49 ?_
        refine A_Va1 mv_X11_344 lk_84 rfl rfl (c_X11_energyOf _ hP ⟨by omega, by omega⟩) (Nat.le_of_ble_eq_true rfl) (by omega) (by omega) dX11_sumOf_52 ?_
        refine A_iadd dX11_sumOf_55 ?_
        refine A_istore_n (lv2 := [(3, _), (4, _), (0, _), (1, _), (2, _)]) dX11_sumOf_56 rfl (by decide) rfl ?_
        refine A_iinc (lv2 := [(4, _), (3, _), (0, _), (1, _), (2, _)]) dX11_sumOf_57 1 rfl (by decide) rfl ?_
        refine A_goto (tgt := 5) dX11_sumOf_60 (by decide) ?_
        refine A_lv [0, 1, 2, 3, 4] rfl ?_
        refine ih (n - 1) (by omega) (i + 1) _ (by omega) ⟨by omega, by omega⟩ (by omega) ?_
        obtain ⟨n, rfl⟩ : ∃ q, n = q + 1 := ⟨n - 1, by omega⟩
        clear ih
        rw [fW_s] at hK
        simp only [Nat.add_sub_cancel]
        simp only [suG] at hK
        (repeat' split at hK) <;> first | contradiction | (exfalso; omega) | exact hK | (simp_all; done)
      · refine A_aload_n dX11_sumOf_30 rfl 2 rfl ?_
        refine A_aload_n dX11_sumOf_31 rfl 2 rfl ?_
        refine A_iload_n dX11_sumOf_32 rfl 3 rfl ?_
        refine A_iload dX11_sumOf_33 0 rfl ?_
        refine A_Va2 mv_X11_362 lk_84 rfl rfl (c_X11_dishAt d i ⟨by omega, by omega⟩ ⟨by omega, by omega⟩) (Nat.le_of_ble_eq_true rfl) (by omega) (by omega) dX11_sumOf_35 ?_
        refine A_Va1 mv_X11_347 lk_84 rfl rfl (c_X11_priceOf _ hP ⟨by omega, by omega⟩) (Nat.le_of_ble_eq_true rfl) (by omega) (by omega) dX11_sumOf_38 ?_
        refine A_goto (tgt := 55) dX11_sumOf_41 (by decide) ?_
        refine A_iadd dX11_sumOf_55 ?_
        refine A_istore_n (lv2 := [(3, _), (4, _), (0, _), (1, _), (2, _)]) dX11_sumOf_56 rfl (by decide) rfl ?_
        refine A_iinc (lv2 := [(4, _), (3, _), (0, _), (1, _), (2, _)]) dX11_sumOf_57 1 rfl (by decide) rfl ?_
        refine A_goto (tgt := 5) dX11_sumOf_60 (by decide) ?_
        refine A_lv [0, 1, 2, 3, 4] rfl ?_
        refine ih (n - 1) (by omega) (i + 1) _ (by omega) ⟨by omega, by omega⟩ (by omega) ?_
        obtain ⟨n, rfl⟩ : ∃ q, n = q + 1 := ⟨n - 1, by omega⟩
        clear ih
        rw [fW_s] at hK
        simp only [Nat.add_sub_cancel]
        simp only [suG] at hK
        (repeat' split at hK) <;> first | contradiction | (exfalso; omega) | exact hK | (simp_all; done)
set_option maxRecDepth 100000 in
set_option maxHeartbeats 4000000 in
theorem c_X11_sumOf (d : Int) (p : Bool) (hP : PI σ) (hd : 0 ≤ d ∧ d < σ 84 39) : Ct l G yX11_sumOf cX11_sumOf 5 (some .int) 1 0 0 [.ref (lay G 84), .int (I32 d), .int (I32 (b2i p))] σ (some (.int (I32 (suV2 σ d p)))) (σ) := by
  obtain ⟨hC1, hC2, hC3, hC4, hC5, hC6⟩ := id hP.1
  obtain ⟨hM1, hM2⟩ := id hP.2.2.2.1
  refine Ct.of (by decide +kernel) (Nat.le_of_ble_eq_true rfl) (fun f => ?_)
  show AW _ _ _ _ _ _ _ _ _ _ [(0, _), (1, _), (2, _)] _ _
  refine A_iconst dX11_sumOf_0 ?_
  refine A_istore_n (lv2 := [(3, _), (0, _), (1, _), (2, _)]) dX11_sumOf_1 rfl (by decide) rfl ?_
  refine A_iconst dX11_sumOf_2 ?_
  refine A_istore (lv2 := [(4, _), (3, _), (0, _), (1, _), (2, _)]) dX11_sumOf_3 (by decide) rfl ?_
  refine A_lv [0, 1, 2, 3, 4] rfl ?_
  refine w_X11_su σ d p hP hd (by omega) 8 0 0 (by omega) ⟨by omega, by omega⟩ (by omega) ?_
  refine A_iload_n dX11_sumOf_63 rfl 0 rfl ?_
  exact A_iret dX11_sumOf_64 (by rfl) (by rfl)
theorem apG_1 {s r one oth a : Int} (h1 : isM σ s (one.tdiv (σ 84 25)) (one - one.tdiv (σ 84 25) * σ 84 25) = true) (h2 : isM σ s (oth.tdiv (σ 84 25)) (oth - oth.tdiv (σ 84 25) * σ 84 25) = true) (h3 : one.tdiv (σ 84 25) - oth.tdiv (σ 84 25) < σ 106 r.toNat) : apG σ s r one oth a = a + 1 := (if_pos (⟨h1, h2⟩ : _ ∧ _)).trans (if_pos h3)
theorem apG_2 {s r one oth a : Int} (h1 : isM σ s (one.tdiv (σ 84 25)) (one - one.tdiv (σ 84 25) * σ 84 25) = true) (h2 : isM σ s (oth.tdiv (σ 84 25)) (oth - oth.tdiv (σ 84 25) * σ 84 25) = true) (h3 : ¬ one.tdiv (σ 84 25) - oth.tdiv (σ 84 25) < σ 106 r.toNat) : apG σ s r one oth a = a + 0 := (if_pos (⟨h1, h2⟩ : _ ∧ _)).trans (if_neg h3)
theorem apG_3 {s r one oth a : Int} (h1 : isM σ s (one.tdiv (σ 84 25)) (one - one.tdiv (σ 84 25) * σ 84 25) = false) : apG σ s r one oth a = a + 0 := if_neg (fun z : _ ∧ _ => absurd (z.1 : isM σ s (one.tdiv (σ 84 25)) (one - one.tdiv (σ 84 25) * σ 84 25) = true) (by rw [h1]; decide))
theorem apG_4 {s r one oth a : Int} (h2 : isM σ s (oth.tdiv (σ 84 25)) (oth - oth.tdiv (σ 84 25) * σ 84 25) = false) : apG σ s r one oth a = a + 0 := if_neg (fun z : _ ∧ _ => absurd (z.2 : isM σ s (oth.tdiv (σ 84 25)) (oth - oth.tdiv (σ 84 25) * σ 84 25) = true) (by rw [h2]; decide))
set_option maxRecDepth 100000 in
set_option maxHeartbeats 4000000 in
theorem w_X11_rf37 {f : Fm} {Q : State → Prop} {xs : va_W} {kk nn rc rs : Nat} (σ : Sg) (s r one : Int) (hP : PI σ) (hr : 0 ≤ r ∧ r < σ 84 30) (ho : 0 ≤ one ∧ one < σ 84 39 * σ 84 25) (hm : kk ≤ rc ∧ nn ≤ rs) : ∀ (n : Nat) (i : Int) (a : Int), 0 ≤ i → inr i → one ≤ i + n → AW l G f (RX11, cX11_ruleFaults, 7, (some .int)) (3, rc, rs) Q xs kk nn 138 [(3, .int (I32 (fW (one) (apG σ s r one) n i a))), (0, .ref (lay G 84)), (1, .int (I32 r)), (2, .int (I32 s)), (4, .int (I32 one))] [] (σ) → AW l G f (RX11, cX11_ruleFaults, 7, (some .int)) (3, rc, rs) Q xs kk nn 37 [(5, .int (I32 i)), (3, .int (I32 a)), (0, .ref (lay G 84)), (1, .int (I32 r)), (2, .int (I32 s)), (4, .int (I32 one))] [] (σ) := by
  intro n
  induction n using Nat.strongRecOn with | _ n ih =>
  intro i a h0 hii hn  hK
  obtain ⟨hi1, hi2⟩ := hii
  obtain ⟨hC1, hC2, hC3, hC4, hC5, hC6⟩ := id hP.1
  obtain ⟨hM1, hM2⟩ := id hP.2.2.2.1
  have hR := hP.2.2.1 r.toNat (by omega)
  have hdc := dc_le ⟨hM1, hM2⟩ hC4
  have hq1 := qd_in hC4.1 ho
  refine A_iload dX11_ruleFaults_37 0 rfl ?_
  refine A_iload dX11_ruleFaults_39 5 rfl ?_
  refine J_icmp_ge (tgt := 138) dX11_ruleFaults_41 (by decide) (by first | exact i32_eq (by assumption) | with_reducible exact iand_i32 _ _ | with_reducible exact mnIn_i32 _ _ _ | with_reducible exact tiV_i32 _ | exact i32_eq ⟨by omega, by omega⟩ | with_reducible exact i32_i32 _ | with_reducible exact i32_eq (b2i_inr _) | rfl) (by first | exact i32_eq (by assumption) | with_reducible exact iand_i32 _ _ | with_reducible exact mnIn_i32 _ _ _ | with_reducible exact tiV_i32 _ | exact i32_eq ⟨by omega, by omega⟩ | with_reducible exact i32_i32 _ | with_reducible exact i32_eq (b2i_inr _) | rfl) (fun h41 => ?_) (fun h41 => ?_)
  · refine A_lv [1, 2, 3, 4, 5] rfl ?_
    clear ih
    rcases n with _ | n <;> simp only [fW] at hK <;> (repeat' split at hK) <;> first | contradiction | (exfalso; omega) | exact hK | (simp_all; done)
  · have hq2 := @qd_in (σ 84 39) (σ 84 25) i hC4.1 ⟨by omega, by omega⟩
    refine A_aload_n dX11_ruleFaults_44 rfl 2 rfl ?_
    refine A_iload_n dX11_ruleFaults_45 rfl 4 rfl ?_
    refine A_iload dX11_ruleFaults_46 5 rfl ?_
    refine A_aload_n dX11_ruleFaults_48 rfl 2 rfl ?_
    refine A_geti fl_X11_289 lk_84 rfl dX11_ruleFaults_49 ?_
    refine J_idiv dX11_ruleFaults_52 (by first | exact i32_eq (by assumption) | with_reducible exact iand_i32 _ _ | with_reducible exact mnIn_i32 _ _ _ | with_reducible exact tiV_i32 _ | exact i32_eq ⟨by omega, by omega⟩ | with_reducible exact i32_i32 _ | with_reducible exact i32_eq (b2i_inr _) | rfl) (by first | exact i32_eq (by assumption) | with_reducible exact iand_i32 _ _ | with_reducible exact mnIn_i32 _ _ _ | with_reducible exact tiV_i32 _ | exact i32_eq ⟨by omega, by omega⟩ | with_reducible exact i32_i32 _ | with_reducible exact i32_eq (b2i_inr _) | rfl) (by omega) ?_
    refine A_iload dX11_ruleFaults_53 5 rfl ?_
    refine A_aload_n dX11_ruleFaults_55 rfl 2 rfl ?_
    refine A_geti fl_X11_289 lk_84 rfl dX11_ruleFaults_56 ?_
    refine J_irem dX11_ruleFaults_59 (by first | exact i32_eq (by assumption) | with_reducible exact iand_i32 _ _ | with_reducible exact mnIn_i32 _ _ _ | with_reducible exact tiV_i32 _ | exact i32_eq ⟨by omega, by omega⟩ | with_reducible exact i32_i32 _ | with_reducible exact i32_eq (b2i_inr _) | rfl) (by first | exact i32_eq (by assumption) | with_reducible exact iand_i32 _ _ | with_reducible exact mnIn_i32 _ _ _ | with_reducible exact tiV_i32 _ | exact i32_eq ⟨by omega, by omega⟩ | with_reducible exact i32_i32 _ | with_reducible exact i32_eq (b2i_inr _) | rfl) (by omega) ?_
    refine A_Va3 mv_X11_365 lk_84 rfl rfl (c_X11_isMeant _ _ _ hP hq1.2.1 hq1.2.2) (Nat.le_of_ble_eq_true rfl) (by omega) (by omega) dX11_ruleFaults_60 ?_
    refine A_ifeq_b (tgt := 92) dX11_ruleFaults_63 (by decide) (fun h63 => ?_) (fun h63 => ?_)
    · refine A_iconst dX11_ruleFaults_92 ?_
      refine A_istore (lv2 := [(6, _), (5, _), (3, _), (0, _), (1, _), (2, _), (4, _)]) dX11_ruleFaults_93 (by decide) rfl ?_
      refine A_iload_n dX11_ruleFaults_95 rfl 2 rfl ?_
      refine A_iload dX11_ruleFaults_96 0 rfl ?_
      refine A_if_eq (tgt := 129) dX11_ruleFaults_98 (by decide) ⟨by decide, by decide⟩ (fun _ => ?_) (fun h => absurd h (by decide))
      refine A_iconst dX11_ruleFaults_129 ?_
      refine A_iadd dX11_ruleFaults_130 ?_
      refine A_istore_n (lv2 := [(3, _), (6, _), (5, _), (0, _), (1, _), (2, _), (4, _)]) dX11_ruleFaults_131 rfl (by decide) rfl ?_
      refine A_iinc (lv2 := [(5, _), (3, _), (6, _), (0, _), (1, _), (2, _), (4, _)]) dX11_ruleFaults_132 2 rfl (by decide) rfl ?_
      refine A_goto (tgt := 37) dX11_ruleFaults_135 (by decide) ?_
      refine A_lv [0, 1, 3, 4, 5, 6] rfl ?_
      refine ih (n - 1) (by omega) (i + 1) _ (by omega) ⟨by omega, by omega⟩ (by omega) ?_
      obtain ⟨n, rfl⟩ : ∃ q, n = q + 1 := ⟨n - 1, by omega⟩
      clear ih
      rw [fW_s] at hK
      simp only [Nat.add_sub_cancel]
      rw [if_pos (by omega)] at hK
      first | (rw [apG_1 (r := r) h63 h85 (by omega)] at hK; exact hK) | (rw [apG_2 (r := r) h63 h85 (by omega)] at hK; exact hK) | (rw [apG_3 (r := r) (oth := i) h63] at hK; exact hK) | (rw [apG_4 (r := r) h85] at hK; exact hK)
    · refine A_aload_n dX11_ruleFaults_66 rfl 2 rfl ?_
      refine A_iload_n dX11_ruleFaults_67 rfl 4 rfl ?_
      refine A_iload dX11_ruleFaults_68 0 rfl ?_
      refine A_aload_n dX11_ruleFaults_70 rfl 2 rfl ?_
      refine A_geti fl_X11_289 lk_84 rfl dX11_ruleFaults_71 ?_
      try simp (disch := omega) only [up_k, up_j, up_s]
      refine J_idiv dX11_ruleFaults_74 (by first | exact i32_eq (by assumption) | with_reducible exact iand_i32 _ _ | with_reducible exact mnIn_i32 _ _ _ | with_reducible exact tiV_i32 _ | exact i32_eq ⟨by omega, by omega⟩ | with_reducible exact i32_i32 _ | with_reducible exact i32_eq (b2i_inr _) | rfl) (by first | exact i32_eq (by assumption) | with_reducible exact iand_i32 _ _ | with_reducible exact mnIn_i32 _ _ _ | with_reducible exact tiV_i32 _ | exact i32_eq ⟨by omega, by omega⟩ | with_reducible exact i32_i32 _ | with_reducible exact i32_eq (b2i_inr _) | rfl) (by omega) ?_
      refine A_iload dX11_ruleFaults_75 0 rfl ?_
      refine A_aload_n dX11_ruleFaults_77 rfl 2 rfl ?_
      refine A_geti fl_X11_289 lk_84 rfl dX11_ruleFaults_78 ?_
      try simp (disch := omega) only [up_k, up_j, up_s]
      refine J_irem dX11_ruleFaults_81 (by first | exact i32_eq (by assumption) | with_reducible exact iand_i32 _ _ | with_reducible exact mnIn_i32 _ _ _ | with_reducible exact tiV_i32 _ | exact i32_eq ⟨by omega, by omega⟩ | with_reducible exact i32_i32 _ | with_reducible exact i32_eq (b2i_inr _) | rfl) (by first | exact i32_eq (by assumption) | with_reducible exact iand_i32 _ _ | with_reducible exact mnIn_i32 _ _ _ | with_reducible exact tiV_i32 _ | exact i32_eq ⟨by omega, by omega⟩ | with_reducible exact i32_i32 _ | with_reducible exact i32_eq (b2i_inr _) | rfl) (by omega) ?_
      refine A_Va3 mv_X11_365 lk_84 rfl rfl (c_X11_isMeant _ _ _ hP hq2.2.1 hq2.2.2) (Nat.le_of_ble_eq_true rfl) (by omega) (by omega) dX11_ruleFaults_82 ?_
      refine A_ifeq_b (tgt := 92) dX11_ruleFaults_85 (by decide) (fun h85 => ?_) (fun h85 => ?_)
      · refine A_iconst dX11_ruleFaults_92 ?_
        refine A_istore (lv2 := [(6, _), (5, _), (3, _), (0, _), (1, _), (2, _), (4, _)]) dX11_ruleFaults_93 (by decide) rfl ?_
        refine A_iload_n dX11_ruleFaults_95 rfl 2 rfl ?_
        refine A_iload dX11_ruleFaults_96 0 rfl ?_
        refine A_if_eq (tgt := 129) dX11_ruleFaults_98 (by decide) ⟨by decide, by decide⟩ (fun _ => ?_) (fun h => absurd h (by decide))
        refine A_iconst dX11_ruleFaults_129 ?_
        refine A_iadd dX11_ruleFaults_130 ?_
        refine A_istore_n (lv2 := [(3, _), (6, _), (5, _), (0, _), (1, _), (2, _), (4, _)]) dX11_ruleFaults_131 rfl (by decide) rfl ?_
        refine A_iinc (lv2 := [(5, _), (3, _), (6, _), (0, _), (1, _), (2, _), (4, _)]) dX11_ruleFaults_132 2 rfl (by decide) rfl ?_
        refine A_goto (tgt := 37) dX11_ruleFaults_135 (by decide) ?_
        refine A_lv [0, 1, 3, 4, 5, 6] rfl ?_
        refine ih (n - 1) (by omega) (i + 1) _ (by omega) ⟨by omega, by omega⟩ (by omega) ?_
        obtain ⟨n, rfl⟩ : ∃ q, n = q + 1 := ⟨n - 1, by omega⟩
        clear ih
        rw [fW_s] at hK
        simp only [Nat.add_sub_cancel]
        rw [if_pos (by omega)] at hK
        first | (rw [apG_1 (r := r) h63 h85 (by omega)] at hK; exact hK) | (rw [apG_2 (r := r) h63 h85 (by omega)] at hK; exact hK) | (rw [apG_3 (r := r) (oth := i) h63] at hK; exact hK) | (rw [apG_4 (r := r) h85] at hK; exact hK)
      · refine A_iconst dX11_ruleFaults_88 ?_
        refine A_goto (tgt := 93) dX11_ruleFaults_89 (by decide) ?_
        refine A_istore (lv2 := [(6, _), (5, _), (3, _), (0, _), (1, _), (2, _), (4, _)]) dX11_ruleFaults_93 (by decide) rfl ?_
        refine A_iload_n dX11_ruleFaults_95 rfl 2 rfl ?_
        refine A_iload dX11_ruleFaults_96 0 rfl ?_
        refine A_if_eq (tgt := 129) dX11_ruleFaults_98 (by decide) ⟨by decide, by decide⟩ (fun h => absurd h (by decide)) (fun _ => ?_)
        refine A_iload dX11_ruleFaults_101 6 rfl ?_
        refine A_aload_n dX11_ruleFaults_103 rfl 3 rfl ?_
        refine A_geti fl_X11_289 lk_84 rfl dX11_ruleFaults_104 ?_
        try simp (disch := omega) only [up_k, up_j, up_s]
        refine J_idiv dX11_ruleFaults_107 (by first | exact i32_eq (by assumption) | with_reducible exact iand_i32 _ _ | with_reducible exact mnIn_i32 _ _ _ | with_reducible exact tiV_i32 _ | exact i32_eq ⟨by omega, by omega⟩ | with_reducible exact i32_i32 _ | with_reducible exact i32_eq (b2i_inr _) | rfl) (by first | exact i32_eq (by assumption) | with_reducible exact iand_i32 _ _ | with_reducible exact mnIn_i32 _ _ _ | with_reducible exact tiV_i32 _ | exact i32_eq ⟨by omega, by omega⟩ | with_reducible exact i32_i32 _ | with_reducible exact i32_eq (b2i_inr _) | rfl) (by omega) ?_
        refine A_iload dX11_ruleFaults_108 1 rfl ?_
        refine A_aload_n dX11_ruleFaults_110 rfl 3 rfl ?_
        refine A_geti fl_X11_289 lk_84 rfl dX11_ruleFaults_111 ?_
        try simp (disch := omega) only [up_k, up_j, up_s]
        refine J_idiv dX11_ruleFaults_114 (by first | exact i32_eq (by assumption) | with_reducible exact iand_i32 _ _ | with_reducible exact mnIn_i32 _ _ _ | with_reducible exact tiV_i32 _ | exact i32_eq ⟨by omega, by omega⟩ | with_reducible exact i32_i32 _ | with_reducible exact i32_eq (b2i_inr _) | rfl) (by first | exact i32_eq (by assumption) | with_reducible exact iand_i32 _ _ | with_reducible exact mnIn_i32 _ _ _ | with_reducible exact tiV_i32 _ | exact i32_eq ⟨by omega, by omega⟩ | with_reducible exact i32_i32 _ | with_reducible exact i32_eq (b2i_inr _) | rfl) (by omega) ?_
        refine A_isub dX11_ruleFaults_115 ?_
        refine A_aload_n dX11_ruleFaults_116 rfl 3 rfl ?_
        refine A_getr fl_X11_78 lk_84 rfl dX11_ruleFaults_117 ?_
        refine A_iload_n dX11_ruleFaults_120 rfl 4 rfl ?_
        refine J_iald lk_106 (by first | exact i32_eq (by assumption) | with_reducible exact iand_i32 _ _ | with_reducible exact mnIn_i32 _ _ _ | with_reducible exact tiV_i32 _ | exact i32_eq ⟨by omega, by omega⟩ | with_reducible exact i32_i32 _ | with_reducible exact i32_eq (b2i_inr _) | rfl) (by omega) (by omega) (by decide) dX11_ruleFaults_121 ?_
        try simp (disch := omega) only [up_k, up_j, up_s]
        refine J_icmp_ge (tgt := 129) dX11_ruleFaults_122 (by decide) (by first | exact i32_eq (by assumption) | with_reducible exact iand_i32 _ _ | with_reducible exact mnIn_i32 _ _ _ | with_reducible exact tiV_i32 _ | exact i32_eq ⟨by omega, by omega⟩ | with_reducible exact i32_i32 _ | with_reducible exact i32_eq (b2i_inr _) | rfl) (by first | exact i32_eq (by assumption) | with_reducible exact iand_i32 _ _ | with_reducible exact mnIn_i32 _ _ _ | with_reducible exact tiV_i32 _ | exact i32_eq ⟨by omega, by omega⟩ | with_reducible exact i32_i32 _ | with_reducible exact i32_eq (b2i_inr _) | rfl) (fun h122 => ?_) (fun h122 => ?_)
        · refine A_iconst dX11_ruleFaults_129 ?_
          refine A_iadd dX11_ruleFaults_130 ?_
          refine A_istore_n (lv2 := [(3, _), (6, _), (5, _), (0, _), (1, _), (2, _), (4, _)]) dX11_ruleFaults_131 rfl (by decide) rfl ?_
          refine A_iinc (lv2 := [(5, _), (3, _), (6, _), (0, _), (1, _), (2, _), (4, _)]) dX11_ruleFaults_132 2 rfl (by decide) rfl ?_
          refine A_goto (tgt := 37) dX11_ruleFaults_135 (by decide) ?_
          refine A_lv [0, 1, 3, 4, 5, 6] rfl ?_
          refine ih (n - 1) (by omega) (i + 1) _ (by omega) ⟨by omega, by omega⟩ (by omega) ?_
          obtain ⟨n, rfl⟩ : ∃ q, n = q + 1 := ⟨n - 1, by omega⟩
          clear ih
          rw [fW_s] at hK
          simp only [Nat.add_sub_cancel]
          rw [if_pos (by omega)] at hK
          first | (rw [apG_1 (r := r) h63 h85 (by omega)] at hK; exact hK) | (rw [apG_2 (r := r) h63 h85 (by omega)] at hK; exact hK) | (rw [apG_3 (r := r) (oth := i) h63] at hK; exact hK) | (rw [apG_4 (r := r) h85] at hK; exact hK)
        · refine A_iconst dX11_ruleFaults_125 ?_
          refine A_goto (tgt := 130) dX11_ruleFaults_126 (by decide) ?_
          refine A_iadd dX11_ruleFaults_130 ?_
          refine A_istore_n (lv2 := [(3, _), (6, _), (5, _), (0, _), (1, _), (2, _), (4, _)]) dX11_ruleFaults_131 rfl (by decide) rfl ?_
          refine A_iinc (lv2 := [(5, _), (3, _), (6, _), (0, _), (1, _), (2, _), (4, _)]) dX11_ruleFaults_132 2 rfl (by decide) rfl ?_
          refine A_goto (tgt := 37) dX11_ruleFaults_135 (by decide) ?_
          refine A_lv [0, 1, 3, 4, 5, 6] rfl ?_
          refine ih (n - 1) (by omega) (i + 1) _ (by omega) ⟨by omega, by omega⟩ (by omega) ?_
          obtain ⟨n, rfl⟩ : ∃ q, n = q + 1 := ⟨n - 1, by omega⟩
          clear ih
          rw [fW_s] at hK
          simp only [Nat.add_sub_cancel]
          rw [if_pos (by omega)] at hK
          first | (rw [apG_1 (r := r) h63 h85 (by omega)] at hK; exact hK) | (rw [apG_2 (r := r) h63 h85 (by omega)] at hK; exact hK) | (rw [apG_3 (r := r) (oth := i) h63] at hK; exact hK) | (rw [apG_4 (r := r) h85] at hK; exact hK)
set_option maxRecDepth 100000 in
set_option maxHeartbeats 4000000 in
theorem w_X11_rf20 {f : Fm} {Q : State → Prop} {xs : va_W} {kk nn rc rs : Nat} (σ : Sg) (s r : Int) (hP : PI σ) (hr : 0 ≤ r ∧ r < σ 84 30) (hm : kk ≤ rc ∧ nn ≤ rs) : ∀ (n : Nat) (i : Int) (a : Int), 0 ≤ i → inr i → σ 84 39 * σ 84 25 ≤ i + n → AW l G f (RX11, cX11_ruleFaults, 7, (some .int)) (3, rc, rs) Q xs kk nn 144 [(3, .int (I32 (fW (σ 84 39 * σ 84 25) (aoG σ s r) n i a))), (0, .ref (lay G 84)), (1, .int (I32 r)), (2, .int (I32 s))] [] (σ) → AW l G f (RX11, cX11_ruleFaults, 7, (some .int)) (3, rc, rs) Q xs kk nn 20 [(4, .int (I32 i)), (3, .int (I32 a)), (0, .ref (lay G 84)), (1, .int (I32 r)), (2, .int (I32 s))] [] (σ) := by
  intro n
  induction n using Nat.strongRecOn with | _ n ih =>
  intro i a h0 hii hn  hK
  obtain ⟨hi1, hi2⟩ := hii
  obtain ⟨hC1, hC2, hC3, hC4, hC5, hC6⟩ := id hP.1
  obtain ⟨hM1, hM2⟩ := id hP.2.2.2.1
  have hR := hP.2.2.1 r.toNat (by omega)
  have hdc := dc_le ⟨hM1, hM2⟩ hC4
  refine A_iload dX11_ruleFaults_20 0 rfl ?_
  refine A_aload_n dX11_ruleFaults_22 rfl 2 rfl ?_
  refine A_geti fl_X11_320 lk_84 rfl dX11_ruleFaults_23 ?_
  refine A_aload_n dX11_ruleFaults_26 rfl 2 rfl ?_
  refine A_geti fl_X11_289 lk_84 rfl dX11_ruleFaults_27 ?_
  refine A_imul dX11_ruleFaults_30 ?_
  refine J_icmp_ge (tgt := 144) dX11_ruleFaults_31 (by decide) (by first | exact i32_eq (by assumption) | with_reducible exact iand_i32 _ _ | with_reducible exact mnIn_i32 _ _ _ | with_reducible exact tiV_i32 _ | exact i32_eq ⟨by omega, by omega⟩ | with_reducible exact i32_i32 _ | with_reducible exact i32_eq (b2i_inr _) | rfl) (by first | exact i32_eq (by assumption) | with_reducible exact iand_i32 _ _ | with_reducible exact mnIn_i32 _ _ _ | with_reducible exact tiV_i32 _ | exact i32_eq ⟨by omega, by omega⟩ | with_reducible exact i32_i32 _ | with_reducible exact i32_eq (b2i_inr _) | rfl) (fun h31 => ?_) (fun h31 => ?_)
  · refine A_lv [1, 2, 3, 4] rfl ?_
    clear ih
    rcases n with _ | n <;> simp only [fW] at hK <;> (repeat' split at hK) <;> first | contradiction | (exfalso; omega) | exact hK | (simp_all; done)
  · refine A_iconst dX11_ruleFaults_34 ?_
    refine A_istore (lv2 := [(5, _), (4, _), (3, _), (0, _), (1, _), (2, _)]) dX11_ruleFaults_35 (by decide) rfl ?_
    refine A_lv [0, 2, 3, 4, 5, 1] rfl ?_
    refine w_X11_rf37 σ s r i hP hr ⟨by omega, by omega⟩ hm 112 0 _ (by omega) ⟨by omega, by omega⟩ (by omega) ?_
    refine A_iinc (lv2 := [(4, _), (3, _), (0, _), (1, _), (2, _)]) dX11_ruleFaults_138 4 rfl (by decide) rfl ?_
    refine A_goto (tgt := 20) dX11_ruleFaults_141 (by decide) ?_
    refine ih (n - 1) (by omega) (i + 1) _ (by omega) ⟨by omega, by omega⟩ (by omega) ?_
    obtain ⟨n, rfl⟩ : ∃ q, n = q + 1 := ⟨n - 1, by omega⟩
    clear ih
    rw [fW_s, if_pos (by omega)] at hK
    simp only [Nat.add_sub_cancel]
    exact hK
set_option maxRecDepth 100000 in
set_option maxHeartbeats 4000000 in
theorem w_X11_rf160 {f : Fm} {Q : State → Prop} {xs : va_W} {kk nn rc rs : Nat} (σ : Sg) (s r : Int) (hP : PI σ) (hr : 0 ≤ r ∧ r < σ 84 30) (hm : kk ≤ rc ∧ nn ≤ rs) : ∀ (n : Nat) (i : Int) (a : Int), 0 ≤ i → inr i → σ 84 39 ≤ i + n → AW l G f (RX11, cX11_ruleFaults, 7, (some .int)) (3, rc, rs) Q xs kk nn 208 [(3, .int (I32 (fW (σ 84 39) (egG σ r) n i a))), (0, .ref (lay G 84)), (1, .int (I32 r)), (2, .int (I32 s))] [] (σ) → AW l G f (RX11, cX11_ruleFaults, 7, (some .int)) (3, rc, rs) Q xs kk nn 160 [(4, .int (I32 i)), (3, .int (I32 a)), (0, .ref (lay G 84)), (1, .int (I32 r)), (2, .int (I32 s))] [] (σ) := by
  intro n
  induction n using Nat.strongRecOn with | _ n ih =>
  intro i a h0 hii hn  hK
  obtain ⟨hi1, hi2⟩ := hii
  obtain ⟨hC1, hC2, hC3, hC4, hC5, hC6⟩ := id hP.1
  obtain ⟨hM1, hM2⟩ := id hP.2.2.2.1
  have hR := hP.2.2.1 r.toNat (by omega)
  refine A_iload dX11_ruleFaults_160 0 rfl ?_
  refine A_aload_n dX11_ruleFaults_162 rfl 2 rfl ?_
  refine A_geti fl_X11_320 lk_84 rfl dX11_ruleFaults_163 ?_
  refine J_icmp_ge (tgt := 208) dX11_ruleFaults_166 (by decide) (by first | exact i32_eq (by assumption) | with_reducible exact iand_i32 _ _ | with_reducible exact mnIn_i32 _ _ _ | with_reducible exact tiV_i32 _ | exact i32_eq ⟨by omega, by omega⟩ | with_reducible exact i32_i32 _ | with_reducible exact i32_eq (b2i_inr _) | rfl) (by first | exact i32_eq (by assumption) | with_reducible exact iand_i32 _ _ | with_reducible exact mnIn_i32 _ _ _ | with_reducible exact tiV_i32 _ | exact i32_eq ⟨by omega, by omega⟩ | with_reducible exact i32_i32 _ | with_reducible exact i32_eq (b2i_inr _) | rfl) (fun h166 => ?_) (fun h166 => ?_)
  · refine A_lv [1, 2, 3, 4] rfl ?_
    clear ih
    rcases n with _ | n <;> simp only [fW] at hK <;> (repeat' split at hK) <;> first | contradiction | (exfalso; omega) | exact hK | (simp_all; done)
  · refine A_iload_n dX11_ruleFaults_169 rfl 1 rfl ?_
    refine A_aload_n dX11_ruleFaults_170 rfl 2 rfl ?_
    refine A_iload dX11_ruleFaults_171 0 rfl ?_
    refine A_iconst dX11_ruleFaults_173 ?_
    refine A_Va2 mv_X11_368 lk_84 rfl rfl (c_X11_sumOf i false hP ⟨by omega, by omega⟩) (Nat.le_of_ble_eq_true rfl) (by omega) (by omega) dX11_ruleFaults_174 ?_
    refine A_aload_n dX11_ruleFaults_177 rfl 2 rfl ?_
    refine A_getr fl_X11_78 lk_84 rfl dX11_ruleFaults_178 ?_
    refine A_iload_n dX11_ruleFaults_181 rfl 3 rfl ?_
    refine J_iald lk_106 (by first | exact i32_eq (by assumption) | with_reducible exact iand_i32 _ _ | with_reducible exact mnIn_i32 _ _ _ | with_reducible exact tiV_i32 _ | exact i32_eq ⟨by omega, by omega⟩ | with_reducible exact i32_i32 _ | with_reducible exact i32_eq (b2i_inr _) | rfl) (by omega) (by omega) (by decide) dX11_ruleFaults_182 ?_
    try simp (disch := omega) only [up_k, up_j, up_s]
    refine A_aload_n dX11_ruleFaults_183 rfl 2 rfl ?_
    refine A_getr fl_X11_81 lk_84 rfl dX11_ruleFaults_184 ?_
    refine A_iload_n dX11_ruleFaults_187 rfl 3 rfl ?_
    refine J_iald lk_107 (by first | exact i32_eq (by assumption) | with_reducible exact iand_i32 _ _ | with_reducible exact mnIn_i32 _ _ _ | with_reducible exact tiV_i32 _ | exact i32_eq ⟨by omega, by omega⟩ | with_reducible exact i32_i32 _ | with_reducible exact i32_eq (b2i_inr _) | rfl) (by omega) (by omega) (by decide) dX11_ruleFaults_188 ?_
    try simp (disch := omega) only [up_k, up_j, up_s]
    refine A_Sa3 ms_X11_106 (c_X11_isIn _ _ _ _) (Nat.le_of_ble_eq_true rfl) (by omega) (by omega) dX11_ruleFaults_189 ?_
    refine A_ifeq_b (tgt := 199) dX11_ruleFaults_192 (by decide) (fun h192 => ?_) (fun h192 => ?_)
    · refine A_iconst dX11_ruleFaults_199 ?_
      refine A_iadd dX11_ruleFaults_200 ?_
      refine A_istore_n (lv2 := [(3, _), (4, _), (0, _), (1, _), (2, _)]) dX11_ruleFaults_201 rfl (by decide) rfl ?_
      refine A_iinc (lv2 := [(4, _), (3, _), (0, _), (1, _), (2, _)]) dX11_ruleFaults_202 1 rfl (by decide) rfl ?_
      refine A_goto (tgt := 160) dX11_ruleFaults_205 (by decide) ?_
      refine A_lv [0, 1, 2, 3, 4] rfl ?_
      refine ih (n - 1) (by omega) (i + 1) _ (by omega) ⟨by omega, by omega⟩ (by omega) ?_
      obtain ⟨n, rfl⟩ : ∃ q, n = q + 1 := ⟨n - 1, by omega⟩
      clear ih
      rw [fW_s] at hK
      simp only [Nat.add_sub_cancel]
      simp only [egG] at hK
      (repeat' split at hK) <;> first | contradiction | (exfalso; omega) | exact hK | (simp_all; done)
    · refine A_iconst dX11_ruleFaults_195 ?_
      refine A_goto (tgt := 200) dX11_ruleFaults_196 (by decide) ?_
      refine A_iadd dX11_ruleFaults_200 ?_
      refine A_istore_n (lv2 := [(3, _), (4, _), (0, _), (1, _), (2, _)]) dX11_ruleFaults_201 rfl (by decide) rfl ?_
      refine A_iinc (lv2 := [(4, _), (3, _), (0, _), (1, _), (2, _)]) dX11_ruleFaults_202 1 rfl (by decide) rfl ?_
      refine A_goto (tgt := 160) dX11_ruleFaults_205 (by decide) ?_
      refine A_lv [0, 1, 2, 3, 4] rfl ?_
      refine ih (n - 1) (by omega) (i + 1) _ (by omega) ⟨by omega, by omega⟩ (by omega) ?_
      obtain ⟨n, rfl⟩ : ∃ q, n = q + 1 := ⟨n - 1, by omega⟩
      clear ih
      rw [fW_s] at hK
      simp only [Nat.add_sub_cancel]
      simp only [egG] at hK
      (repeat' split at hK) <;> first | contradiction | (exfalso; omega) | exact hK | (simp_all; done)
set_option maxRecDepth 100000 in
set_option maxHeartbeats 4000000 in
theorem w_X11_rf265 {f : Fm} {Q : State → Prop} {xs : va_W} {kk nn rc rs : Nat} (σ : Sg) (s r : Int) (hP : PI σ) (hr : 0 ≤ r ∧ r < σ 84 30) (hm : kk ≤ rc ∧ nn ≤ rs) : ∀ (n : Nat) (i : Int) (a : Int), 0 ≤ i → inr i → i + n = 15 → AW l G f (RX11, cX11_ruleFaults, 7, (some .int)) (3, rc, rs) Q xs kk nn 348 [(3, .int (I32 (fG (fun i a => decide (i + σ 107 r.toNat ≤ σ 84 39)) (rsG σ s r) n i a))), (0, .ref (lay G 84)), (1, .int (I32 r)), (2, .int (I32 s))] [] (σ) → AW l G f (RX11, cX11_ruleFaults, 7, (some .int)) (3, rc, rs) Q xs kk nn 265 [(4, .int (I32 i)), (3, .int (I32 a)), (0, .ref (lay G 84)), (1, .int (I32 r)), (2, .int (I32 s))] [] (σ) := by
  intro n
  induction n using Nat.strongRecOn with | _ n ih =>
  intro i a h0 hii hn  hK
  obtain ⟨hi1, hi2⟩ := hii
  obtain ⟨hC1, hC2, hC3, hC4, hC5, hC6⟩ := id hP.1
  obtain ⟨hM1, hM2⟩ := id hP.2.2.2.1
  have hR := hP.2.2.1 r.toNat (by omega)
  refine A_iload dX11_ruleFaults_265 0 rfl ?_
  refine A_aload_n dX11_ruleFaults_267 rfl 2 rfl ?_
  refine A_getr fl_X11_81 lk_84 rfl dX11_ruleFaults_268 ?_
  refine A_iload_n dX11_ruleFaults_271 rfl 3 rfl ?_
  refine J_iald lk_107 (by first | exact i32_eq (by assumption) | with_reducible exact iand_i32 _ _ | with_reducible exact mnIn_i32 _ _ _ | with_reducible exact tiV_i32 _ | exact i32_eq ⟨by omega, by omega⟩ | with_reducible exact i32_i32 _ | with_reducible exact i32_eq (b2i_inr _) | rfl) (by omega) (by omega) (by decide) dX11_ruleFaults_272 ?_
  refine A_iadd dX11_ruleFaults_273 ?_
  refine A_aload_n dX11_ruleFaults_274 rfl 2 rfl ?_
  refine A_geti fl_X11_320 lk_84 rfl dX11_ruleFaults_275 ?_
  refine J_icmp_gt (tgt := 348) dX11_ruleFaults_278 (by decide) (by first | exact i32_eq (by assumption) | with_reducible exact iand_i32 _ _ | with_reducible exact mnIn_i32 _ _ _ | with_reducible exact tiV_i32 _ | exact i32_eq ⟨by omega, by omega⟩ | with_reducible exact i32_i32 _ | with_reducible exact i32_eq (b2i_inr _) | rfl) (by first | exact i32_eq (by assumption) | with_reducible exact iand_i32 _ _ | with_reducible exact mnIn_i32 _ _ _ | with_reducible exact tiV_i32 _ | exact i32_eq ⟨by omega, by omega⟩ | with_reducible exact i32_i32 _ | with_reducible exact i32_eq (b2i_inr _) | rfl) (fun h278 => ?_) (fun h278 => ?_)
  · refine A_lv [1, 2, 3, 4] rfl ?_
    clear ih
    rcases n with _ | n <;> simp only [fG, decide_eq_true_eq] at hK <;> (repeat' split at hK) <;> first | contradiction | (exfalso; omega) | exact hK | (simp_all; done)
  · refine A_aload_n dX11_ruleFaults_281 rfl 2 rfl ?_
    refine A_iload_n dX11_ruleFaults_282 rfl 4 rfl ?_
    refine A_iload dX11_ruleFaults_283 0 rfl ?_
    refine A_iload dX11_ruleFaults_285 0 rfl ?_
    refine A_aload_n dX11_ruleFaults_287 rfl 2 rfl ?_
    refine A_getr fl_X11_81 lk_84 rfl dX11_ruleFaults_288 ?_
    refine A_iload_n dX11_ruleFaults_291 rfl 3 rfl ?_
    refine J_iald lk_107 (by first | exact i32_eq (by assumption) | with_reducible exact iand_i32 _ _ | with_reducible exact mnIn_i32 _ _ _ | with_reducible exact tiV_i32 _ | exact i32_eq ⟨by omega, by omega⟩ | with_reducible exact i32_i32 _ | with_reducible exact i32_eq (b2i_inr _) | rfl) (by omega) (by omega) (by decide) dX11_ruleFaults_292 ?_
    refine A_iadd dX11_ruleFaults_293 ?_
    refine A_Va3 mv_X11_372 lk_84 rfl rfl (c_X11_meantIn _ _ _ hP ⟨by omega, by omega⟩ ⟨by omega, by omega⟩) (Nat.le_of_ble_eq_true rfl) (by omega) (by omega) dX11_ruleFaults_294 ?_
    refine A_istore (lv2 := [(5, _), (4, _), (3, _), (0, _), (1, _), (2, _)]) dX11_ruleFaults_297 (by decide) rfl ?_
    refine A_iload_n dX11_ruleFaults_299 rfl 2 rfl ?_
    refine A_aload_n dX11_ruleFaults_300 rfl 3 rfl ?_
    refine A_getr fl_X11_75 lk_84 rfl dX11_ruleFaults_301 ?_
    refine A_iload_n dX11_ruleFaults_304 rfl 4 rfl ?_
    refine J_iald lk_105 (by first | exact i32_eq (by assumption) | with_reducible exact iand_i32 _ _ | with_reducible exact mnIn_i32 _ _ _ | with_reducible exact tiV_i32 _ | exact i32_eq ⟨by omega, by omega⟩ | with_reducible exact i32_i32 _ | with_reducible exact i32_eq (b2i_inr _) | rfl) (by omega) (by omega) (by decide) dX11_ruleFaults_305 ?_
    try simp (disch := omega) only [up_k, up_j, up_s]
    refine A_iconst dX11_ruleFaults_306 ?_
    refine J_icmp_ne (tgt := 324) dX11_ruleFaults_307 (by decide) (by first | exact i32_eq (by assumption) | with_reducible exact iand_i32 _ _ | with_reducible exact mnIn_i32 _ _ _ | with_reducible exact tiV_i32 _ | exact i32_eq ⟨by omega, by omega⟩ | with_reducible exact i32_i32 _ | with_reducible exact i32_eq (b2i_inr _) | rfl) (by first | exact i32_eq (by assumption) | with_reducible exact iand_i32 _ _ | with_reducible exact mnIn_i32 _ _ _ | with_reducible exact tiV_i32 _ | exact i32_eq ⟨by omega, by omega⟩ | with_reducible exact i32_i32 _ | with_reducible exact i32_eq (b2i_inr _) | rfl) (fun h307 => ?_) (fun h307 => ?_)
    · refine A_iload dX11_ruleFaults_324 0 rfl ?_
      refine A_aload_n dX11_ruleFaults_326 rfl 3 rfl ?_
      refine A_getr fl_X11_78 lk_84 rfl dX11_ruleFaults_327 ?_
      refine A_iload_n dX11_ruleFaults_330 rfl 4 rfl ?_
      refine J_iald lk_106 (by first | exact i32_eq (by assumption) | with_reducible exact iand_i32 _ _ | with_reducible exact mnIn_i32 _ _ _ | with_reducible exact tiV_i32 _ | exact i32_eq ⟨by omega, by omega⟩ | with_reducible exact i32_i32 _ | with_reducible exact i32_eq (b2i_inr _) | rfl) (by omega) (by omega) (by decide) dX11_ruleFaults_331 ?_
      try simp (disch := omega) only [up_k, up_j, up_s]
      refine J_icmp_ge (tgt := 339) dX11_ruleFaults_332 (by decide) (by first | exact i32_eq (by assumption) | with_reducible exact iand_i32 _ _ | with_reducible exact mnIn_i32 _ _ _ | with_reducible exact tiV_i32 _ | exact i32_eq ⟨by omega, by omega⟩ | with_reducible exact i32_i32 _ | with_reducible exact i32_eq (b2i_inr _) | rfl) (by first | exact i32_eq (by assumption) | with_reducible exact iand_i32 _ _ | with_reducible exact mnIn_i32 _ _ _ | with_reducible exact tiV_i32 _ | exact i32_eq ⟨by omega, by omega⟩ | with_reducible exact i32_i32 _ | with_reducible exact i32_eq (b2i_inr _) | rfl) (fun h332 => ?_) (fun h332 => ?_)
      · refine A_iconst dX11_ruleFaults_339 ?_
        refine A_iadd dX11_ruleFaults_340 ?_
        refine A_istore_n (lv2 := [(3, _), (5, _), (4, _), (0, _), (1, _), (2, _)]) dX11_ruleFaults_341 rfl (by decide) rfl ?_
        refine A_iinc (lv2 := [(4, _), (3, _), (5, _), (0, _), (1, _), (2, _)]) dX11_ruleFaults_342 2 rfl (by decide) rfl ?_
        refine A_goto (tgt := 265) dX11_ruleFaults_345 (by decide) ?_
        refine A_lv [0, 1, 3, 4, 5] rfl ?_
        refine ih (n - 1) (by omega) (i + 1) _ (by omega) ⟨by omega, by omega⟩ (by omega) ?_
        obtain ⟨n, rfl⟩ : ∃ q, n = q + 1 := ⟨n - 1, by omega⟩
        clear ih
        rw [fG_s] at hK
        simp only [Nat.add_sub_cancel]
        simp only [decide_eq_true_eq, rsG] at hK
        (repeat' split at hK) <;> first | contradiction | (exfalso; omega) | exact hK | (simp_all; done)
      · refine A_iconst dX11_ruleFaults_335 ?_
        refine A_goto (tgt := 340) dX11_ruleFaults_336 (by decide) ?_
        refine A_iadd dX11_ruleFaults_340 ?_
        refine A_istore_n (lv2 := [(3, _), (5, _), (4, _), (0, _), (1, _), (2, _)]) dX11_ruleFaults_341 rfl (by decide) rfl ?_
        refine A_iinc (lv2 := [(4, _), (3, _), (5, _), (0, _), (1, _), (2, _)]) dX11_ruleFaults_342 2 rfl (by decide) rfl ?_
        refine A_goto (tgt := 265) dX11_ruleFaults_345 (by decide) ?_
        refine A_lv [0, 1, 3, 4, 5] rfl ?_
        refine ih (n - 1) (by omega) (i + 1) _ (by omega) ⟨by omega, by omega⟩ (by omega) ?_
        obtain ⟨n, rfl⟩ : ∃ q, n = q + 1 := ⟨n - 1, by omega⟩
        clear ih
        rw [fG_s] at hK
        simp only [Nat.add_sub_cancel]
        simp only [decide_eq_true_eq, rsG] at hK
        (repeat' split at hK) <;> first | contradiction | (exfalso; omega) | exact hK | (simp_all; done)
    · refine A_iload dX11_ruleFaults_310 0 rfl ?_
      refine A_aload_n dX11_ruleFaults_312 rfl 3 rfl ?_
      refine A_getr fl_X11_78 lk_84 rfl dX11_ruleFaults_313 ?_
      refine A_iload_n dX11_ruleFaults_316 rfl 4 rfl ?_
      refine J_iald lk_106 (by first | exact i32_eq (by assumption) | with_reducible exact iand_i32 _ _ | with_reducible exact mnIn_i32 _ _ _ | with_reducible exact tiV_i32 _ | exact i32_eq ⟨by omega, by omega⟩ | with_reducible exact i32_i32 _ | with_reducible exact i32_eq (b2i_inr _) | rfl) (by omega) (by omega) (by decide) dX11_ruleFaults_317 ?_
      try simp (disch := omega) only [up_k, up_j, up_s]
      refine J_icmp_le (tgt := 339) dX11_ruleFaults_318 (by decide) (by first | exact i32_eq (by assumption) | with_reducible exact iand_i32 _ _ | with_reducible exact mnIn_i32 _ _ _ | with_reducible exact tiV_i32 _ | exact i32_eq ⟨by omega, by omega⟩ | with_reducible exact i32_i32 _ | with_reducible exact i32_eq (b2i_inr _) | rfl) (by first | exact i32_eq (by assumption) | with_reducible exact iand_i32 _ _ | with_reducible exact mnIn_i32 _ _ _ | with_reducible exact tiV_i32 _ | exact i32_eq ⟨by omega, by omega⟩ | with_reducible exact i32_i32 _ | with_reducible exact i32_eq (b2i_inr _) | rfl) (fun h318 => ?_) (fun h318 => ?_)
      · refine A_iconst dX11_ruleFaults_339 ?_
        refine A_iadd dX11_ruleFaults_340 ?_
        refine A_istore_n (lv2 := [(3, _), (5, _), (4, _), (0, _), (1, _), (2, _)]) dX11_ruleFaults_341 rfl (by decide) rfl ?_
        refine A_iinc (lv2 := [(4, _), (3, _), (5, _), (0, _), (1, _), (2, _)]) dX11_ruleFaults_342 2 rfl (by decide) rfl ?_
        refine A_goto (tgt := 265) dX11_ruleFaults_345 (by decide) ?_
        refine A_lv [0, 1, 3, 4, 5] rfl ?_
        refine ih (n - 1) (by omega) (i + 1) _ (by omega) ⟨by omega, by omega⟩ (by omega) ?_
        obtain ⟨n, rfl⟩ : ∃ q, n = q + 1 := ⟨n - 1, by omega⟩
        clear ih
        rw [fG_s] at hK
        simp only [Nat.add_sub_cancel]
        simp only [decide_eq_true_eq, rsG] at hK
        (repeat' split at hK) <;> first | contradiction | (exfalso; omega) | exact hK | (simp_all; done)
      · refine A_goto (tgt := 335) dX11_ruleFaults_321 (by decide) ?_
        refine A_iconst dX11_ruleFaults_335 ?_
        refine A_goto (tgt := 340) dX11_ruleFaults_336 (by decide) ?_
        refine A_iadd dX11_ruleFaults_340 ?_
        refine A_istore_n (lv2 := [(3, _), (5, _), (4, _), (0, _), (1, _), (2, _)]) dX11_ruleFaults_341 rfl (by decide) rfl ?_
        refine A_iinc (lv2 := [(4, _), (3, _), (5, _), (0, _), (1, _), (2, _)]) dX11_ruleFaults_342 2 rfl (by decide) rfl ?_
        refine A_goto (tgt := 265) dX11_ruleFaults_345 (by decide) ?_
        refine A_lv [0, 1, 3, 4, 5] rfl ?_
        refine ih (n - 1) (by omega) (i + 1) _ (by omega) ⟨by omega, by omega⟩ (by omega) ?_
        obtain ⟨n, rfl⟩ : ∃ q, n = q + 1 := ⟨n - 1, by omega⟩
        clear ih
        rw [fG_s] at hK
        simp only [Nat.add_sub_cancel]
        simp only [decide_eq_true_eq, rsG] at hK
        (repeat' split at hK) <;> first | contradiction | (exfalso; omega) | exact hK | (simp_all; done)
set_option maxRecDepth 100000 in
set_option maxHeartbeats 4000000 in
theorem c_X11_ruleFaults (r : Int) (hP : PI σ) (hr : 0 ≤ r ∧ r < σ 84 30) : Ct l G yX11_ruleFaults cX11_ruleFaults 7 (some .int) 3 0 0 [.ref (lay G 84), .int (I32 r)] σ (some (.int (I32 (ruV σ r)))) (σ) := by
  obtain ⟨hC1, hC2, hC3, hC4, hC5, hC6⟩ := id hP.1
  obtain ⟨hM1, hM2⟩ := id hP.2.2.2.1
  have hR := hP.2.2.1 r.toNat (by omega)
  have hdc := dc_le ⟨hM1, hM2⟩ hC4
  refine Ct.of (by decide +kernel) (Nat.le_of_ble_eq_true rfl) (fun f => ?_)
  show AW _ _ _ _ _ _ _ _ _ _ [(0, _), (1, _)] _ _
  refine A_aload_n dX11_ruleFaults_0 rfl 0 rfl ?_
  refine A_iload_n dX11_ruleFaults_1 rfl 1 rfl ?_
  refine A_Va1 mv_X11_356 lk_84 rfl rfl (c_X11_meant _ hP (by first | assumption | omega)) (Nat.le_of_ble_eq_true rfl) (by omega) (by omega) dX11_ruleFaults_2 ?_
  refine A_istore_n (lv2 := [(2, _), (0, _), (1, _)]) dX11_ruleFaults_5 rfl (by decide) rfl ?_
  refine A_iconst dX11_ruleFaults_6 ?_
  refine A_istore_n (lv2 := [(3, _), (2, _), (0, _), (1, _)]) dX11_ruleFaults_7 rfl (by decide) rfl ?_
  refine A_aload_n dX11_ruleFaults_8 rfl 2 rfl ?_
  refine A_getr fl_X11_75 lk_84 rfl dX11_ruleFaults_9 ?_
  refine A_iload_n dX11_ruleFaults_12 rfl 3 rfl ?_
  refine J_iald lk_105 (by first | exact i32_eq (by assumption) | with_reducible exact iand_i32 _ _ | with_reducible exact mnIn_i32 _ _ _ | with_reducible exact tiV_i32 _ | exact i32_eq ⟨by omega, by omega⟩ | with_reducible exact i32_i32 _ | with_reducible exact i32_eq (b2i_inr _) | rfl) (by omega) (by omega) (by decide) dX11_ruleFaults_13 ?_
  try simp (disch := omega) only [up_k, up_j, up_s]
  refine J_if_ne (tgt := 147) dX11_ruleFaults_14 (by decide) (by first | exact i32_eq (by assumption) | with_reducible exact iand_i32 _ _ | with_reducible exact mnIn_i32 _ _ _ | with_reducible exact tiV_i32 _ | exact i32_eq ⟨by omega, by omega⟩ | with_reducible exact i32_i32 _ | with_reducible exact i32_eq (b2i_inr _) | rfl) (fun h14 => ?_) (fun h14 => ?_)
  · refine A_aload_n dX11_ruleFaults_147 rfl 2 rfl ?_
    refine A_getr fl_X11_75 lk_84 rfl dX11_ruleFaults_148 ?_
    refine A_iload_n dX11_ruleFaults_151 rfl 3 rfl ?_
    refine J_iald lk_105 (by first | exact i32_eq (by assumption) | with_reducible exact iand_i32 _ _ | with_reducible exact mnIn_i32 _ _ _ | with_reducible exact tiV_i32 _ | exact i32_eq ⟨by omega, by omega⟩ | with_reducible exact i32_i32 _ | with_reducible exact i32_eq (b2i_inr _) | rfl) (by omega) (by omega) (by decide) dX11_ruleFaults_152 ?_
    try simp (disch := omega) only [up_k, up_j, up_s]
    refine A_iconst dX11_ruleFaults_153 ?_
    refine J_icmp_ne (tgt := 211) dX11_ruleFaults_154 (by decide) (by first | exact i32_eq (by assumption) | with_reducible exact iand_i32 _ _ | with_reducible exact mnIn_i32 _ _ _ | with_reducible exact tiV_i32 _ | exact i32_eq ⟨by omega, by omega⟩ | with_reducible exact i32_i32 _ | with_reducible exact i32_eq (b2i_inr _) | rfl) (by first | exact i32_eq (by assumption) | with_reducible exact iand_i32 _ _ | with_reducible exact mnIn_i32 _ _ _ | with_reducible exact tiV_i32 _ | exact i32_eq ⟨by omega, by omega⟩ | with_reducible exact i32_i32 _ | with_reducible exact i32_eq (b2i_inr _) | rfl) (fun h154 => ?_) (fun h154 => ?_)
    · refine A_aload_n dX11_ruleFaults_211 rfl 2 rfl ?_
      refine A_geti fl_X11_320 lk_84 rfl dX11_ruleFaults_212 ?_
      try simp (disch := omega) only [up_k, up_j, up_s]
      refine A_aload_n dX11_ruleFaults_215 rfl 2 rfl ?_
      refine A_getr fl_X11_81 lk_84 rfl dX11_ruleFaults_216 ?_
      refine A_iload_n dX11_ruleFaults_219 rfl 3 rfl ?_
      refine J_iald lk_107 (by first | exact i32_eq (by assumption) | with_reducible exact iand_i32 _ _ | with_reducible exact mnIn_i32 _ _ _ | with_reducible exact tiV_i32 _ | exact i32_eq ⟨by omega, by omega⟩ | with_reducible exact i32_i32 _ | with_reducible exact i32_eq (b2i_inr _) | rfl) (by omega) (by omega) (by decide) dX11_ruleFaults_220 ?_
      try simp (disch := omega) only [up_k, up_j, up_s]
      refine J_icmp_ge (tgt := 262) dX11_ruleFaults_221 (by decide) (by first | exact i32_eq (by assumption) | with_reducible exact iand_i32 _ _ | with_reducible exact mnIn_i32 _ _ _ | with_reducible exact tiV_i32 _ | exact i32_eq ⟨by omega, by omega⟩ | with_reducible exact i32_i32 _ | with_reducible exact i32_eq (b2i_inr _) | rfl) (by first | exact i32_eq (by assumption) | with_reducible exact iand_i32 _ _ | with_reducible exact mnIn_i32 _ _ _ | with_reducible exact tiV_i32 _ | exact i32_eq ⟨by omega, by omega⟩ | with_reducible exact i32_i32 _ | with_reducible exact i32_eq (b2i_inr _) | rfl) (fun h221 => ?_) (fun h221 => ?_)
      · refine A_iconst dX11_ruleFaults_262 ?_
        refine A_istore (lv2 := [(4, _), (3, _), (2, _), (0, _), (1, _)]) dX11_ruleFaults_263 (by decide) rfl ?_
        refine A_lv [0, 1, 3, 4, 2] rfl ?_
        refine w_X11_rf265 σ (mtV σ r) r hP hr (by omega) 15 0 0 (by omega) ⟨by omega, by omega⟩ (by omega) ?_
        refine A_iload_n dX11_ruleFaults_348 rfl 0 rfl ?_
        exact A_iret dX11_ruleFaults_349 (by unfold ruV; first | (rw [if_pos h14]; done) | (rw [if_neg h14, if_pos h154]; done) | (rw [if_neg h14, if_neg h154, if_pos h221]; first | (rw [if_pos ⟨h231, h250⟩]; done) | (rw [if_neg (fun z => h231 z.1)]; done) | (rw [if_neg (fun z => by have := z.2; omega)]; done)) | (rw [if_neg h14, if_neg h154, if_neg (by omega)]; done)) (by rfl)
      · refine A_aload_n dX11_ruleFaults_224 rfl 2 rfl ?_
        refine A_getr fl_X11_75 lk_84 rfl dX11_ruleFaults_225 ?_
        refine A_iload_n dX11_ruleFaults_228 rfl 3 rfl ?_
        refine J_iald lk_105 (by first | exact i32_eq (by assumption) | with_reducible exact iand_i32 _ _ | with_reducible exact mnIn_i32 _ _ _ | with_reducible exact tiV_i32 _ | exact i32_eq ⟨by omega, by omega⟩ | with_reducible exact i32_i32 _ | with_reducible exact i32_eq (b2i_inr _) | rfl) (by omega) (by omega) (by decide) dX11_ruleFaults_229 ?_
        try simp (disch := omega) only [up_k, up_j, up_s]
        refine A_iconst dX11_ruleFaults_230 ?_
        refine J_icmp_ne (tgt := 257) dX11_ruleFaults_231 (by decide) (by first | exact i32_eq (by assumption) | with_reducible exact iand_i32 _ _ | with_reducible exact mnIn_i32 _ _ _ | with_reducible exact tiV_i32 _ | exact i32_eq ⟨by omega, by omega⟩ | with_reducible exact i32_i32 _ | with_reducible exact i32_eq (b2i_inr _) | rfl) (by first | exact i32_eq (by assumption) | with_reducible exact iand_i32 _ _ | with_reducible exact mnIn_i32 _ _ _ | with_reducible exact tiV_i32 _ | exact i32_eq ⟨by omega, by omega⟩ | with_reducible exact i32_i32 _ | with_reducible exact i32_eq (b2i_inr _) | rfl) (fun h231 => ?_) (fun h231 => ?_)
        · refine A_iconst dX11_ruleFaults_257 ?_
          refine A_istore_n (lv2 := [(3, _), (2, _), (0, _), (1, _)]) dX11_ruleFaults_258 rfl (by decide) rfl ?_
          refine A_goto (tgt := 348) dX11_ruleFaults_259 (by decide) ?_
          refine A_iload_n dX11_ruleFaults_348 rfl 0 rfl ?_
          exact A_iret dX11_ruleFaults_349 (by unfold ruV; first | (rw [if_pos h14]; done) | (rw [if_neg h14, if_pos h154]; done) | (rw [if_neg h14, if_neg h154, if_pos h221]; first | (rw [if_pos ⟨h231, h250⟩]; done) | (rw [if_neg (fun z => h231 z.1)]; done) | (rw [if_neg (fun z => by have := z.2; omega)]; done)) | (rw [if_neg h14, if_neg h154, if_neg (by omega)]; done)) (by rfl)
        · refine A_aload_n dX11_ruleFaults_234 rfl 2 rfl ?_
          refine A_iload_n dX11_ruleFaults_235 rfl 1 rfl ?_
          refine A_iconst dX11_ruleFaults_236 ?_
          refine A_aload_n dX11_ruleFaults_237 rfl 2 rfl ?_
          refine A_geti fl_X11_320 lk_84 rfl dX11_ruleFaults_238 ?_
          try simp (disch := omega) only [up_k, up_j, up_s]
          refine A_Va3 mv_X11_372 lk_84 rfl rfl (c_X11_meantIn _ _ _ hP ⟨by omega, by omega⟩ ⟨by omega, by omega⟩) (Nat.le_of_ble_eq_true rfl) (by omega) (by omega) dX11_ruleFaults_241 ?_
          refine A_aload_n dX11_ruleFaults_244 rfl 2 rfl ?_
          refine A_getr fl_X11_78 lk_84 rfl dX11_ruleFaults_245 ?_
          refine A_iload_n dX11_ruleFaults_248 rfl 3 rfl ?_
          refine J_iald lk_106 (by first | exact i32_eq (by assumption) | with_reducible exact iand_i32 _ _ | with_reducible exact mnIn_i32 _ _ _ | with_reducible exact tiV_i32 _ | exact i32_eq ⟨by omega, by omega⟩ | with_reducible exact i32_i32 _ | with_reducible exact i32_eq (b2i_inr _) | rfl) (by omega) (by omega) (by decide) dX11_ruleFaults_249 ?_
          try simp (disch := omega) only [up_k, up_j, up_s]
          refine J_icmp_le (tgt := 257) dX11_ruleFaults_250 (by decide) (by first | exact i32_eq (by assumption) | with_reducible exact iand_i32 _ _ | with_reducible exact mnIn_i32 _ _ _ | with_reducible exact tiV_i32 _ | exact i32_eq ⟨by omega, by omega⟩ | with_reducible exact i32_i32 _ | with_reducible exact i32_eq (b2i_inr _) | rfl) (by first | exact i32_eq (by assumption) | with_reducible exact iand_i32 _ _ | with_reducible exact mnIn_i32 _ _ _ | with_reducible exact tiV_i32 _ | exact i32_eq ⟨by omega, by omega⟩ | with_reducible exact i32_i32 _ | with_reducible exact i32_eq (b2i_inr _) | rfl) (fun h250 => ?_) (fun h250 => ?_)
          · refine A_iconst dX11_ruleFaults_257 ?_
            refine A_istore_n (lv2 := [(3, _), (2, _), (0, _), (1, _)]) dX11_ruleFaults_258 rfl (by decide) rfl ?_
            refine A_goto (tgt := 348) dX11_ruleFaults_259 (by decide) ?_
            refine A_iload_n dX11_ruleFaults_348 rfl 0 rfl ?_
            exact A_iret dX11_ruleFaults_349 (by unfold ruV; first | (rw [if_pos h14]; done) | (rw [if_neg h14, if_pos h154]; done) | (rw [if_neg h14, if_neg h154, if_pos h221]; first | (rw [if_pos ⟨h231, h250⟩]; done) | (rw [if_neg (fun z => h231 z.1)]; done) | (rw [if_neg (fun z => by have := z.2; omega)]; done)) | (rw [if_neg h14, if_neg h154, if_neg (by omega)]; done)) (by rfl)
          · refine A_iconst dX11_ruleFaults_253 ?_
            refine A_goto (tgt := 258) dX11_ruleFaults_254 (by decide) ?_
            refine A_istore_n (lv2 := [(3, _), (2, _), (0, _), (1, _)]) dX11_ruleFaults_258 rfl (by decide) rfl ?_
            refine A_goto (tgt := 348) dX11_ruleFaults_259 (by decide) ?_
            refine A_iload_n dX11_ruleFaults_348 rfl 0 rfl ?_
            exact A_iret dX11_ruleFaults_349 (by unfold ruV; first | (rw [if_pos h14]; done) | (rw [if_neg h14, if_pos h154]; done) | (rw [if_neg h14, if_neg h154, if_pos h221]; first | (rw [if_pos ⟨h231, h250⟩]; done) | (rw [if_neg (fun z => h231 z.1)]; done) | (rw [if_neg (fun z => by have := z.2; omega)]; done)) | (rw [if_neg h14, if_neg h154, if_neg (by omega)]; done)) (by rfl)
    · refine A_iconst dX11_ruleFaults_157 ?_
      refine A_istore (lv2 := [(4, _), (3, _), (2, _), (0, _), (1, _)]) dX11_ruleFaults_158 (by decide) rfl ?_
      refine A_lv [0, 1, 3, 4, 2] rfl ?_
      refine w_X11_rf160 σ (mtV σ r) r hP hr (by omega) 14 0 0 (by omega) ⟨by omega, by omega⟩ (by omega) ?_
      refine A_goto (tgt := 348) dX11_ruleFaults_208 (by decide) ?_
      refine A_iload_n dX11_ruleFaults_348 rfl 0 rfl ?_
      exact A_iret dX11_ruleFaults_349 (by unfold ruV; first | (rw [if_pos h14]; done) | (rw [if_neg h14, if_pos h154]; done) | (rw [if_neg h14, if_neg h154, if_pos h221]; first | (rw [if_pos ⟨h231, h250⟩]; done) | (rw [if_neg (fun z => h231 z.1)]; done) | (rw [if_neg (fun z => by have := z.2; omega)]; done)) | (rw [if_neg h14, if_neg h154, if_neg (by omega)]; done)) (by rfl)
  · refine A_iconst dX11_ruleFaults_17 ?_
    refine A_istore (lv2 := [(4, _), (3, _), (2, _), (0, _), (1, _)]) dX11_ruleFaults_18 (by decide) rfl ?_
    refine A_lv [0, 1, 3, 4, 2] rfl ?_
    refine w_X11_rf20 σ (mtV σ r) r hP hr (by omega) 112 0 0 (by omega) ⟨by omega, by omega⟩ (by omega) ?_
    refine A_goto (tgt := 348) dX11_ruleFaults_144 (by decide) ?_
    refine A_iload_n dX11_ruleFaults_348 rfl 0 rfl ?_
    exact A_iret dX11_ruleFaults_349 (by unfold ruV; first | (rw [if_pos h14]; done) | (rw [if_neg h14, if_pos h154]; done) | (rw [if_neg h14, if_neg h154, if_pos h221]; first | (rw [if_pos ⟨h231, h250⟩]; done) | (rw [if_neg (fun z => h231 z.1)]; done) | (rw [if_neg (fun z => by have := z.2; omega)]; done)) | (rw [if_neg h14, if_neg h154, if_neg (by omega)]; done)) (by rfl)
set_option maxRecDepth 100000 in
set_option maxHeartbeats 4000000 in
theorem w_X11_af14 {f : Fm} {Q : State → Prop} {xs : va_W} {kk nn rc rs : Nat} (σ : Sg) (d : Int) (hP : PI σ) (hd : 0 ≤ d ∧ d < σ 84 39) (hm : kk ≤ rc ∧ nn ≤ rs) : ∀ (n : Nat) (i : Int) (a : Int), 0 ≤ i → inr i → i + n = 8 → AW l G f (RX11, cX11_allFaults, 4, (some .int)) (4, rc, rs) Q xs kk nn 46 [(1, .int (I32 (fW (σ 84 25) (gpG σ d) n i a))), (0, .ref (lay G 84)), (2, .int (I32 d))] [] (σ) → AW l G f (RX11, cX11_allFaults, 4, (some .int)) (4, rc, rs) Q xs kk nn 14 [(3, .int (I32 i)), (1, .int (I32 a)), (0, .ref (lay G 84)), (2, .int (I32 d))] [] (σ) := by
  intro n
  induction n using Nat.strongRecOn with | _ n ih =>
  intro i a h0 hii hn  hK
  obtain ⟨hi1, hi2⟩ := hii
  obtain ⟨hC1, hC2, hC3, hC4, hC5, hC6⟩ := id hP.1
  obtain ⟨hM1, hM2⟩ := id hP.2.2.2.1
  refine A_iload_n dX11_allFaults_14 rfl 0 rfl ?_
  refine A_aload_n dX11_allFaults_15 rfl 2 rfl ?_
  refine A_geti fl_X11_289 lk_84 rfl dX11_allFaults_16 ?_
  refine J_icmp_ge (tgt := 46) dX11_allFaults_19 (by decide) (by first | exact i32_eq (by assumption) | with_reducible exact iand_i32 _ _ | with_reducible exact mnIn_i32 _ _ _ | with_reducible exact tiV_i32 _ | exact i32_eq ⟨by omega, by omega⟩ | with_reducible exact i32_i32 _ | with_reducible exact i32_eq (b2i_inr _) | rfl) (by first | exact i32_eq (by assumption) | with_reducible exact iand_i32 _ _ | with_reducible exact mnIn_i32 _ _ _ | with_reducible exact tiV_i32 _ | exact i32_eq ⟨by omega, by omega⟩ | with_reducible exact i32_i32 _ | with_reducible exact i32_eq (b2i_inr _) | rfl) (fun h19 => ?_) (fun h19 => ?_)
  · refine A_lv [1, 2, 3] rfl ?_
    clear ih
    rcases n with _ | n <;> simp only [fW] at hK <;> (repeat' split at hK) <;> first | contradiction | (exfalso; omega) | exact hK | (simp_all; done)
  · refine A_iload_n dX11_allFaults_22 rfl 1 rfl ?_
    refine A_aload_n dX11_allFaults_23 rfl 2 rfl ?_
    refine A_iload_n dX11_allFaults_24 rfl 3 rfl ?_
    refine A_iload_n dX11_allFaults_25 rfl 0 rfl ?_
    refine A_Va2 mv_X11_362 lk_84 rfl rfl (c_X11_dishAt d i ⟨by omega, by omega⟩ ⟨by omega, by omega⟩) (Nat.le_of_ble_eq_true rfl) (by omega) (by omega) dX11_allFaults_26 ?_
    have hdA := hP.dA hd (c := i) ⟨by omega, by omega⟩
    refine A_iconst dX11_allFaults_29 ?_
    refine J_icmp_ne (tgt := 37) dX11_allFaults_30 (by decide) (by first | exact i32_eq (by assumption) | with_reducible exact iand_i32 _ _ | with_reducible exact mnIn_i32 _ _ _ | with_reducible exact tiV_i32 _ | exact i32_eq ⟨by omega, by omega⟩ | with_reducible exact i32_i32 _ | with_reducible exact i32_eq (b2i_inr _) | rfl) (by first | exact i32_eq (by assumption) | with_reducible exact iand_i32 _ _ | with_reducible exact mnIn_i32 _ _ _ | with_reducible exact tiV_i32 _ | exact i32_eq ⟨by omega, by omega⟩ | with_reducible exact i32_i32 _ | with_reducible exact i32_eq (b2i_inr _) | rfl) (fun h30 => ?_) (fun h30 => ?_)
    · refine A_iconst dX11_allFaults_37 ?_
      refine A_iadd dX11_allFaults_38 ?_
      refine A_istore_n (lv2 := [(1, _), (3, _), (0, _), (2, _)]) dX11_allFaults_39 rfl (by decide) rfl ?_
      refine A_iinc (lv2 := [(3, _), (1, _), (0, _), (2, _)]) dX11_allFaults_40 1 rfl (by decide) rfl ?_
      refine A_goto (tgt := 14) dX11_allFaults_43 (by decide) ?_
      refine A_lv [0, 1, 2, 3] rfl ?_
      refine ih (n - 1) (by omega) (i + 1) _ (by omega) ⟨by omega, by omega⟩ (by omega) ?_
      obtain ⟨n, rfl⟩ : ∃ q, n = q + 1 := ⟨n - 1, by omega⟩
      clear ih
      rw [fW_s] at hK
      simp only [Nat.add_sub_cancel]
      simp only [gpG] at hK
      (repeat' split at hK) <;> first | contradiction | (exfalso; omega) | exact hK | (simp_all; done)
    · refine A_iconst dX11_allFaults_33 ?_
      refine A_goto (tgt := 38) dX11_allFaults_34 (by decide) ?_
      refine A_iadd dX11_allFaults_38 ?_
      refine A_istore_n (lv2 := [(1, _), (3, _), (0, _), (2, _)]) dX11_allFaults_39 rfl (by decide) rfl ?_
      refine A_iinc (lv2 := [(3, _), (1, _), (0, _), (2, _)]) dX11_allFaults_40 1 rfl (by decide) rfl ?_
      refine A_goto (tgt := 14) dX11_allFaults_43 (by decide) ?_
      refine A_lv [0, 1, 2, 3] rfl ?_
      refine ih (n - 1) (by omega) (i + 1) _ (by omega) ⟨by omega, by omega⟩ (by omega) ?_
      obtain ⟨n, rfl⟩ : ∃ q, n = q + 1 := ⟨n - 1, by omega⟩
      clear ih
      rw [fW_s] at hK
      simp only [Nat.add_sub_cancel]
      simp only [gpG] at hK
      (repeat' split at hK) <;> first | contradiction | (exfalso; omega) | exact hK | (simp_all; done)
set_option maxRecDepth 100000 in
set_option maxHeartbeats 4000000 in
theorem w_X11_af4 {f : Fm} {Q : State → Prop} {xs : va_W} {kk nn rc rs : Nat} (σ : Sg) (hP : PI σ) (hm : kk ≤ rc ∧ nn ≤ rs) : ∀ (n : Nat) (i : Int) (a : Int), 0 ≤ i → inr i → i + n = 14 → AW l G f (RX11, cX11_allFaults, 4, (some .int)) (4, rc, rs) Q xs kk nn 52 [(1, .int (I32 (fW (σ 84 39) (gqG σ) n i a))), (0, .ref (lay G 84))] [] (σ) → AW l G f (RX11, cX11_allFaults, 4, (some .int)) (4, rc, rs) Q xs kk nn 4 [(2, .int (I32 i)), (1, .int (I32 a)), (0, .ref (lay G 84))] [] (σ) := by
  intro n
  induction n using Nat.strongRecOn with | _ n ih =>
  intro i a h0 hii hn  hK
  obtain ⟨hi1, hi2⟩ := hii
  obtain ⟨hC1, hC2, hC3, hC4, hC5, hC6⟩ := id hP.1
  obtain ⟨hM1, hM2⟩ := id hP.2.2.2.1
  refine A_iload_n dX11_allFaults_4 rfl 0 rfl ?_
  refine A_aload_n dX11_allFaults_5 rfl 2 rfl ?_
  refine A_geti fl_X11_320 lk_84 rfl dX11_allFaults_6 ?_
  refine J_icmp_ge (tgt := 52) dX11_allFaults_9 (by decide) (by first | exact i32_eq (by assumption) | with_reducible exact iand_i32 _ _ | with_reducible exact mnIn_i32 _ _ _ | with_reducible exact tiV_i32 _ | exact i32_eq ⟨by omega, by omega⟩ | with_reducible exact i32_i32 _ | with_reducible exact i32_eq (b2i_inr _) | rfl) (by first | exact i32_eq (by assumption) | with_reducible exact iand_i32 _ _ | with_reducible exact mnIn_i32 _ _ _ | with_reducible exact tiV_i32 _ | exact i32_eq ⟨by omega, by omega⟩ | with_reducible exact i32_i32 _ | with_reducible exact i32_eq (b2i_inr _) | rfl) (fun h9 => ?_) (fun h9 => ?_)
  · refine A_lv [1, 2] rfl ?_
    clear ih
    rcases n with _ | n <;> simp only [fW] at hK <;> (repeat' split at hK) <;> first | contradiction | (exfalso; omega) | exact hK | (simp_all; done)
  · refine A_iconst dX11_allFaults_12 ?_
    refine A_istore_n (lv2 := [(3, _), (2, _), (1, _), (0, _)]) dX11_allFaults_13 rfl (by decide) rfl ?_
    refine A_lv [0, 2, 3, 1] rfl ?_
    refine w_X11_af14 σ i hP ⟨by omega, by omega⟩ hm 8 0 _ (by omega) ⟨by omega, by omega⟩ (by omega) ?_
    refine A_iinc (lv2 := [(2, _), (1, _), (0, _)]) dX11_allFaults_46 2 rfl (by decide) rfl ?_
    refine A_goto (tgt := 4) dX11_allFaults_49 (by decide) ?_
    refine ih (n - 1) (by omega) (i + 1) _ (by omega) ⟨by omega, by omega⟩ (by omega) ?_
    obtain ⟨n, rfl⟩ : ∃ q, n = q + 1 := ⟨n - 1, by omega⟩
    clear ih
    rw [fW_s, if_pos (by omega)] at hK
    simp only [Nat.add_sub_cancel]
    exact hK
set_option maxRecDepth 100000 in
set_option maxHeartbeats 4000000 in
theorem w_X11_af54 {f : Fm} {Q : State → Prop} {xs : va_W} {kk nn rc rs : Nat} (σ : Sg) (hP : PI σ) (hm : kk ≤ rc ∧ nn ≤ rs) : ∀ (n : Nat) (i : Int) (a : Int), 0 ≤ i → inr i → i + n = 8 → AW l G f (RX11, cX11_allFaults, 4, (some .int)) (4, rc, rs) Q xs kk nn 76 [(1, .int (I32 (fW (σ 84 30) (fun r a => a + ruV σ r) n i a))), (0, .ref (lay G 84))] [] (σ) → AW l G f (RX11, cX11_allFaults, 4, (some .int)) (4, rc, rs) Q xs kk nn 54 [(2, .int (I32 i)), (1, .int (I32 a)), (0, .ref (lay G 84))] [] (σ) := by
  intro n
  induction n using Nat.strongRecOn with | _ n ih =>
  intro i a h0 hii hn  hK
  obtain ⟨hi1, hi2⟩ := hii
  obtain ⟨hC1, hC2, hC3, hC4, hC5, hC6⟩ := id hP.1
  obtain ⟨hM1, hM2⟩ := id hP.2.2.2.1
  refine A_iload_n dX11_allFaults_54 rfl 0 rfl ?_
  refine A_aload_n dX11_allFaults_55 rfl 2 rfl ?_
  refine A_geti fl_X11_298 lk_84 rfl dX11_allFaults_56 ?_
  refine J_icmp_ge (tgt := 76) dX11_allFaults_59 (by decide) (by first | exact i32_eq (by assumption) | with_reducible exact iand_i32 _ _ | with_reducible exact mnIn_i32 _ _ _ | with_reducible exact tiV_i32 _ | exact i32_eq ⟨by omega, by omega⟩ | with_reducible exact i32_i32 _ | with_reducible exact i32_eq (b2i_inr _) | rfl) (by first | exact i32_eq (by assumption) | with_reducible exact iand_i32 _ _ | with_reducible exact mnIn_i32 _ _ _ | with_reducible exact tiV_i32 _ | exact i32_eq ⟨by omega, by omega⟩ | with_reducible exact i32_i32 _ | with_reducible exact i32_eq (b2i_inr _) | rfl) (fun h59 => ?_) (fun h59 => ?_)
  · refine A_lv [1, 2] rfl ?_
    clear ih
    rcases n with _ | n <;> simp only [fW] at hK <;> (repeat' split at hK) <;> first | contradiction | (exfalso; omega) | exact hK | (simp_all; done)
  · refine A_iload_n dX11_allFaults_62 rfl 1 rfl ?_
    refine A_aload_n dX11_allFaults_63 rfl 2 rfl ?_
    refine A_iload_n dX11_allFaults_64 rfl 0 rfl ?_
    refine A_Va1 mv_X11_376 lk_84 rfl rfl (c_X11_ruleFaults _ hP ⟨by omega, by omega⟩) (Nat.le_of_ble_eq_true rfl) (by omega) (by omega) dX11_allFaults_65 ?_
    refine A_iadd dX11_allFaults_68 ?_
    refine A_istore_n (lv2 := [(1, _), (2, _), (0, _)]) dX11_allFaults_69 rfl (by decide) rfl ?_
    refine A_iinc (lv2 := [(2, _), (1, _), (0, _)]) dX11_allFaults_70 1 rfl (by decide) rfl ?_
    refine A_goto (tgt := 54) dX11_allFaults_73 (by decide) ?_
    refine A_lv [0, 1, 2] rfl ?_
    refine ih (n - 1) (by omega) (i + 1) _ (by omega) ⟨by omega, by omega⟩ (by omega) ?_
    obtain ⟨n, rfl⟩ : ∃ q, n = q + 1 := ⟨n - 1, by omega⟩
    clear ih
    rw [fW_s] at hK
    simp only [Nat.add_sub_cancel]
    (repeat' split at hK) <;> first | contradiction | (exfalso; omega) | exact hK | (simp_all; done)
set_option maxRecDepth 100000 in
set_option maxHeartbeats 4000000 in
theorem c_X11_allFaults  (hP : PI σ) : Ct l G yX11_allFaults cX11_allFaults 4 (some .int) 4 0 0 [.ref (lay G 84)] σ (some (.int (I32 (afV σ)))) (σ) := by
  obtain ⟨hC1, hC2, hC3, hC4, hC5, hC6⟩ := id hP.1
  obtain ⟨hM1, hM2⟩ := id hP.2.2.2.1
  refine Ct.of (by decide +kernel) (Nat.le_of_ble_eq_true rfl) (fun f => ?_)
  show AW _ _ _ _ _ _ _ _ _ _ [(0, _)] _ _
  refine A_iconst dX11_allFaults_0 ?_
  refine A_istore_n (lv2 := [(1, _), (0, _)]) dX11_allFaults_1 rfl (by decide) rfl ?_
  refine A_iconst dX11_allFaults_2 ?_
  refine A_istore_n (lv2 := [(2, _), (1, _), (0, _)]) dX11_allFaults_3 rfl (by decide) rfl ?_
  refine A_lv [0, 1, 2] rfl ?_
  refine w_X11_af4 σ hP (by omega) 14 0 0 (by omega) ⟨by omega, by omega⟩ (by omega) ?_
  refine A_iconst dX11_allFaults_52 ?_
  refine A_istore_n (lv2 := [(2, _), (1, _), (0, _)]) dX11_allFaults_53 rfl (by decide) rfl ?_
  refine A_lv [0, 1, 2] rfl ?_
  refine w_X11_af54 σ hP (by omega) 8 0 _ (by omega) ⟨by omega, by omega⟩ (by omega) ?_
  refine A_iload_n dX11_allFaults_76 rfl 0 rfl ?_
  exact A_iret dX11_allFaults_77 (by rfl) (by rfl)
set_option maxRecDepth 100000 in
set_option maxHeartbeats 4000000 in
theorem w_X11_hf4 {f : Fm} {Q : State → Prop} {xs : va_W} {kk nn rc rs : Nat} (σ : Sg) (hP : PI σ) (hm : kk ≤ rc ∧ nn ≤ rs) : ∀ (n : Nat) (i : Int) (a : Int), 0 ≤ i → inr i → i + n = 8 → AW l G f (RX11, cX11_hardFaults, 3, (some .int)) (4, rc, rs) Q xs kk nn 49 [(1, .int (I32 (fW (σ 84 30) (hfG σ) n i a))), (0, .ref (lay G 84))] [] (σ) → AW l G f (RX11, cX11_hardFaults, 3, (some .int)) (4, rc, rs) Q xs kk nn 4 [(2, .int (I32 i)), (1, .int (I32 a)), (0, .ref (lay G 84))] [] (σ) := by
  intro n
  induction n using Nat.strongRecOn with | _ n ih =>
  intro i a h0 hii hn  hK
  obtain ⟨hi1, hi2⟩ := hii
  obtain ⟨hC1, hC2, hC3, hC4, hC5, hC6⟩ := id hP.1
  obtain ⟨hM1, hM2⟩ := id hP.2.2.2.1
  refine A_iload_n dX11_hardFaults_4 rfl 0 rfl ?_
  refine A_aload_n dX11_hardFaults_5 rfl 2 rfl ?_
  refine A_geti fl_X11_298 lk_84 rfl dX11_hardFaults_6 ?_
  refine J_icmp_ge (tgt := 49) dX11_hardFaults_9 (by decide) (by first | exact i32_eq (by assumption) | with_reducible exact iand_i32 _ _ | with_reducible exact mnIn_i32 _ _ _ | with_reducible exact tiV_i32 _ | exact i32_eq ⟨by omega, by omega⟩ | with_reducible exact i32_i32 _ | with_reducible exact i32_eq (b2i_inr _) | rfl) (by first | exact i32_eq (by assumption) | with_reducible exact iand_i32 _ _ | with_reducible exact mnIn_i32 _ _ _ | with_reducible exact tiV_i32 _ | exact i32_eq ⟨by omega, by omega⟩ | with_reducible exact i32_i32 _ | with_reducible exact i32_eq (b2i_inr _) | rfl) (fun h9 => ?_) (fun h9 => ?_)
  · refine A_lv [1, 2] rfl ?_
    clear ih
    rcases n with _ | n <;> simp only [fW] at hK <;> (repeat' split at hK) <;> first | contradiction | (exfalso; omega) | exact hK | (simp_all; done)
  · have hR := hP.2.2.1 i.toNat (by omega)
    refine A_iload_n dX11_hardFaults_12 rfl 1 rfl ?_
    refine A_aload_n dX11_hardFaults_13 rfl 2 rfl ?_
    refine A_getr fl_X11_75 lk_84 rfl dX11_hardFaults_14 ?_
    refine A_iload_n dX11_hardFaults_17 rfl 0 rfl ?_
    refine J_iald lk_105 (by first | exact i32_eq (by assumption) | with_reducible exact iand_i32 _ _ | with_reducible exact mnIn_i32 _ _ _ | with_reducible exact tiV_i32 _ | exact i32_eq ⟨by omega, by omega⟩ | with_reducible exact i32_i32 _ | with_reducible exact i32_eq (b2i_inr _) | rfl) (by omega) (by omega) (by decide) dX11_hardFaults_18 ?_
    refine J_if_eq (tgt := 32) dX11_hardFaults_19 (by decide) (by first | exact i32_eq (by assumption) | with_reducible exact iand_i32 _ _ | with_reducible exact mnIn_i32 _ _ _ | with_reducible exact tiV_i32 _ | exact i32_eq ⟨by omega, by omega⟩ | with_reducible exact i32_i32 _ | with_reducible exact i32_eq (b2i_inr _) | rfl) (fun h19 => ?_) (fun h19 => ?_)
    · refine A_aload_n dX11_hardFaults_32 rfl 2 rfl ?_
      refine A_iload_n dX11_hardFaults_33 rfl 0 rfl ?_
      refine A_Va1 mv_X11_376 lk_84 rfl rfl (c_X11_ruleFaults _ hP ⟨by omega, by omega⟩) (Nat.le_of_ble_eq_true rfl) (by omega) (by omega) dX11_hardFaults_34 ?_
      refine A_goto (tgt := 41) dX11_hardFaults_37 (by decide) ?_
      refine A_iadd dX11_hardFaults_41 ?_
      refine A_istore_n (lv2 := [(1, _), (2, _), (0, _)]) dX11_hardFaults_42 rfl (by decide) rfl ?_
      refine A_iinc (lv2 := [(2, _), (1, _), (0, _)]) dX11_hardFaults_43 1 rfl (by decide) rfl ?_
      refine A_goto (tgt := 4) dX11_hardFaults_46 (by decide) ?_
      refine A_lv [0, 1, 2] rfl ?_
      refine ih (n - 1) (by omega) (i + 1) _ (by omega) ⟨by omega, by omega⟩ (by omega) ?_
      obtain ⟨n, rfl⟩ : ∃ q, n = q + 1 := ⟨n - 1, by omega⟩
      clear ih
      rw [fW_s] at hK
      simp only [Nat.add_sub_cancel]
      simp only [hfG] at hK
      (repeat' split at hK) <;> first | contradiction | (exfalso; omega) | exact hK | (simp_all; done)
    · refine A_aload_n dX11_hardFaults_22 rfl 2 rfl ?_
      refine A_getr fl_X11_75 lk_84 rfl dX11_hardFaults_23 ?_
      refine A_iload_n dX11_hardFaults_26 rfl 0 rfl ?_
      refine J_iald lk_105 (by first | exact i32_eq (by assumption) | with_reducible exact iand_i32 _ _ | with_reducible exact mnIn_i32 _ _ _ | with_reducible exact tiV_i32 _ | exact i32_eq ⟨by omega, by omega⟩ | with_reducible exact i32_i32 _ | with_reducible exact i32_eq (b2i_inr _) | rfl) (by omega) (by omega) (by decide) dX11_hardFaults_27 ?_
      refine A_iconst dX11_hardFaults_28 ?_
      refine J_icmp_ne (tgt := 40) dX11_hardFaults_29 (by decide) (by first | exact i32_eq (by assumption) | with_reducible exact iand_i32 _ _ | with_reducible exact mnIn_i32 _ _ _ | with_reducible exact tiV_i32 _ | exact i32_eq ⟨by omega, by omega⟩ | with_reducible exact i32_i32 _ | with_reducible exact i32_eq (b2i_inr _) | rfl) (by first | exact i32_eq (by assumption) | with_reducible exact iand_i32 _ _ | with_reducible exact mnIn_i32 _ _ _ | with_reducible exact tiV_i32 _ | exact i32_eq ⟨by omega, by omega⟩ | with_reducible exact i32_i32 _ | with_reducible exact i32_eq (b2i_inr _) | rfl) (fun h29 => ?_) (fun h29 => ?_)
      · refine A_iconst dX11_hardFaults_40 ?_
        refine A_iadd dX11_hardFaults_41 ?_
        refine A_istore_n (lv2 := [(1, _), (2, _), (0, _)]) dX11_hardFaults_42 rfl (by decide) rfl ?_
        refine A_iinc (lv2 := [(2, _), (1, _), (0, _)]) dX11_hardFaults_43 1 rfl (by decide) rfl ?_
        refine A_goto (tgt := 4) dX11_hardFaults_46 (by decide) ?_
        refine A_lv [0, 1, 2] rfl ?_
        refine ih (n - 1) (by omega) (i + 1) _ (by omega) ⟨by omega, by omega⟩ (by omega) ?_
        obtain ⟨n, rfl⟩ : ∃ q, n = q + 1 := ⟨n - 1, by omega⟩
        clear ih
        rw [fW_s] at hK
        simp only [Nat.add_sub_cancel]
        simp only [hfG] at hK
        (repeat' split at hK) <;> first | contradiction | (exfalso; omega) | exact hK | (simp_all; done)
      · refine A_aload_n dX11_hardFaults_32 rfl 2 rfl ?_
        refine A_iload_n dX11_hardFaults_33 rfl 0 rfl ?_
        refine A_Va1 mv_X11_376 lk_84 rfl rfl (c_X11_ruleFaults _ hP ⟨by omega, by omega⟩) (Nat.le_of_ble_eq_true rfl) (by omega) (by omega) dX11_hardFaults_34 ?_
        refine A_goto (tgt := 41) dX11_hardFaults_37 (by decide) ?_
        refine A_iadd dX11_hardFaults_41 ?_
        refine A_istore_n (lv2 := [(1, _), (2, _), (0, _)]) dX11_hardFaults_42 rfl (by decide) rfl ?_
        refine A_iinc (lv2 := [(2, _), (1, _), (0, _)]) dX11_hardFaults_43 1 rfl (by decide) rfl ?_
        refine A_goto (tgt := 4) dX11_hardFaults_46 (by decide) ?_
        refine A_lv [0, 1, 2] rfl ?_
        refine ih (n - 1) (by omega) (i + 1) _ (by omega) ⟨by omega, by omega⟩ (by omega) ?_
        obtain ⟨n, rfl⟩ : ∃ q, n = q + 1 := ⟨n - 1, by omega⟩
        clear ih
        rw [fW_s] at hK
        simp only [Nat.add_sub_cancel]
        simp only [hfG] at hK
        (repeat' split at hK) <;> first | contradiction | (exfalso; omega) | exact hK | (simp_all; done)
set_option maxRecDepth 100000 in
set_option maxHeartbeats 4000000 in
theorem c_X11_hardFaults  (hP : PI σ) : Ct l G yX11_hardFaults cX11_hardFaults 3 (some .int) 4 0 0 [.ref (lay G 84)] σ (some (.int (I32 (hfV σ)))) (σ) := by
  obtain ⟨hC1, hC2, hC3, hC4, hC5, hC6⟩ := id hP.1
  obtain ⟨hM1, hM2⟩ := id hP.2.2.2.1
  refine Ct.of (by decide +kernel) (Nat.le_of_ble_eq_true rfl) (fun f => ?_)
  show AW _ _ _ _ _ _ _ _ _ _ [(0, _)] _ _
  refine A_iconst dX11_hardFaults_0 ?_
  refine A_istore_n (lv2 := [(1, _), (0, _)]) dX11_hardFaults_1 rfl (by decide) rfl ?_
  refine A_iconst dX11_hardFaults_2 ?_
  refine A_istore_n (lv2 := [(2, _), (1, _), (0, _)]) dX11_hardFaults_3 rfl (by decide) rfl ?_
  refine A_lv [0, 1, 2] rfl ?_
  refine w_X11_hf4 σ hP (by omega) 8 0 0 (by omega) ⟨by omega, by omega⟩ (by omega) ?_
  refine A_iload_n dX11_hardFaults_49 rfl 0 rfl ?_
  exact A_iret dX11_hardFaults_50 (by rfl) (by rfl)
set_option maxRecDepth 100000 in
set_option maxHeartbeats 4000000 in
theorem w_X11_ti15 {f : Fm} {Q : State → Prop} {xs : va_W} {kk nn rc rs : Nat} (σ : Sg) (x d : Int) (hx : inr x) (hP : PI σ) (hd : 0 ≤ d ∧ d < σ 84 39) (hm : kk ≤ rc ∧ nn ≤ rs) : ∀ (n : Nat) (i : Int) (a : Int), 0 ≤ i → inr i → i + n = 8 → AW l G f (RX11, cX11_timesOf, 5, (some .int)) (1, rc, rs) Q xs kk nn 49 [(2, .int (I32 (fW (σ 84 25) (tiG σ x d) n i a))), (0, .ref (lay G 84)), (1, .int (I32 x)), (3, .int (I32 d))] [] (σ) → AW l G f (RX11, cX11_timesOf, 5, (some .int)) (1, rc, rs) Q xs kk nn 15 [(4, .int (I32 i)), (2, .int (I32 a)), (0, .ref (lay G 84)), (1, .int (I32 x)), (3, .int (I32 d))] [] (σ) := by
  intro n
  induction n using Nat.strongRecOn with | _ n ih =>
  intro i a h0 hii hn  hK
  obtain ⟨hi1, hi2⟩ := hii
  obtain ⟨hC1, hC2, hC3, hC4, hC5, hC6⟩ := id hP.1
  obtain ⟨hM1, hM2⟩ := id hP.2.2.2.1
  refine A_iload dX11_timesOf_15 0 rfl ?_
  refine A_aload_n dX11_timesOf_17 rfl 2 rfl ?_
  refine A_geti fl_X11_289 lk_84 rfl dX11_timesOf_18 ?_
  refine J_icmp_ge (tgt := 49) dX11_timesOf_21 (by decide) (by first | exact i32_eq (by assumption) | with_reducible exact iand_i32 _ _ | with_reducible exact mnIn_i32 _ _ _ | with_reducible exact tiV_i32 _ | exact i32_eq ⟨by omega, by omega⟩ | with_reducible exact i32_i32 _ | with_reducible exact i32_eq (b2i_inr _) | rfl) (by first | exact i32_eq (by assumption) | with_reducible exact iand_i32 _ _ | with_reducible exact mnIn_i32 _ _ _ | with_reducible exact tiV_i32 _ | exact i32_eq ⟨by omega, by omega⟩ | with_reducible exact i32_i32 _ | with_reducible exact i32_eq (b2i_inr _) | rfl) (fun h21 => ?_) (fun h21 => ?_)
  · refine A_lv [1, 2, 3, 4] rfl ?_
    clear ih
    rcases n with _ | n <;> simp only [fW] at hK <;> (repeat' split at hK) <;> first | contradiction | (exfalso; omega) | exact hK | (simp_all; done)
  · refine A_iload_n dX11_timesOf_24 rfl 1 rfl ?_
    refine A_aload_n dX11_timesOf_25 rfl 2 rfl ?_
    refine A_iload_n dX11_timesOf_26 rfl 4 rfl ?_
    refine A_iload dX11_timesOf_27 0 rfl ?_
    refine A_Va2 mv_X11_362 lk_84 rfl rfl (c_X11_dishAt d i ⟨by omega, by omega⟩ ⟨by omega, by omega⟩) (Nat.le_of_ble_eq_true rfl) (by omega) (by omega) dX11_timesOf_29 ?_
    have hdA := hP.dA hd (c := i) ⟨by omega, by omega⟩
    refine A_iload_n dX11_timesOf_32 rfl 3 rfl ?_
    refine J_icmp_ne (tgt := 40) dX11_timesOf_33 (by decide) (by first | exact i32_eq (by assumption) | with_reducible exact iand_i32 _ _ | with_reducible exact mnIn_i32 _ _ _ | with_reducible exact tiV_i32 _ | exact i32_eq ⟨by omega, by omega⟩ | with_reducible exact i32_i32 _ | with_reducible exact i32_eq (b2i_inr _) | rfl) (by first | exact i32_eq (by assumption) | with_reducible exact iand_i32 _ _ | with_reducible exact mnIn_i32 _ _ _ | with_reducible exact tiV_i32 _ | exact i32_eq ⟨by omega, by omega⟩ | with_reducible exact i32_i32 _ | with_reducible exact i32_eq (b2i_inr _) | rfl) (fun h33 => ?_) (fun h33 => ?_)
    · refine A_iconst dX11_timesOf_40 ?_
      refine A_iadd dX11_timesOf_41 ?_
      refine A_istore_n (lv2 := [(2, _), (4, _), (0, _), (1, _), (3, _)]) dX11_timesOf_42 rfl (by decide) rfl ?_
      refine A_iinc (lv2 := [(4, _), (2, _), (0, _), (1, _), (3, _)]) dX11_timesOf_43 1 rfl (by decide) rfl ?_
      refine A_goto (tgt := 15) dX11_timesOf_46 (by decide) ?_
      refine A_lv [0, 1, 2, 3, 4] rfl ?_
      refine ih (n - 1) (by omega) (i + 1) _ (by omega) ⟨by omega, by omega⟩ (by omega) ?_
      obtain ⟨n, rfl⟩ : ∃ q, n = q + 1 := ⟨n - 1, by omega⟩
      clear ih
      rw [fW_s] at hK
      simp only [Nat.add_sub_cancel]
      simp only [tiG] at hK
      (repeat' split at hK) <;> first | contradiction | (exfalso; omega) | exact hK | (simp_all; done)
    · refine A_iconst dX11_timesOf_36 ?_
      refine A_goto (tgt := 41) dX11_timesOf_37 (by decide) ?_
      refine A_iadd dX11_timesOf_41 ?_
      refine A_istore_n (lv2 := [(2, _), (4, _), (0, _), (1, _), (3, _)]) dX11_timesOf_42 rfl (by decide) rfl ?_
      refine A_iinc (lv2 := [(4, _), (2, _), (0, _), (1, _), (3, _)]) dX11_timesOf_43 1 rfl (by decide) rfl ?_
      refine A_goto (tgt := 15) dX11_timesOf_46 (by decide) ?_
      refine A_lv [0, 1, 2, 3, 4] rfl ?_
      refine ih (n - 1) (by omega) (i + 1) _ (by omega) ⟨by omega, by omega⟩ (by omega) ?_
      obtain ⟨n, rfl⟩ : ∃ q, n = q + 1 := ⟨n - 1, by omega⟩
      clear ih
      rw [fW_s] at hK
      simp only [Nat.add_sub_cancel]
      simp only [tiG] at hK
      (repeat' split at hK) <;> first | contradiction | (exfalso; omega) | exact hK | (simp_all; done)
set_option maxRecDepth 100000 in
set_option maxHeartbeats 4000000 in
theorem w_X11_ti4 {f : Fm} {Q : State → Prop} {xs : va_W} {kk nn rc rs : Nat} (σ : Sg) (x : Int) (hx : inr x) (hP : PI σ) (hm : kk ≤ rc ∧ nn ≤ rs) : ∀ (n : Nat) (i : Int) (a : Int), 0 ≤ i → inr i → i + n = 14 → AW l G f (RX11, cX11_timesOf, 5, (some .int)) (1, rc, rs) Q xs kk nn 55 [(2, .int (I32 (fW (σ 84 39) (tjG σ x) n i a))), (0, .ref (lay G 84)), (1, .int (I32 x))] [] (σ) → AW l G f (RX11, cX11_timesOf, 5, (some .int)) (1, rc, rs) Q xs kk nn 4 [(3, .int (I32 i)), (2, .int (I32 a)), (0, .ref (lay G 84)), (1, .int (I32 x))] [] (σ) := by
  intro n
  induction n using Nat.strongRecOn with | _ n ih =>
  intro i a h0 hii hn  hK
  obtain ⟨hi1, hi2⟩ := hii
  obtain ⟨hC1, hC2, hC3, hC4, hC5, hC6⟩ := id hP.1
  obtain ⟨hM1, hM2⟩ := id hP.2.2.2.1
  refine A_iload_n dX11_timesOf_4 rfl 0 rfl ?_
  refine A_aload_n dX11_timesOf_5 rfl 2 rfl ?_
  refine A_geti fl_X11_320 lk_84 rfl dX11_timesOf_6 ?_
  refine J_icmp_ge (tgt := 55) dX11_timesOf_9 (by decide) (by first | exact i32_eq (by assumption) | with_reducible exact iand_i32 _ _ | with_reducible exact mnIn_i32 _ _ _ | with_reducible exact tiV_i32 _ | exact i32_eq ⟨by omega, by omega⟩ | with_reducible exact i32_i32 _ | with_reducible exact i32_eq (b2i_inr _) | rfl) (by first | exact i32_eq (by assumption) | with_reducible exact iand_i32 _ _ | with_reducible exact mnIn_i32 _ _ _ | with_reducible exact tiV_i32 _ | exact i32_eq ⟨by omega, by omega⟩ | with_reducible exact i32_i32 _ | with_reducible exact i32_eq (b2i_inr _) | rfl) (fun h9 => ?_) (fun h9 => ?_)
  · refine A_lv [1, 2, 3] rfl ?_
    clear ih
    rcases n with _ | n <;> simp only [fW] at hK <;> (repeat' split at hK) <;> first | contradiction | (exfalso; omega) | exact hK | (simp_all; done)
  · refine A_iconst dX11_timesOf_12 ?_
    refine A_istore (lv2 := [(4, _), (3, _), (2, _), (0, _), (1, _)]) dX11_timesOf_13 (by decide) rfl ?_
    refine A_lv [0, 2, 3, 4, 1] rfl ?_
    refine w_X11_ti15 σ x i hx hP ⟨by omega, by omega⟩ hm 8 0 _ (by omega) ⟨by omega, by omega⟩ (by omega) ?_
    refine A_iinc (lv2 := [(3, _), (2, _), (0, _), (1, _)]) dX11_timesOf_49 3 rfl (by decide) rfl ?_
    refine A_goto (tgt := 4) dX11_timesOf_52 (by decide) ?_
    refine ih (n - 1) (by omega) (i + 1) _ (by omega) ⟨by omega, by omega⟩ (by omega) ?_
    obtain ⟨n, rfl⟩ : ∃ q, n = q + 1 := ⟨n - 1, by omega⟩
    clear ih
    rw [fW_s, if_pos (by omega)] at hK
    simp only [Nat.add_sub_cancel]
    exact hK
set_option maxRecDepth 100000 in
set_option maxHeartbeats 4000000 in
theorem c_X11_timesOf (x : Int) (hx : inr x) (hP : PI σ) : Ct l G yX11_timesOf cX11_timesOf 5 (some .int) 1 0 0 [.ref (lay G 84), .int (I32 x)] σ (some (.int (I32 (tiV σ x)))) (σ) := by
  obtain ⟨hC1, hC2, hC3, hC4, hC5, hC6⟩ := id hP.1
  obtain ⟨hM1, hM2⟩ := id hP.2.2.2.1
  refine Ct.of (by decide +kernel) (Nat.le_of_ble_eq_true rfl) (fun f => ?_)
  show AW _ _ _ _ _ _ _ _ _ _ [(0, _), (1, _)] _ _
  refine A_iconst dX11_timesOf_0 ?_
  refine A_istore_n (lv2 := [(2, _), (0, _), (1, _)]) dX11_timesOf_1 rfl (by decide) rfl ?_
  refine A_iconst dX11_timesOf_2 ?_
  refine A_istore_n (lv2 := [(3, _), (2, _), (0, _), (1, _)]) dX11_timesOf_3 rfl (by decide) rfl ?_
  refine A_lv [0, 1, 2, 3] rfl ?_
  refine w_X11_ti4 σ x hx hP (by omega) 14 0 0 (by omega) ⟨by omega, by omega⟩ (by omega) ?_
  refine A_iload_n dX11_timesOf_55 rfl 0 rfl ?_
  exact A_iret dX11_timesOf_56 (by rfl) (by rfl)
end S47
