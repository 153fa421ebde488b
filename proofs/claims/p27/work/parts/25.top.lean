/-! the methods of MenuScript -/
section S25
variable {l : Launch} {G : Gx}
section A25
variable {f : Fm} {own : String} {cc : ByteArray} {nL : Nat} {rt : Option FieldType} {b : Nat × Nat × Nat} {Q : State → Prop} {xs : va_W} {k n pc : Nat} {lv : List (Nat × Value)} {rest : List Value} {σ σ1 : Sg} {r : Option Value}
def dbl (z : Int) : UInt64 := UInt64.ofNat (FP.Core.fromInt FP.Core.b64 z)
theorem i2d_dbl (z : Int) : FP.i2d (I32 z) = dbl (i32 z) := rfl
theorem l2d_dbl (z : Int) : FP.l2d (I64 z) = dbl (i64 z) := rfl
theorem A_dconst0 (d : decode cc pc = .ok (.dconst 0, 1)) (g : AW l G f (own, cc, nL, rt) b Q xs k n (pc + 1) lv (.double FP.dconst0 :: rest) σ) : AW l G f (own, cc, nL, rt) b Q xs k n pc lv rest σ := fun ok H locs ls hl hP hD hS => lv_dconst0 ok.1 ok.2.1 d (g ok H locs ls hl hP hD hS)
theorem A_i2d {x : Int} (d : decode cc pc = .ok (.i2d, 1)) (g : AW l G f (own, cc, nL, rt) b Q xs k n (pc + 1) lv (.double (dbl (i32 x)) :: rest) σ) : AW l G f (own, cc, nL, rt) b Q xs k n pc lv (.int (I32 x) :: rest) σ := fun ok H locs ls hl hP hD hS => lv_i2d ok.1 ok.2.1 d (g ok H locs ls hl hP hD hS)
theorem A_l2d {x : Int} (d : decode cc pc = .ok (.l2d, 1)) (g : AW l G f (own, cc, nL, rt) b Q xs k n (pc + 1) lv (.double (dbl (i64 x)) :: rest) σ) : AW l G f (own, cc, nL, rt) b Q xs k n pc lv (.long (I64 x) :: rest) σ := fun ok H locs ls hl hP hD hS => lv_l2d ok.1 ok.2.1 d (g ok H locs ls hl hP hD hS)
theorem ddiv_ok (x y : Int) (hy : i32 y ≠ 0) : vf_n64 (FP.ddiv (dbl (i64 x)) (dbl (i32 y))) := by
  have h3 := FP.Core.i2d_ne_zero (v := I32 y) (fun e => hy (by unfold i32; rw [e]; rfl))
  exact Fl.ddiv_out (a := FP.l2d (I64 x)) (b := FP.i2d (I32 y)) (Fl.Fin64.noNaN (Fl.fin64_core.mpr (FP.Core.l2d_fin _))) (Fl.fin64_core.mpr (FP.Core.i2d_fin _)) ((Fl.nz64_iff _).mpr h3)
theorem A_ddiv {x y : Int} (d : decode cc pc = .ok (.ddiv, 1)) (hy : i32 y ≠ 0) (g : AW l G f (own, cc, nL, rt) b Q xs k n (pc + 1) lv (.double (FP.ddiv (dbl (i64 x)) (dbl (i32 y))) :: rest) σ) : AW l G f (own, cc, nL, rt) b Q xs k n pc lv (.double (dbl (i32 y)) :: .double (dbl (i64 x)) :: rest) σ := fun ok H locs ls hl hP hD hS => lv_ddiv ok.1 ok.2.1 d (ddiv_ok x y hy) (g ok H locs ls hl hP hD hS)
theorem A_dret {x : UInt64} (d : decode cc pc = .ok (.dreturn, 1)) (hr : r = some (.double x)) (hs : σ1 = σ) : AW l G f (own, cc, nL, some .double) b (QT G f k n r σ1) xs k n pc lv [.double x] σ := by
  subst hr; subst hs
  intro ok H locs ls hl hP hD hS
  exact W.dret ok.1 ok.2.1 ok.2.2.2.2.2.2.2.2.1 (fun t ht hW => ⟨⟨rfl, by rw [ht]; exact wld_drop hP⟩, hS.F ht⟩) hS.2.2 d ok.2.2.2.2.2.2.2.2.2.1
theorem A_getN121 (d : decode cc pc = .ok (.getfield 121, 3)) (g : AW l G f ("MenuScript", cc, nL, rt) b Q xs k n (pc + 3) lv (.int (I32 (σ 51 8)) :: rest) σ) : AW l G f ("MenuScript", cc, nL, rt) b Q xs k n pc lv (.ref (lay G 51) :: rest) σ := by
  intro ok H locs ls hl hP hD hS
  have hT := ok.2.2.2.2.2.2.2.1.2.2.2.2.2.2.2.2.2.2.2.1
  exact va_getN (own := "MenuScript") (ref := "MenuScript$MeaningReader") (C := RX2) (host := "MenuScript") (T := TX2) (N := 13) (ci := 2) ok.1 ok.2.1 ok.2.2.2.2.1 cw_X2 ok.2.2.2.1 ok.2.2.2.2.2.1 hP 51 (wldx_at lk_51) rfl 8 (by decide) (va_Nw.use rfl hT) (fun _ h => h) (v := .int (I32 (σ 51 8))) rfl d (g ok H locs ls hl hP hD hS)
end A25
def exI : String := "java/lang/IllegalStateException"
def eipV (σ : Sg) : Int := eP σ (pQ (KC σ) 1500 true (0, σ 8 2))
def eipS (σ : Sg) : Sg := stF σ (pQ (KC σ) 1500 true (0, σ 8 2)).2
def eicV (σ : Sg) : Int := eC σ (pEx (KC σ) (0, σ 8 2))
def eicS (σ : Sg) : Sg := stF σ (pEx (KC σ) (0, σ 8 2)).2
theorem c_X1_eip (σ : Sg) : Ct l G yX1_errorInProgram cX1_errorInProgram 3 (some .int) 21 0 0 [.ref (lay G 8)] σ (some (.int (I32 (eipV σ)))) (eipS σ) := by
  have h := c_X1_errorInProgram (l := l) (G := G) σ (σ 8 1, σ 8 2)
  rw [stF_I] at h; exact h
def feT (σ : Sg) (a b c d e : Int) : Sg := tpC (tpC (tpC (tpC (tpC σ a) b) c) d) e
def feO (σ : Sg) (a b c d e : Int) : Rs := if 1480 < i32 (σ 1 1) then .inr "java/lang/IllegalStateException" else .inl (some (.int (I32 (feT σ a b c d e 1 1))))
def feS (σ : Sg) (a b c d e : Int) : Sg := if 1480 < i32 (σ 1 1) then σ else feT σ a b c d e
def trO (σ : Sg) (n : Int) : Rs := if i32 n < 0 ∨ i32 (σ 1 1) < i32 n then .inr "java/lang/IllegalArgumentException" else .inl (some (.int (I32 n)))
def trS (σ : Sg) (n : Int) : Sg := if i32 n < 0 ∨ i32 (σ 1 1) < i32 n then σ else shortC σ n
def coV (σ : Sg) (w : Int) : Int := if i32 w = 0 then σ 10 2 else if i32 w = 1 then σ 12 2 else if i32 w = 2 then σ 14 2 else if i32 w = 3 then σ 9 16 else if i32 w = 4 then σ 18 4 else if i32 w = 5 then σ 16 2 else if i32 w = 6 then σ 55 6 else σ 1 1
def coO (σ : Sg) (w : Int) : Rs := if i32 w < 0 ∨ 8 ≤ i32 w then .inr "java/lang/IndexOutOfBoundsException" else .inl (some (.int (I32 (coV σ w))))
def fdO (σ : Sg) (x w : Int) : Rs := if hasC σ 10 x = true ∧ 0 ≤ i32 w ∧ i32 w < 3 then .inl (some (.int (I32 (fFact σ x w)))) else .inr "java/lang/IndexOutOfBoundsException"
def diO (σ : Sg) (x w : Int) : Rs := if hasC σ 12 x = true ∧ 0 ≤ i32 w ∧ i32 w < 5 then .inl (some (.int (I32 (dFact σ x w)))) else .inr "java/lang/IndexOutOfBoundsException"
def gmO (σ : Sg) (x w : Int) : Rs := if hasC σ 12 x = true ∧ hasC σ 10 w = true then .inl (some (.int (I32 (grC σ x w)))) else .inr "java/lang/IndexOutOfBoundsException"
def chO (σ : Sg) (x : Int) (p : Bool) : Rs := if hasCh σ x = true then .inl (some (.int (I32 (if p = true then σ 32 (i32 x).toNat else σ 33 (i32 x).toNat)))) else .inr "java/lang/IndexOutOfBoundsException"
def ruO (σ : Sg) (x w : Int) : Rs := if rHas σ x = true ∧ 0 ≤ i32 w ∧ i32 w < 4 then .inl (some (.int (I32 (rFact σ x w)))) else .inr "java/lang/IndexOutOfBoundsException"
def plO (σ : Sg) (d : Int) : Rs := if i32 d < 1 ∨ 14 < i32 d then .inr "java/lang/IllegalArgumentException" else if i32 (σ 12 2) = 0 then .inr "java/lang/IllegalStateException" else .inl (some (.int (I32 (afC (flmC σ d)))))
def plS (σ : Sg) (d : Int) : Sg := if i32 d < 1 ∨ 14 < i32 d then σ else if i32 (σ 12 2) = 0 then σ else flmC σ d
def atO (σ : Sg) (d c : Int) : Rs := if hasPl σ d c = true then .inl (some (.int (I32 (dOn σ d c)))) else .inr "java/lang/IndexOutOfBoundsException"
def seO (σ : Sg) (d c x : Int) : Rs := if hasPl σ d c = true ∧ (i32 x = -1 ∨ hasC σ 12 x = true) then (if i32 x = -1 ∨ suitC σ c x = true then .inl (some (.int (I32 (dOn σ d c)))) else .inr "java/lang/IllegalStateException") else .inr "java/lang/IndexOutOfBoundsException"
def seS (σ : Sg) (d c x : Int) : Sg := if hasPl σ d c = true ∧ (i32 x = -1 ∨ hasC σ 12 x = true) then (if i32 x = -1 ∨ suitC σ c x = true then ptC σ d c x else σ) else σ
def foO (σ : Sg) (r : Int) : Rs := if rHas σ r = true then .inl (some (.int (I32 (σ 60 (i32 r).toNat)))) else .inr "java/lang/IndexOutOfBoundsException"
def xcG (a b c : Int) (q : Sg) : Sg := ptC (ptC q a c (dOn q b c)) b c (dOn q a c)
def xcT (σ : Sg) (a b : Int) : Sg := fG (fun i q => decide (i < i32 (q 9 16))) (xcG a b) BIG 0 σ
def xcO (σ : Sg) (a b : Int) : Rs := if hasDy σ a = true ∧ hasDy σ b = true then (if i32 a = i32 b then .inr "java/lang/IllegalArgumentException" else .inl (some (.int (I32 (afC (xcT σ a b)))))) else .inr "java/lang/IndexOutOfBoundsException"
def xcS (σ : Sg) (a b : Int) : Sg := if hasDy σ a = true ∧ hasDy σ b = true then (if i32 a = i32 b then σ else xcT σ a b) else σ
def dyO (σ : Sg) (d : Int) (p : Bool) : Rs := if hasDy σ d = true then .inl (some (.int (I32 (if p = true then prC σ d else σ 58 (i32 d).toNat)))) else .inr "java/lang/IndexOutOfBoundsException"
def tmO (σ : Sg) (x : Int) : Rs := if hasC σ 12 x = true then .inl (some (.int (I32 (σ 59 (i32 x).toNat)))) else .inr "java/lang/IndexOutOfBoundsException"
def byG (σ : Sg) (x n d s : Int) : Int := s + i32 (σ 59 d.toNat) * gfC σ n d x
def byV (σ : Sg) (x n : Int) : Int := fW (i32 (σ 12 2)) (byG σ x n) (i32 (σ 12 2)).toNat 0 0
def byO (σ : Sg) (x n : Int) : Rs := if hasC σ 10 x = true then (if i32 n < 1 ∨ 1000 < i32 n then .inr "java/lang/IllegalArgumentException" else .inl (some (.long (I64 (byV σ x n))))) else .inr "java/lang/IndexOutOfBoundsException"
def mpN (σ : Sg) : Int := i32 (σ 55 6 * σ 9 16 - σ 55 7)
def mpA (σ : Sg) : Int := fW (i32 (σ 55 6)) (fun d s => s + i32 (prC σ d)) (i32 (σ 55 6)).toNat 0 0
def mpV (σ : Sg) : UInt64 := if mpN σ ≤ 0 then FP.dconst0 else FP.ddiv (dbl (i64 (mpA σ))) (dbl (mpN σ))
def dcG (σ : Sg) (w a : Int) : Int := a * 31 + i32 (coV σ w)
def dcV (σ : Sg) : Int := adC σ (paC σ (fW 8 (dcG σ) 8 0 359))
def cmA (σ : Sg) : Sg := shortC (readC (up (bgC (clrC σ) 0) 0 9 0)) 0
def cmB (σ : Sg) : Sg := up (eipS (cmA σ)) 0 8 (eipV (cmA σ))
def cmD (σ : Sg) : Sg := up (rpM (cmB σ)) 0 8 (SC (rpM (cmB σ)) (rpM (cmB σ) 51 8))
def cmV (σ : Sg) : Int := if i32 (eipV (cmA σ)) = -1 then (if i32 (rpM (cmB σ) 51 7) = 0 then 0 else rpM (cmB σ) 51 7) else 1
def cmS (σ : Sg) : Sg := if i32 (eipV (cmA σ)) = -1 then (if i32 (rpM (cmB σ) 51 7) = 0 then fdM (cmD σ) else clrC (cmD σ)) else cmB σ
def teA (σ : Sg) : Sg := shortC (readC (up σ 0 9 0)) 0
def teB (σ : Sg) : Sg := up (eicS (teA σ)) 0 8 (eicV (teA σ))
def teV (σ : Sg) : Int := if i32 (eicV (teA σ)) = -1 then (if KC (teB σ) (eouC (teB σ) 0) = 22 then 2 else 0) else 1
def teS (σ : Sg) : Sg := if i32 (eicV (teA σ)) = -1 then (if KC (teB σ) (eouC (teB σ) 0) = 22 then up (teB σ) 0 8 (SC (teB σ) (eouC (teB σ) 0)) else up (suS (teB σ) 0 (teB σ 12 2)) 0 9 (suV (teB σ) 0 (teB σ 12 2))) else teB σ
theorem hasC_b {σ : Sg} {k : Nat} {x : Int} (h : hasC σ k x = true) : 0 ≤ i32 x ∧ i32 x < i32 (σ k 2) ∧ i32 x < 16 := of_decide_eq_true h
theorem hasCh_b {σ : Sg} {x : Int} (h : hasCh σ x = true) : 0 ≤ i32 x ∧ i32 x < i32 (σ 9 16) ∧ i32 x < 8 := of_decide_eq_true h
theorem hasDy_b {σ : Sg} {x : Int} (h : hasDy σ x = true) : 0 ≤ i32 x ∧ i32 x < i32 (σ 55 6) ∧ i32 x < 14 := of_decide_eq_true h
theorem rHas_b {σ : Sg} {x : Int} (h : rHas σ x = true) : 0 ≤ i32 x ∧ i32 x < i32 (σ 18 4) ∧ i32 x < 8 := of_decide_eq_true h
set_option maxRecDepth 100000 in
set_option maxHeartbeats 4000000 in
theorem c_X10_feed (σ : Sg) (a b c d e : Int)  (hlt : l.stackTraces = false) : CtX l G yX10_feed cX10_feed 6 (some .int) 6 1 6 [.ref (lay G 0), .int (I32 a), .int (I32 b), .int (I32 c), .int (I32 d), .int (I32 e)] σ (feO σ a b c d e) (feS σ a b c d e) := by
  refine CtX.of (by decide +kernel) (Nat.le_of_ble_eq_true rfl) (fun f htab => ?_)
  show AW _ _ _ _ _ _ _ _ _ _ [(0, _), (1, _), (2, _), (3, _), (4, _), (5, _)] _ _
  refine A_aload_n dX10_feed_0 rfl 0 rfl ?_
  refine A_getr fl_X10_12 lk_0 rfl dX10_feed_1 ?_
  refine A_geti fl_X10_82 lk_1 rfl dX10_feed_4 ?_
  refine A_sipush dX10_feed_7 (by decide +kernel) ?_
  refine J_icmp_le (tgt := 23) dX10_feed_10 (by decide) (by first | exact i32_eq (by assumption) | exact i32_eq ⟨by omega, by omega⟩ | with_reducible exact i32_i32 _ | with_reducible exact i32_eq (b2i_inr _) | rfl) (by first | exact i32_eq (by assumption) | exact i32_eq ⟨by omega, by omega⟩ | with_reducible exact i32_i32 _ | with_reducible exact i32_eq (b2i_inr _) | rfl) (fun h10 => ?_) (fun h10 => ?_)
  · refine A_aload_n dX10_feed_23 rfl 0 rfl ?_
    refine A_getr fl_X10_12 lk_0 rfl dX10_feed_24 ?_
    refine A_iload_n dX10_feed_27 rfl 1 rfl ?_
    refine A_Vv1 mv_X10_92 lk_1 rfl rfl (c_X8_append _ _) (Nat.le_of_ble_eq_true rfl) (by omega) (by omega) dX10_feed_28 ?_
    refine A_aload_n dX10_feed_31 rfl 0 rfl ?_
    refine A_getr fl_X10_12 lk_0 rfl dX10_feed_32 ?_
    refine A_iload_n dX10_feed_35 rfl 2 rfl ?_
    refine A_Vv1 mv_X10_92 lk_1 rfl rfl (c_X8_append _ _) (Nat.le_of_ble_eq_true rfl) (by omega) (by omega) dX10_feed_36 ?_
    refine A_aload_n dX10_feed_39 rfl 0 rfl ?_
    refine A_getr fl_X10_12 lk_0 rfl dX10_feed_40 ?_
    refine A_iload_n dX10_feed_43 rfl 3 rfl ?_
    refine A_Vv1 mv_X10_92 lk_1 rfl rfl (c_X8_append _ _) (Nat.le_of_ble_eq_true rfl) (by omega) (by omega) dX10_feed_44 ?_
    refine A_aload_n dX10_feed_47 rfl 0 rfl ?_
    refine A_getr fl_X10_12 lk_0 rfl dX10_feed_48 ?_
    refine A_iload dX10_feed_51 4 rfl ?_
    refine A_Vv1 mv_X10_92 lk_1 rfl rfl (c_X8_append _ _) (Nat.le_of_ble_eq_true rfl) (by omega) (by omega) dX10_feed_53 ?_
    refine A_aload_n dX10_feed_56 rfl 0 rfl ?_
    refine A_getr fl_X10_12 lk_0 rfl dX10_feed_57 ?_
    refine A_iload dX10_feed_60 5 rfl ?_
    refine A_Vv1 mv_X10_92 lk_1 rfl rfl (c_X8_append _ _) (Nat.le_of_ble_eq_true rfl) (by omega) (by omega) dX10_feed_62 ?_
    refine A_aload_n dX10_feed_65 rfl 0 rfl ?_
    refine A_getr fl_X10_12 lk_0 rfl dX10_feed_66 ?_
    refine A_geti fl_X10_82 lk_1 rfl dX10_feed_69 ?_
    try simp (disch := omega) only [up_k, up_j, up_s]
    exact AX_ret (by simp only [feO, feT]; (repeat' split) <;> first | contradiction | (exfalso; omega) | (exfalso; simp_all; done) | rfl | (simp only [I32_i32, I64_i64]; done)) (by decide) (by decide) (A_iret dX10_feed_72 rfl (by simp only [feS, feT]; (repeat' split) <;> first | contradiction | (exfalso; omega) | (exfalso; simp_all; done) | rfl | (simp only [I32_i32, I64_i64]; done)))
  · exact AX_throwE (E := "java/lang/IllegalStateException") (text := "the tape has no room for twenty bytes more") htab hlt xk_85_89 (by decide +kernel) (by decide) (by decide) (by decide) (by decide) (by decide) (by simp only [feO, feT]; (repeat' split) <;> first | contradiction | (exfalso; omega) | (exfalso; simp_all; done) | rfl | (simp only [I32_i32, I64_i64]; done)) (by simp only [feS, feT]; (repeat' split) <;> first | contradiction | (exfalso; omega) | (exfalso; simp_all; done) | rfl | (simp only [I32_i32, I64_i64]; done)) dX10_feed_13 dX10_feed_16 (Or.inl ⟨dX10_feed_17, dX10_feed_19, dX10_feed_22⟩)
set_option maxRecDepth 100000 in
set_option maxHeartbeats 4000000 in
theorem c_X10_trim (σ : Sg) (n : Int)  (hlt : l.stackTraces = false) : CtX l G yX10_trim cX10_trim 2 (some .int) 6 1 6 [.ref (lay G 0), .int (I32 n)] σ (trO σ n) (trS σ n) := by
  refine CtX.of (by decide +kernel) (Nat.le_of_ble_eq_true rfl) (fun f htab => ?_)
  show AW _ _ _ _ _ _ _ _ _ _ [(0, _), (1, _)] _ _
  refine A_iload_n dX10_trim_0 rfl 1 rfl ?_
  refine J_if_lt (tgt := 15) dX10_trim_1 (by decide) (by first | exact i32_eq (by assumption) | exact i32_eq ⟨by omega, by omega⟩ | with_reducible exact i32_i32 _ | with_reducible exact i32_eq (b2i_inr _) | rfl) (fun h1 => ?_) (fun h1 => ?_)
  · exact AX_throwE (E := "java/lang/IllegalArgumentException") (text := "the tape has not so many bytes") htab hlt xk_96_100 (by decide +kernel) (by decide) (by decide) (by decide) (by decide) (by decide) (by simp only [trO]; (repeat' split) <;> first | contradiction | (exfalso; omega) | (exfalso; simp_all; done) | rfl | (simp only [I32_i32, I64_i64]; done)) (by simp only [trS]; (repeat' split) <;> first | contradiction | (exfalso; omega) | (exfalso; simp_all; done) | rfl | (simp only [I32_i32, I64_i64]; done)) dX10_trim_15 dX10_trim_18 (Or.inl ⟨dX10_trim_19, dX10_trim_21, dX10_trim_24⟩)
  · refine A_iload_n dX10_trim_4 rfl 1 rfl ?_
    refine A_aload_n dX10_trim_5 rfl 0 rfl ?_
    refine A_getr fl_X10_12 lk_0 rfl dX10_trim_6 ?_
    refine A_geti fl_X10_82 lk_1 rfl dX10_trim_9 ?_
    refine J_icmp_le (tgt := 25) dX10_trim_12 (by decide) (by first | exact i32_eq (by assumption) | exact i32_eq ⟨by omega, by omega⟩ | with_reducible exact i32_i32 _ | with_reducible exact i32_eq (b2i_inr _) | rfl) (by first | exact i32_eq (by assumption) | exact i32_eq ⟨by omega, by omega⟩ | with_reducible exact i32_i32 _ | with_reducible exact i32_eq (b2i_inr _) | rfl) (fun h12 => ?_) (fun h12 => ?_)
    · refine A_aload_n dX10_trim_25 rfl 0 rfl ?_
      refine A_getr fl_X10_12 lk_0 rfl dX10_trim_26 ?_
      refine A_iload_n dX10_trim_29 rfl 1 rfl ?_
      refine A_Vv1 mv_X10_101 lk_1 rfl rfl (c_X8_shorten _ _) (Nat.le_of_ble_eq_true rfl) (by omega) (by omega) dX10_trim_30 ?_
      refine A_iload_n dX10_trim_33 rfl 1 rfl ?_
      exact AX_ret (by simp only [trO]; (repeat' split) <;> first | contradiction | (exfalso; omega) | (exfalso; simp_all; done) | rfl | (simp only [I32_i32, I64_i64]; done)) (by decide) (by decide) (A_iret dX10_trim_34 rfl (by simp only [trS]; (repeat' split) <;> first | contradiction | (exfalso; omega) | (exfalso; simp_all; done) | rfl | (simp only [I32_i32, I64_i64]; done)))
    · exact AX_throwE (E := "java/lang/IllegalArgumentException") (text := "the tape has not so many bytes") htab hlt xk_96_100 (by decide +kernel) (by decide) (by decide) (by decide) (by decide) (by decide) (by simp only [trO]; (repeat' split) <;> first | contradiction | (exfalso; omega) | (exfalso; simp_all; done) | rfl | (simp only [I32_i32, I64_i64]; done)) (by simp only [trS]; (repeat' split) <;> first | contradiction | (exfalso; omega) | (exfalso; simp_all; done) | rfl | (simp only [I32_i32, I64_i64]; done)) dX10_trim_15 dX10_trim_18 (Or.inl ⟨dX10_trim_19, dX10_trim_21, dX10_trim_24⟩)
set_option maxRecDepth 100000 in
set_option maxHeartbeats 4000000 in
theorem c_X10_countOf (σ : Sg) (w : Int)  : Ct l G yX10_countOf cX10_countOf 2 (some .int) 0 0 0 [.ref (lay G 0), .int (I32 w)] σ (some (.int (I32 (coV σ w)))) (σ) := by
  refine Ct.of (by decide +kernel) (Nat.le_of_ble_eq_true rfl) (fun f => ?_)
  show AW _ _ _ _ _ _ _ _ _ _ [(0, _), (1, _)] _ _
  refine A_iload_n dX10_countOf_0 rfl 1 rfl ?_
  by_cases h1_0 : i32 (w) = 0
  · refine J_tsIn (tgt := 44) dX10_countOf_1 h1_0 ⟨by decide, by decide⟩ (by decide) (by decide) rfl (by decide) ?_
    refine A_aload_n dX10_countOf_44 rfl 0 rfl ?_
    refine A_getr fl_X10_35 lk_0 rfl dX10_countOf_45 ?_
    refine A_getr fl_X10_161 lk_9 rfl dX10_countOf_48 ?_
    refine A_geti fl_X10_152 lk_10 rfl dX10_countOf_51 ?_
    exact A_iret dX10_countOf_54 (by simp only [coV]; (repeat' split) <;> first | contradiction | (exfalso; omega) | (exfalso; simp_all; done) | rfl | (simp only [I32_i32, I64_i64]; done)) (by rfl)
  by_cases h1_1 : i32 (w) = 1
  · refine J_tsIn (tgt := 55) dX10_countOf_1 h1_1 ⟨by decide, by decide⟩ (by decide) (by decide) rfl (by decide) ?_
    refine A_aload_n dX10_countOf_55 rfl 0 rfl ?_
    refine A_getr fl_X10_35 lk_0 rfl dX10_countOf_56 ?_
    refine A_getr fl_X10_148 lk_9 rfl dX10_countOf_59 ?_
    refine A_geti fl_X10_152 lk_12 rfl dX10_countOf_62 ?_
    exact A_iret dX10_countOf_65 (by simp only [coV]; (repeat' split) <;> first | contradiction | (exfalso; omega) | (exfalso; simp_all; done) | rfl | (simp only [I32_i32, I64_i64]; done)) (by rfl)
  by_cases h1_2 : i32 (w) = 2
  · refine J_tsIn (tgt := 66) dX10_countOf_1 h1_2 ⟨by decide, by decide⟩ (by decide) (by decide) rfl (by decide) ?_
    refine A_aload_n dX10_countOf_66 rfl 0 rfl ?_
    refine A_getr fl_X10_35 lk_0 rfl dX10_countOf_67 ?_
    refine A_getr fl_X10_288 lk_9 rfl dX10_countOf_70 ?_
    refine A_geti fl_X10_152 lk_14 rfl dX10_countOf_73 ?_
    exact A_iret dX10_countOf_76 (by simp only [coV]; (repeat' split) <;> first | contradiction | (exfalso; omega) | (exfalso; simp_all; done) | rfl | (simp only [I32_i32, I64_i64]; done)) (by rfl)
  by_cases h1_3 : i32 (w) = 3
  · refine J_tsIn (tgt := 77) dX10_countOf_1 h1_3 ⟨by decide, by decide⟩ (by decide) (by decide) rfl (by decide) ?_
    refine A_aload_n dX10_countOf_77 rfl 0 rfl ?_
    refine A_getr fl_X10_35 lk_0 rfl dX10_countOf_78 ?_
    refine A_geti fl_X10_251 lk_9 rfl dX10_countOf_81 ?_
    exact A_iret dX10_countOf_84 (by simp only [coV]; (repeat' split) <;> first | contradiction | (exfalso; omega) | (exfalso; simp_all; done) | rfl | (simp only [I32_i32, I64_i64]; done)) (by rfl)
  by_cases h1_4 : i32 (w) = 4
  · refine J_tsIn (tgt := 85) dX10_countOf_1 h1_4 ⟨by decide, by decide⟩ (by decide) (by decide) rfl (by decide) ?_
    refine A_aload_n dX10_countOf_85 rfl 0 rfl ?_
    refine A_getr fl_X10_35 lk_0 rfl dX10_countOf_86 ?_
    refine A_getr fl_X10_194 lk_9 rfl dX10_countOf_89 ?_
    refine A_geti fl_X10_291 lk_18 rfl dX10_countOf_92 ?_
    exact A_iret dX10_countOf_95 (by simp only [coV]; (repeat' split) <;> first | contradiction | (exfalso; omega) | (exfalso; simp_all; done) | rfl | (simp only [I32_i32, I64_i64]; done)) (by rfl)
  by_cases h1_5 : i32 (w) = 5
  · refine J_tsIn (tgt := 96) dX10_countOf_1 h1_5 ⟨by decide, by decide⟩ (by decide) (by decide) rfl (by decide) ?_
    refine A_aload_n dX10_countOf_96 rfl 0 rfl ?_
    refine A_getr fl_X10_35 lk_0 rfl dX10_countOf_97 ?_
    refine A_getr fl_X10_292 lk_9 rfl dX10_countOf_100 ?_
    refine A_geti fl_X10_152 lk_16 rfl dX10_countOf_103 ?_
    exact A_iret dX10_countOf_106 (by simp only [coV]; (repeat' split) <;> first | contradiction | (exfalso; omega) | (exfalso; simp_all; done) | rfl | (simp only [I32_i32, I64_i64]; done)) (by rfl)
  by_cases h1_6 : i32 (w) = 6
  · refine J_tsIn (tgt := 107) dX10_countOf_1 h1_6 ⟨by decide, by decide⟩ (by decide) (by decide) rfl (by decide) ?_
    refine A_aload_n dX10_countOf_107 rfl 0 rfl ?_
    refine A_getr fl_X10_62 lk_0 rfl dX10_countOf_108 ?_
    refine A_geti fl_X10_273 lk_55 rfl dX10_countOf_111 ?_
    exact A_iret dX10_countOf_114 (by simp only [coV]; (repeat' split) <;> first | contradiction | (exfalso; omega) | (exfalso; simp_all; done) | rfl | (simp only [I32_i32, I64_i64]; done)) (by rfl)
  refine J_tsOut (tgt := 115) dX10_countOf_1 (by omega) (by decide) ?_
  refine A_aload_n dX10_countOf_115 rfl 0 rfl ?_
  refine A_getr fl_X10_12 lk_0 rfl dX10_countOf_116 ?_
  refine A_geti fl_X10_82 lk_1 rfl dX10_countOf_119 ?_
  exact A_iret dX10_countOf_122 (by simp only [coV]; (repeat' split) <;> first | contradiction | (exfalso; omega) | (exfalso; simp_all; done) | rfl | (simp only [I32_i32, I64_i64]; done)) (by rfl)
set_option maxRecDepth 100000 in
set_option maxHeartbeats 4000000 in
theorem c_X10_count (σ : Sg) (w : Int)  (hlt : l.stackTraces = false) : CtX l G yX10_count cX10_count 2 (some .int) 6 1 6 [.ref (lay G 0), .int (I32 w)] σ (coO σ w) (σ) := by
  refine CtX.of (by decide +kernel) (Nat.le_of_ble_eq_true rfl) (fun f htab => ?_)
  show AW _ _ _ _ _ _ _ _ _ _ [(0, _), (1, _)] _ _
  refine A_iload_n dX10_count_0 rfl 1 rfl ?_
  refine J_if_lt (tgt := 10) dX10_count_1 (by decide) (by first | exact i32_eq (by assumption) | exact i32_eq ⟨by omega, by omega⟩ | with_reducible exact i32_i32 _ | with_reducible exact i32_eq (b2i_inr _) | rfl) (fun h1 => ?_) (fun h1 => ?_)
  · exact AX_throwE (E := "java/lang/IndexOutOfBoundsException") (text := "there is no such count") htab hlt xk_131_135 (by decide +kernel) (by decide) (by decide) (by decide) (by decide) (by decide) (by simp only [coO]; (repeat' split) <;> first | contradiction | (exfalso; omega) | (exfalso; simp_all; done) | rfl | (simp only [I32_i32, I64_i64]; done)) (by rfl) dX10_count_10 dX10_count_13 (Or.inl ⟨dX10_count_14, dX10_count_16, dX10_count_19⟩)
  · refine A_iload_n dX10_count_4 rfl 1 rfl ?_
    refine A_bipush dX10_count_5 (by decide +kernel) ?_
    refine J_icmp_lt (tgt := 20) dX10_count_7 (by decide) (by first | exact i32_eq (by assumption) | exact i32_eq ⟨by omega, by omega⟩ | with_reducible exact i32_i32 _ | with_reducible exact i32_eq (b2i_inr _) | rfl) (by first | exact i32_eq (by assumption) | exact i32_eq ⟨by omega, by omega⟩ | with_reducible exact i32_i32 _ | with_reducible exact i32_eq (b2i_inr _) | rfl) (fun h7 => ?_) (fun h7 => ?_)
    · refine A_aload_n dX10_count_20 rfl 0 rfl ?_
      refine A_iload_n dX10_count_21 rfl 1 rfl ?_
      refine A_Va1 mv_X10_136 lk_0 rfl rfl (c_X10_countOf _ _) (Nat.le_of_ble_eq_true rfl) (by omega) (by omega) dX10_count_22 ?_
      exact AX_ret (by simp only [coO]; (repeat' split) <;> first | contradiction | (exfalso; omega) | (exfalso; simp_all; done) | rfl | (simp only [I32_i32, I64_i64]; done)) (by decide) (by decide) (A_iret dX10_count_25 rfl (by rfl))
    · exact AX_throwE (E := "java/lang/IndexOutOfBoundsException") (text := "there is no such count") htab hlt xk_131_135 (by decide +kernel) (by decide) (by decide) (by decide) (by decide) (by decide) (by simp only [coO]; (repeat' split) <;> first | contradiction | (exfalso; omega) | (exfalso; simp_all; done) | rfl | (simp only [I32_i32, I64_i64]; done)) (by rfl) dX10_count_10 dX10_count_13 (Or.inl ⟨dX10_count_14, dX10_count_16, dX10_count_19⟩)
set_option maxRecDepth 100000 in
set_option maxHeartbeats 4000000 in
theorem c_X10_errorAt (σ : Sg)  : Ct l G yX10_errorAt cX10_errorAt 1 (some .int) 0 0 0 [.ref (lay G 0)] σ (some (.int (I32 (σ 0 8)))) (σ) := by
  refine Ct.of (by decide +kernel) (Nat.le_of_ble_eq_true rfl) (fun f => ?_)
  show AW _ _ _ _ _ _ _ _ _ _ [(0, _)] _ _
  refine A_aload_n dX10_errorAt_0 rfl 0 rfl ?_
  refine A_geti fl_X10_75 lk_0 rfl dX10_errorAt_1 ?_
  exact A_iret dX10_errorAt_4 (by rfl) (by rfl)
set_option maxRecDepth 100000 in
set_option maxHeartbeats 4000000 in
theorem c_X10_suited (σ : Sg)  : Ct l G yX10_suited cX10_suited 1 (some .int) 0 0 0 [.ref (lay G 0)] σ (some (.int (I32 (σ 0 9)))) (σ) := by
  refine Ct.of (by decide +kernel) (Nat.le_of_ble_eq_true rfl) (fun f => ?_)
  show AW _ _ _ _ _ _ _ _ _ _ [(0, _)] _ _
  refine A_aload_n dX10_suited_0 rfl 0 rfl ?_
  refine A_geti fl_X10_79 lk_0 rfl dX10_suited_1 ?_
  exact A_iret dX10_suited_4 (by rfl) (by rfl)
set_option maxRecDepth 100000 in
set_option maxHeartbeats 4000000 in
theorem c_X10_faults (σ : Sg)  : Ct l G yX10_faults cX10_faults 1 (some .int) 1 0 0 [.ref (lay G 0)] σ (some (.int (I32 (afC σ)))) (σ) := by
  refine Ct.of (by decide +kernel) (Nat.le_of_ble_eq_true rfl) (fun f => ?_)
  show AW _ _ _ _ _ _ _ _ _ _ [(0, _)] _ _
  refine A_aload_n dX10_faults_0 rfl 0 rfl ?_
  refine A_getr fl_X10_62 lk_0 rfl dX10_faults_1 ?_
  refine A_Va0 mv_X10_213 lk_55 rfl rfl (c_X3_allFaults _) (Nat.le_of_ble_eq_true rfl) (by omega) (by omega) dX10_faults_4 ?_
  exact A_iret dX10_faults_7 (by rfl) (by rfl)
set_option maxRecDepth 100000 in
set_option maxHeartbeats 4000000 in
theorem c_X10_improve (σ : Sg)  : Ct l G yX10_improve cX10_improve 1 (some .int) 6 0 0 [.ref (lay G 0)] σ (some (.int (I32 (afC (cbC σ))))) (cbC σ) := by
  refine Ct.of (by decide +kernel) (Nat.le_of_ble_eq_true rfl) (fun f => ?_)
  show AW _ _ _ _ _ _ _ _ _ _ [(0, _)] _ _
  refine A_aload_n dX10_improve_0 rfl 0 rfl ?_
  refine A_getr fl_X10_71 lk_0 rfl dX10_improve_1 ?_
  refine A_Vv0 mv_X10_241 lk_83 rfl rfl (c_X5_changeBest _) (Nat.le_of_ble_eq_true rfl) (by omega) (by omega) dX10_improve_4 ?_
  refine A_aload_n dX10_improve_7 rfl 0 rfl ?_
  refine A_getr fl_X10_62 lk_0 rfl dX10_improve_8 ?_
  refine A_Va0 mv_X10_213 lk_55 rfl rfl (c_X3_allFaults _) (Nat.le_of_ble_eq_true rfl) (by omega) (by omega) dX10_improve_11 ?_
  exact A_iret dX10_improve_14 (by rfl) (by rfl)
set_option maxRecDepth 100000 in
set_option maxHeartbeats 4000000 in
theorem c_X10_choice (σ : Sg) (x : Int) (p : Bool)  (hlt : l.stackTraces = false) : CtX l G yX10_choice cX10_choice 3 (some .int) 6 1 6 [.ref (lay G 0), .int (I32 x), .int (I32 (b2i p))] σ (chO σ x p) (σ) := by
  refine CtX.of (by decide +kernel) (Nat.le_of_ble_eq_true rfl) (fun f htab => ?_)
  show AW _ _ _ _ _ _ _ _ _ _ [(0, _), (1, _), (2, _)] _ _
  refine A_aload_n dX10_choice_0 rfl 0 rfl ?_
  refine A_getr fl_X10_35 lk_0 rfl dX10_choice_1 ?_
  refine A_iload_n dX10_choice_4 rfl 1 rfl ?_
  refine A_Va1 mv_X10_183 lk_9 rfl rfl (c_X6_hasChoice _ _) (Nat.le_of_ble_eq_true rfl) (by omega) (by omega) dX10_choice_5 ?_
  refine A_ifne_b (tgt := 21) dX10_choice_8 (by decide) (fun h8 => ?_) (fun h8 => ?_)
  · have hbb := hasCh_b h8
    refine A_iload_n dX10_choice_21 rfl 2 rfl ?_
    refine A_ifeq_b (tgt := 37) dX10_choice_22 (by decide) (fun h22 => ?_) (fun h22 => ?_)
    · refine A_aload_n dX10_choice_37 rfl 0 rfl ?_
      refine A_getr fl_X10_35 lk_0 rfl dX10_choice_38 ?_
      refine A_getr fl_X10_192 lk_9 rfl dX10_choice_41 ?_
      refine A_iload_n dX10_choice_44 rfl 1 rfl ?_
      refine J_iald lk_33 (by first | exact i32_eq (by assumption) | exact i32_eq ⟨by omega, by omega⟩ | with_reducible exact i32_i32 _ | with_reducible exact i32_eq (b2i_inr _) | rfl) (by omega) (by omega) (by decide) dX10_choice_45 ?_
      try simp (disch := omega) only [up_k, up_j, up_s]
      exact AX_ret (by simp only [chO]; (repeat' split) <;> first | contradiction | (exfalso; omega) | (exfalso; simp_all; done) | rfl | (simp only [I32_i32, I64_i64]; done)) (by decide) (by decide) (A_iret dX10_choice_46 rfl (by rfl))
    · refine A_aload_n dX10_choice_25 rfl 0 rfl ?_
      refine A_getr fl_X10_35 lk_0 rfl dX10_choice_26 ?_
      refine A_getr fl_X10_188 lk_9 rfl dX10_choice_29 ?_
      refine A_iload_n dX10_choice_32 rfl 1 rfl ?_
      refine J_iald lk_32 (by first | exact i32_eq (by assumption) | exact i32_eq ⟨by omega, by omega⟩ | with_reducible exact i32_i32 _ | with_reducible exact i32_eq (b2i_inr _) | rfl) (by omega) (by omega) (by decide) dX10_choice_33 ?_
      try simp (disch := omega) only [up_k, up_j, up_s]
      refine A_goto (tgt := 46) dX10_choice_34 (by decide) ?_
      exact AX_ret (by simp only [chO]; (repeat' split) <;> first | contradiction | (exfalso; omega) | (exfalso; simp_all; done) | rfl | (simp only [I32_i32, I64_i64]; done)) (by decide) (by decide) (A_iret dX10_choice_46 rfl (by rfl))
  · exact AX_throwE (E := "java/lang/IndexOutOfBoundsException") (text := "there is no such choice") htab hlt xk_131_135 (by decide +kernel) (by decide) (by decide) (by decide) (by decide) (by decide) (by simp only [chO]; (repeat' split) <;> first | contradiction | (exfalso; omega) | (exfalso; simp_all; done) | rfl | (simp only [I32_i32, I64_i64]; done)) (by rfl) dX10_choice_11 dX10_choice_14 (Or.inl ⟨dX10_choice_15, dX10_choice_17, dX10_choice_20⟩)
set_option maxRecDepth 100000 in
set_option maxHeartbeats 4000000 in
theorem c_X10_plan (σ : Sg) (d : Int)  (hlt : l.stackTraces = false) : CtX l G yX10_plan cX10_plan 2 (some .int) 6 1 6 [.ref (lay G 0), .int (I32 d)] σ (plO σ d) (plS σ d) := by
  refine CtX.of (by decide +kernel) (Nat.le_of_ble_eq_true rfl) (fun f htab => ?_)
  show AW _ _ _ _ _ _ _ _ _ _ [(0, _), (1, _)] _ _
  refine A_iload_n dX10_plan_0 rfl 1 rfl ?_
  refine A_iconst dX10_plan_1 ?_
  refine J_icmp_lt (tgt := 11) dX10_plan_2 (by decide) (by first | exact i32_eq (by assumption) | exact i32_eq ⟨by omega, by omega⟩ | with_reducible exact i32_i32 _ | with_reducible exact i32_eq (b2i_inr _) | rfl) (by first | exact i32_eq (by assumption) | exact i32_eq ⟨by omega, by omega⟩ | with_reducible exact i32_i32 _ | with_reducible exact i32_eq (b2i_inr _) | rfl) (fun h2 => ?_) (fun h2 => ?_)
  · exact AX_throwE (E := "java/lang/IllegalArgumentException") (text := "a menu is planned for 1 to 14 days") htab hlt xk_96_100 (by decide +kernel) (by decide) (by decide) (by decide) (by decide) (by decide) (by simp only [plO]; (repeat' split) <;> first | contradiction | (exfalso; omega) | (exfalso; simp_all; done) | rfl | (simp only [I32_i32, I64_i64]; done)) (by simp only [plS]; (repeat' split) <;> first | contradiction | (exfalso; omega) | (exfalso; simp_all; done) | rfl | (simp only [I32_i32, I64_i64]; done)) dX10_plan_11 dX10_plan_14 (Or.inl ⟨dX10_plan_15, dX10_plan_17, dX10_plan_20⟩)
  · refine A_iload_n dX10_plan_5 rfl 1 rfl ?_
    refine A_bipush dX10_plan_6 (by decide +kernel) ?_
    refine J_icmp_le (tgt := 21) dX10_plan_8 (by decide) (by first | exact i32_eq (by assumption) | exact i32_eq ⟨by omega, by omega⟩ | with_reducible exact i32_i32 _ | with_reducible exact i32_eq (b2i_inr _) | rfl) (by first | exact i32_eq (by assumption) | exact i32_eq ⟨by omega, by omega⟩ | with_reducible exact i32_i32 _ | with_reducible exact i32_eq (b2i_inr _) | rfl) (fun h8 => ?_) (fun h8 => ?_)
    · refine A_aload_n dX10_plan_21 rfl 0 rfl ?_
      refine A_getr fl_X10_35 lk_0 rfl dX10_plan_22 ?_
      refine A_getr fl_X10_148 lk_9 rfl dX10_plan_25 ?_
      refine A_geti fl_X10_152 lk_12 rfl dX10_plan_28 ?_
      refine J_if_ne (tgt := 44) dX10_plan_31 (by decide) (by first | exact i32_eq (by assumption) | exact i32_eq ⟨by omega, by omega⟩ | with_reducible exact i32_i32 _ | with_reducible exact i32_eq (b2i_inr _) | rfl) (fun h31 => ?_) (fun h31 => ?_)
      · refine A_aload_n dX10_plan_44 rfl 0 rfl ?_
        refine A_getr fl_X10_71 lk_0 rfl dX10_plan_45 ?_
        refine A_iload_n dX10_plan_48 rfl 1 rfl ?_
        refine A_Vv1 mv_X10_210 lk_83 rfl rfl (c_X5_fillMenu _ _) (Nat.le_of_ble_eq_true rfl) (by omega) (by omega) dX10_plan_49 ?_
        refine A_aload_n dX10_plan_52 rfl 0 rfl ?_
        refine A_getr fl_X10_62 lk_0 rfl dX10_plan_53 ?_
        refine A_Va0 mv_X10_213 lk_55 rfl rfl (c_X3_allFaults _) (Nat.le_of_ble_eq_true rfl) (by omega) (by omega) dX10_plan_56 ?_
        exact AX_ret (by simp only [plO]; (repeat' split) <;> first | contradiction | (exfalso; omega) | (exfalso; simp_all; done) | rfl | (simp only [I32_i32, I64_i64]; done)) (by decide) (by decide) (A_iret dX10_plan_59 rfl (by simp only [plS]; (repeat' split) <;> first | contradiction | (exfalso; omega) | (exfalso; simp_all; done) | rfl | (simp only [I32_i32, I64_i64]; done)))
      · exact AX_throwE (E := "java/lang/IllegalStateException") (text := "there is no program") htab hlt xk_85_89 (by decide +kernel) (by decide) (by decide) (by decide) (by decide) (by decide) (by simp only [plO]; (repeat' split) <;> first | contradiction | (exfalso; omega) | (exfalso; simp_all; done) | rfl | (simp only [I32_i32, I64_i64]; done)) (by simp only [plS]; (repeat' split) <;> first | contradiction | (exfalso; omega) | (exfalso; simp_all; done) | rfl | (simp only [I32_i32, I64_i64]; done)) dX10_plan_34 dX10_plan_37 (Or.inl ⟨dX10_plan_38, dX10_plan_40, dX10_plan_43⟩)
    · exact AX_throwE (E := "java/lang/IllegalArgumentException") (text := "a menu is planned for 1 to 14 days") htab hlt xk_96_100 (by decide +kernel) (by decide) (by decide) (by decide) (by decide) (by decide) (by simp only [plO]; (repeat' split) <;> first | contradiction | (exfalso; omega) | (exfalso; simp_all; done) | rfl | (simp only [I32_i32, I64_i64]; done)) (by simp only [plS]; (repeat' split) <;> first | contradiction | (exfalso; omega) | (exfalso; simp_all; done) | rfl | (simp only [I32_i32, I64_i64]; done)) dX10_plan_11 dX10_plan_14 (Or.inl ⟨dX10_plan_15, dX10_plan_17, dX10_plan_20⟩)
set_option maxRecDepth 100000 in
set_option maxHeartbeats 4000000 in
theorem c_X10_at (σ : Sg) (d c : Int)  (hlt : l.stackTraces = false) : CtX l G yX10_at cX10_at 3 (some .int) 6 1 6 [.ref (lay G 0), .int (I32 d), .int (I32 c)] σ (atO σ d c) (σ) := by
  refine CtX.of (by decide +kernel) (Nat.le_of_ble_eq_true rfl) (fun f htab => ?_)
  show AW _ _ _ _ _ _ _ _ _ _ [(0, _), (1, _), (2, _)] _ _
  refine A_aload_n dX10_at_0 rfl 0 rfl ?_
  refine A_getr fl_X10_62 lk_0 rfl dX10_at_1 ?_
  refine A_iload_n dX10_at_4 rfl 1 rfl ?_
  refine A_iload_n dX10_at_5 rfl 2 rfl ?_
  refine A_Va2 mv_X10_216 lk_55 rfl rfl (c_X3_hasPlace _ _ _) (Nat.le_of_ble_eq_true rfl) (by omega) (by omega) dX10_at_6 ?_
  refine A_ifne_b (tgt := 22) dX10_at_9 (by decide) (fun h9 => ?_) (fun h9 => ?_)
  · refine A_aload_n dX10_at_22 rfl 0 rfl ?_
    refine A_getr fl_X10_62 lk_0 rfl dX10_at_23 ?_
    refine A_iload_n dX10_at_26 rfl 1 rfl ?_
    refine A_iload_n dX10_at_27 rfl 2 rfl ?_
    refine A_Va2 mv_X10_222 lk_55 rfl rfl (c_X3_dishOn _ _ _) (Nat.le_of_ble_eq_true rfl) (by omega) (by omega) dX10_at_28 ?_
    exact AX_ret (by simp only [atO]; (repeat' split) <;> first | contradiction | (exfalso; omega) | (exfalso; simp_all; done) | rfl | (simp only [I32_i32, I64_i64]; done)) (by decide) (by decide) (A_iret dX10_at_31 rfl (by rfl))
  · exact AX_throwE (E := "java/lang/IndexOutOfBoundsException") (text := "there is no such day or choice") htab hlt xk_131_135 (by decide +kernel) (by decide) (by decide) (by decide) (by decide) (by decide) (by simp only [atO]; (repeat' split) <;> first | contradiction | (exfalso; omega) | (exfalso; simp_all; done) | rfl | (simp only [I32_i32, I64_i64]; done)) (by rfl) dX10_at_12 dX10_at_15 (Or.inl ⟨dX10_at_16, dX10_at_18, dX10_at_21⟩)
set_option maxRecDepth 100000 in
set_option maxHeartbeats 4000000 in
theorem c_X10_faultsOf (σ : Sg) (r : Int)  (hlt : l.stackTraces = false) : CtX l G yX10_faultsOf cX10_faultsOf 2 (some .int) 6 1 6 [.ref (lay G 0), .int (I32 r)] σ (foO σ r) (σ) := by
  refine CtX.of (by decide +kernel) (Nat.le_of_ble_eq_true rfl) (fun f htab => ?_)
  show AW _ _ _ _ _ _ _ _ _ _ [(0, _), (1, _)] _ _
  refine A_aload_n dX10_faultsOf_0 rfl 0 rfl ?_
  refine A_getr fl_X10_35 lk_0 rfl dX10_faultsOf_1 ?_
  refine A_getr fl_X10_194 lk_9 rfl dX10_faultsOf_4 ?_
  refine A_iload_n dX10_faultsOf_7 rfl 1 rfl ?_
  refine A_Va1 mv_X10_198 lk_18 rfl rfl (c_X7_has _ _) (Nat.le_of_ble_eq_true rfl) (by omega) (by omega) dX10_faultsOf_8 ?_
  refine A_ifne_b (tgt := 24) dX10_faultsOf_11 (by decide) (fun h11 => ?_) (fun h11 => ?_)
  · have hbb := rHas_b h11
    refine A_aload_n dX10_faultsOf_24 rfl 0 rfl ?_
    refine A_getr fl_X10_62 lk_0 rfl dX10_faultsOf_25 ?_
    refine A_getr fl_X10_238 lk_55 rfl dX10_faultsOf_28 ?_
    refine A_iload_n dX10_faultsOf_31 rfl 1 rfl ?_
    refine J_iald lk_60 (by first | exact i32_eq (by assumption) | exact i32_eq ⟨by omega, by omega⟩ | with_reducible exact i32_i32 _ | with_reducible exact i32_eq (b2i_inr _) | rfl) (by omega) (by omega) (by decide) dX10_faultsOf_32 ?_
    try simp (disch := omega) only [up_k, up_j, up_s]
    exact AX_ret (by simp only [foO]; (repeat' split) <;> first | contradiction | (exfalso; omega) | (exfalso; simp_all; done) | rfl | (simp only [I32_i32, I64_i64]; done)) (by decide) (by decide) (A_iret dX10_faultsOf_33 rfl (by rfl))
  · exact AX_throwE (E := "java/lang/IndexOutOfBoundsException") (text := "there is no such rule") htab hlt xk_131_135 (by decide +kernel) (by decide) (by decide) (by decide) (by decide) (by decide) (by simp only [foO]; (repeat' split) <;> first | contradiction | (exfalso; omega) | (exfalso; simp_all; done) | rfl | (simp only [I32_i32, I64_i64]; done)) (by rfl) dX10_faultsOf_14 dX10_faultsOf_17 (Or.inl ⟨dX10_faultsOf_18, dX10_faultsOf_20, dX10_faultsOf_23⟩)
set_option maxRecDepth 100000 in
set_option maxHeartbeats 4000000 in
theorem c_X10_times (σ : Sg) (x : Int)  (hlt : l.stackTraces = false) : CtX l G yX10_times cX10_times 2 (some .int) 6 1 6 [.ref (lay G 0), .int (I32 x)] σ (tmO σ x) (σ) := by
  refine CtX.of (by decide +kernel) (Nat.le_of_ble_eq_true rfl) (fun f htab => ?_)
  show AW _ _ _ _ _ _ _ _ _ _ [(0, _), (1, _)] _ _
  refine A_aload_n dX10_times_0 rfl 0 rfl ?_
  refine A_getr fl_X10_35 lk_0 rfl dX10_times_1 ?_
  refine A_getr fl_X10_148 lk_9 rfl dX10_times_4 ?_
  refine A_iload_n dX10_times_7 rfl 1 rfl ?_
  refine A_Va1 mv_X10_164 lk_12 rfl rfl (c_X4_has_12 _ _) (Nat.le_of_ble_eq_true rfl) (by omega) (by omega) dX10_times_8 ?_
  refine A_ifne_b (tgt := 25) dX10_times_11 (by decide) (fun h11 => ?_) (fun h11 => ?_)
  · have hbb := hasC_b h11
    refine A_aload_n dX10_times_25 rfl 0 rfl ?_
    refine A_getr fl_X10_62 lk_0 rfl dX10_times_26 ?_
    refine A_getr fl_X10_262 lk_55 rfl dX10_times_29 ?_
    refine A_iload_n dX10_times_32 rfl 1 rfl ?_
    refine J_iald lk_59 (by first | exact i32_eq (by assumption) | exact i32_eq ⟨by omega, by omega⟩ | with_reducible exact i32_i32 _ | with_reducible exact i32_eq (b2i_inr _) | rfl) (by omega) (by omega) (by decide) dX10_times_33 ?_
    try simp (disch := omega) only [up_k, up_j, up_s]
    exact AX_ret (by simp only [tmO]; (repeat' split) <;> first | contradiction | (exfalso; omega) | (exfalso; simp_all; done) | rfl | (simp only [I32_i32, I64_i64]; done)) (by decide) (by decide) (A_iret dX10_times_34 rfl (by rfl))
  · exact AX_throwE (E := "java/lang/IndexOutOfBoundsException") (text := "there is no such dish") htab hlt xk_131_135 (by decide +kernel) (by decide) (by decide) (by decide) (by decide) (by decide) (by simp only [tmO]; (repeat' split) <;> first | contradiction | (exfalso; omega) | (exfalso; simp_all; done) | rfl | (simp only [I32_i32, I64_i64]; done)) (by rfl) dX10_times_14 dX10_times_17 (Or.inr ⟨dX10_times_18, dX10_times_21, dX10_times_24⟩)
set_option maxRecDepth 100000 in
set_option maxHeartbeats 4000000 in
theorem w_X10_xc {f : Fm} (a b : Int) (hab : True) : ∀ (n : Nat) (i : Int) (σ σ1 : Sg) (o : Rs), 0 ≤ i → i + n = 2147483647 → o = .inl (some (.int (I32 (afC (fG (fun i q => decide (i < i32 (q 9 16))) (xcG a b) n i σ))))) → σ1 = fG (fun i q => decide (i < i32 (q 9 16))) (xcG a b) n i σ → AW l G f (RX10, cX10_exchange, 5, (some .int)) (6, 1, 6) (QX G f 1 6 o σ1) [] 0 0 49 [(3, .int (I32 i)), (0, .ref (lay G 0)), (1, .int (I32 a)), (2, .int (I32 b))] [] σ := by
  intro n
  induction n using Nat.strongRecOn with | _ n ih =>
  intro i σ σ1 o h0 hn ho hs
  obtain ⟨hz1, hz2⟩ := i32_inr (σ 9 16)
  refine A_iload_n dX10_exchange_49 rfl 0 rfl ?_
  refine A_aload_n dX10_exchange_50 rfl 1 rfl ?_
  refine A_getr fl_X10_35 lk_0 rfl dX10_exchange_51 ?_
  refine A_geti fl_X10_251 lk_9 rfl dX10_exchange_54 ?_
  refine J_icmp_ge (tgt := 106) dX10_exchange_57 (by decide) (by first | exact i32_eq (by assumption) | exact i32_eq ⟨by omega, by omega⟩ | with_reducible exact i32_i32 _ | with_reducible exact i32_eq (b2i_inr _) | rfl) (by first | exact i32_eq (by assumption) | exact i32_eq ⟨by omega, by omega⟩ | with_reducible exact i32_i32 _ | with_reducible exact i32_eq (b2i_inr _) | rfl) (fun h57 => ?_) (fun h57 => ?_)
  · refine A_aload_n dX10_exchange_106 rfl 1 rfl ?_
    refine A_getr fl_X10_62 lk_0 rfl dX10_exchange_107 ?_
    refine A_Va0 mv_X10_213 lk_55 rfl rfl (c_X3_allFaults _) (Nat.le_of_ble_eq_true rfl) (by omega) (by omega) dX10_exchange_110 ?_
    exact AX_ret (by rw [ho]; clear ih; cases n with | zero => rfl | succ n => rw [fG_s, if_neg (fun z => by have := of_decide_eq_true z; omega)]) (by decide) (by decide) (A_iret dX10_exchange_113 rfl (by rw [hs]; clear ih; cases n with | zero => rfl | succ n => rw [fG_s, if_neg (fun z => by have := of_decide_eq_true z; omega)]))
  · refine A_aload_n dX10_exchange_60 rfl 1 rfl ?_
    refine A_getr fl_X10_62 lk_0 rfl dX10_exchange_61 ?_
    refine A_iload_n dX10_exchange_64 rfl 2 rfl ?_
    refine A_iload_n dX10_exchange_65 rfl 0 rfl ?_
    refine A_Va2 mv_X10_222 lk_55 rfl rfl (c_X3_dishOn _ _ _) (Nat.le_of_ble_eq_true rfl) (by omega) (by omega) dX10_exchange_66 ?_
    refine A_istore (lv2 := [(4, _), (3, _), (0, _), (1, _), (2, _)]) dX10_exchange_69 (by decide) rfl ?_
    refine A_aload_n dX10_exchange_71 rfl 2 rfl ?_
    refine A_getr fl_X10_62 lk_0 rfl dX10_exchange_72 ?_
    refine A_iload_n dX10_exchange_75 rfl 3 rfl ?_
    refine A_iload_n dX10_exchange_76 rfl 1 rfl ?_
    refine A_aload_n dX10_exchange_77 rfl 2 rfl ?_
    refine A_getr fl_X10_62 lk_0 rfl dX10_exchange_78 ?_
    refine A_iload_n dX10_exchange_81 rfl 4 rfl ?_
    refine A_iload_n dX10_exchange_82 rfl 1 rfl ?_
    refine A_Va2 mv_X10_222 lk_55 rfl rfl (c_X3_dishOn _ _ _) (Nat.le_of_ble_eq_true rfl) (by omega) (by omega) dX10_exchange_83 ?_
    refine A_Vv3 mv_X10_232 lk_55 rfl rfl (c_X3_put _ _ _ _) (Nat.le_of_ble_eq_true rfl) (by omega) (by omega) dX10_exchange_86 ?_
    refine A_aload_n dX10_exchange_89 rfl 2 rfl ?_
    refine A_getr fl_X10_62 lk_0 rfl dX10_exchange_90 ?_
    refine A_iload_n dX10_exchange_93 rfl 4 rfl ?_
    refine A_iload_n dX10_exchange_94 rfl 1 rfl ?_
    refine A_iload dX10_exchange_95 0 rfl ?_
    refine A_Vv3 mv_X10_232 lk_55 rfl rfl (c_X3_put _ _ _ _) (Nat.le_of_ble_eq_true rfl) (by omega) (by omega) dX10_exchange_97 ?_
    refine A_iinc (lv2 := [(3, _), (4, _), (0, _), (1, _), (2, _)]) dX10_exchange_100 1 rfl (by decide) rfl ?_
    refine A_goto (tgt := 49) dX10_exchange_103 (by decide) ?_
    refine A_lv [0, 2, 3, 4] rfl ?_
    refine ih (n - 1) (by omega) (i + 1) _ σ1 o (by omega) (by omega) ?_ ?_
    · rw [ho]; clear ih; obtain ⟨n, rfl⟩ : ∃ q, n = q + 1 := ⟨n - 1, by omega⟩; rw [fG_s, if_pos (decide_eq_true (by omega))]; rfl
    · rw [hs]; clear ih; obtain ⟨n, rfl⟩ : ∃ q, n = q + 1 := ⟨n - 1, by omega⟩; rw [fG_s, if_pos (decide_eq_true (by omega))]; rfl
set_option maxRecDepth 100000 in
set_option maxHeartbeats 4000000 in
theorem c_X10_exchange (σ : Sg) (a b : Int)  (hlt : l.stackTraces = false) : CtX l G yX10_exchange cX10_exchange 5 (some .int) 6 1 6 [.ref (lay G 0), .int (I32 a), .int (I32 b)] σ (xcO σ a b) (xcS σ a b) := by
  refine CtX.of (by decide +kernel) (Nat.le_of_ble_eq_true rfl) (fun f htab => ?_)
  show AW _ _ _ _ _ _ _ _ _ _ [(0, _), (1, _), (2, _)] _ _
  refine A_aload_n dX10_exchange_0 rfl 0 rfl ?_
  refine A_getr fl_X10_62 lk_0 rfl dX10_exchange_1 ?_
  refine A_iload_n dX10_exchange_4 rfl 1 rfl ?_
  refine A_Va1 mv_X10_244 lk_55 rfl rfl (c_X3_hasDay _ _) (Nat.le_of_ble_eq_true rfl) (by omega) (by omega) dX10_exchange_5 ?_
  refine A_ifeq_b (tgt := 22) dX10_exchange_8 (by decide) (fun h8 => ?_) (fun h8 => ?_)
  · exact AX_throwE (E := "java/lang/IndexOutOfBoundsException") (text := "there is no such day") htab hlt xk_131_135 (by decide +kernel) (by decide) (by decide) (by decide) (by decide) (by decide) (by simp only [xcO]; (repeat' split) <;> first | contradiction | (exfalso; omega) | (exfalso; simp_all; done) | rfl | (simp only [I32_i32, I64_i64]; done)) (by simp only [xcS]; (repeat' split) <;> first | contradiction | (exfalso; omega) | (exfalso; simp_all; done) | rfl | (simp only [I32_i32, I64_i64]; done)) dX10_exchange_22 dX10_exchange_25 (Or.inl ⟨dX10_exchange_26, dX10_exchange_28, dX10_exchange_31⟩)
  · refine A_aload_n dX10_exchange_11 rfl 0 rfl ?_
    refine A_getr fl_X10_62 lk_0 rfl dX10_exchange_12 ?_
    refine A_iload_n dX10_exchange_15 rfl 2 rfl ?_
    refine A_Va1 mv_X10_244 lk_55 rfl rfl (c_X3_hasDay _ _) (Nat.le_of_ble_eq_true rfl) (by omega) (by omega) dX10_exchange_16 ?_
    refine A_ifne_b (tgt := 32) dX10_exchange_19 (by decide) (fun h19 => ?_) (fun h19 => ?_)
    · refine A_iload_n dX10_exchange_32 rfl 1 rfl ?_
      refine A_iload_n dX10_exchange_33 rfl 2 rfl ?_
      refine J_icmp_ne (tgt := 47) dX10_exchange_34 (by decide) (by first | exact i32_eq (by assumption) | exact i32_eq ⟨by omega, by omega⟩ | with_reducible exact i32_i32 _ | with_reducible exact i32_eq (b2i_inr _) | rfl) (by first | exact i32_eq (by assumption) | exact i32_eq ⟨by omega, by omega⟩ | with_reducible exact i32_i32 _ | with_reducible exact i32_eq (b2i_inr _) | rfl) (fun h34 => ?_) (fun h34 => ?_)
      · refine A_iconst dX10_exchange_47 ?_
        refine A_istore_n (lv2 := [(3, _), (0, _), (1, _), (2, _)]) dX10_exchange_48 rfl (by decide) rfl ?_
        refine A_lv [0, 1, 2, 3] rfl ?_
        refine w_X10_xc a b trivial BIG 0 σ _ _ (by omega) (by decide) ?_ ?_
        · exact (by simp only [xcO, xcT]; (repeat' split) <;> first | contradiction | (exfalso; omega) | (exfalso; simp_all; done) | rfl)
        · exact (by simp only [xcS, xcT]; (repeat' split) <;> first | contradiction | (exfalso; omega) | (exfalso; simp_all; done) | rfl)
      · exact AX_throwE (E := "java/lang/IllegalArgumentException") (text := "a day is not exchanged with itself") htab hlt xk_96_100 (by decide +kernel) (by decide) (by decide) (by decide) (by decide) (by decide) (by simp only [xcO]; (repeat' split) <;> first | contradiction | (exfalso; omega) | (exfalso; simp_all; done) | rfl | (simp only [I32_i32, I64_i64]; done)) (by simp only [xcS]; (repeat' split) <;> first | contradiction | (exfalso; omega) | (exfalso; simp_all; done) | rfl | (simp only [I32_i32, I64_i64]; done)) dX10_exchange_37 dX10_exchange_40 (Or.inl ⟨dX10_exchange_41, dX10_exchange_43, dX10_exchange_46⟩)
    · exact AX_throwE (E := "java/lang/IndexOutOfBoundsException") (text := "there is no such day") htab hlt xk_131_135 (by decide +kernel) (by decide) (by decide) (by decide) (by decide) (by decide) (by simp only [xcO]; (repeat' split) <;> first | contradiction | (exfalso; omega) | (exfalso; simp_all; done) | rfl | (simp only [I32_i32, I64_i64]; done)) (by simp only [xcS]; (repeat' split) <;> first | contradiction | (exfalso; omega) | (exfalso; simp_all; done) | rfl | (simp only [I32_i32, I64_i64]; done)) dX10_exchange_22 dX10_exchange_25 (Or.inl ⟨dX10_exchange_26, dX10_exchange_28, dX10_exchange_31⟩)
set_option maxRecDepth 100000 in
set_option maxHeartbeats 4000000 in
theorem w_X10_dc {f : Fm} {Q : State → Prop} {xs : va_W} {kk nn rc rs : Nat} (σ : Sg) (hm : kk ≤ rc ∧ nn ≤ rs) : ∀ (n : Nat) (i : Int) (s : Int), 0 ≤ i → inr i → i + n = 8 → AW l G f (RX10, cX10_digest, 4, (some .long)) (4, rc, rs) Q xs kk nn 31 [(1, .long (I64 (fW ((8 : Nat)) (dcG σ) n i s))), (0, .ref (lay G 0))] [] (σ) → AW l G f (RX10, cX10_digest, 4, (some .long)) (4, rc, rs) Q xs kk nn 6 [(3, .int (I32 i)), (1, .long (I64 s)), (0, .ref (lay G 0))] [] (σ) := by
  intro n
  induction n using Nat.strongRecOn with | _ n ih =>
  intro i s h0 hii hn  hK
  obtain ⟨hi1, hi2⟩ := hii
  refine A_iload_n dX10_digest_6 rfl 0 rfl ?_
  refine A_bipush dX10_digest_7 (by decide +kernel) ?_
  refine J_icmp_ge (tgt := 31) dX10_digest_9 (by decide) (by first | exact i32_eq (by assumption) | exact i32_eq ⟨by omega, by omega⟩ | with_reducible exact i32_i32 _ | with_reducible exact i32_eq (b2i_inr _) | rfl) (by first | exact i32_eq (by assumption) | exact i32_eq ⟨by omega, by omega⟩ | with_reducible exact i32_i32 _ | with_reducible exact i32_eq (b2i_inr _) | rfl) (fun h9 => ?_) (fun h9 => ?_)
  · refine A_lv [1, 2] rfl ?_
    clear ih
    rcases n with _ | n <;> simp only [fW] at hK <;> (repeat' split at hK) <;> first | contradiction | (exfalso; omega) | exact hK | (simp_all; done)
  · refine A_lload_n dX10_digest_12 rfl 1 rfl ?_
    refine A_ldc2 kc_X10_281 dX10_digest_13 ?_
    refine A_lmul dX10_digest_16 ?_
    refine A_aload_n dX10_digest_17 rfl 2 rfl ?_
    refine A_iload_n dX10_digest_18 rfl 0 rfl ?_
    refine A_Va1 mv_X10_136 lk_0 rfl rfl (c_X10_countOf _ _) (Nat.le_of_ble_eq_true rfl) (by omega) (by omega) dX10_digest_19 ?_
    refine J_i2l dX10_digest_22 (by first | exact i32_eq (by assumption) | exact i32_eq ⟨by omega, by omega⟩ | with_reducible exact i32_i32 _ | with_reducible exact i32_eq (b2i_inr _) | rfl) ?_
    refine A_ladd dX10_digest_23 ?_
    refine A_lstore_n (lv2 := [(1, _), (3, _), (0, _)]) dX10_digest_24 rfl (by decide) rfl ?_
    refine A_iinc (lv2 := [(3, _), (1, _), (0, _)]) dX10_digest_25 1 rfl (by decide) rfl ?_
    refine A_goto (tgt := 6) dX10_digest_28 (by decide) ?_
    refine A_lv [0, 1, 2] rfl ?_
    refine ih (n - 1) (by omega) (i + 1) _ (by omega) ⟨by omega, by omega⟩ (by omega) ?_
    obtain ⟨n, rfl⟩ : ∃ q, n = q + 1 := ⟨n - 1, by omega⟩
    clear ih
    rw [fW_s] at hK
    simp only [Nat.add_sub_cancel]
    simp only [dcG] at hK
    (repeat' split at hK) <;> first | contradiction | (exfalso; omega) | exact hK | (simp_all; done)
set_option maxRecDepth 100000 in
set_option maxHeartbeats 4000000 in
theorem c_X10_digest (σ : Sg)  : Ct l G yX10_digest cX10_digest 4 (some .long) 4 0 0 [.ref (lay G 0)] σ (some (.long (I64 (dcV σ)))) (σ) := by
  refine Ct.of (by decide +kernel) (Nat.le_of_ble_eq_true rfl) (fun f => ?_)
  show AW _ _ _ _ _ _ _ _ _ _ [(0, _)] _ _
  refine A_ldc2 kc_X10_279 dX10_digest_0 ?_
  refine A_lstore_n (lv2 := [(1, _), (0, _)]) dX10_digest_3 rfl (by decide) rfl ?_
  refine A_iconst dX10_digest_4 ?_
  refine A_istore_n (lv2 := [(3, _), (1, _), (0, _)]) dX10_digest_5 rfl (by decide) rfl ?_
  refine A_lv [0, 1, 2] rfl ?_
  refine w_X10_dc σ (by omega) 8 0 _ (by omega) ⟨by omega, by omega⟩ (by omega) ?_
  refine A_aload_n dX10_digest_31 rfl 1 rfl ?_
  refine A_getr fl_X10_62 lk_0 rfl dX10_digest_32 ?_
  refine A_aload_n dX10_digest_35 rfl 1 rfl ?_
  refine A_getr fl_X10_35 lk_0 rfl dX10_digest_36 ?_
  refine A_lload_n dX10_digest_39 rfl 0 rfl ?_
  refine A_Va1 mv_X10_283 lk_9 rfl rfl (c_X6_addTo _ _) (Nat.le_of_ble_eq_true rfl) (by omega) (by omega) dX10_digest_40 ?_
  refine A_Va1 mv_X10_287 lk_55 rfl rfl (c_X3_addTo _ _) (Nat.le_of_ble_eq_true rfl) (by omega) (by omega) dX10_digest_43 ?_
  exact A_lret dX10_digest_46 (by simp only [dcV]; (repeat' split) <;> first | contradiction | (exfalso; omega) | (exfalso; simp_all; done) | rfl | (simp only [I32_i32, I64_i64]; done)) (by rfl)
end S25
