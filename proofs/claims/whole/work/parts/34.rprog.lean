/-! the reference: the form of a program -/
section S34
variable {l : Launch} {G : Gx}
set_option maxRecDepth 100000 in
set_option maxHeartbeats 4000000 in
theorem w_X11_choicesForm {f : Fm} (σ : Sg) (e : Int)  (hF : FmH σ e)  : ∀ (n : Nat) (s : Pp) (r : Option Value) (σ1 : Sg), bd e s → e - s.1 < n → r = some (.int (I32 (b2i ((qL (KR σ e) (qEx (KR σ e)) n) s).1))) → σ1 = stR σ ((qL (KR σ e) (qEx (KR σ e)) n) s).2 → AW l G f (RX11, cX11_choicesForm, 1, (some .boolean)) (34, 0, 0) (QT G f 0 0 r σ1) [] 0 0 0 [(0, .ref (lay G 84))] [] (stR σ s) := by
  have hE := FmH.e hF
  have he := hF.2.2.1
  intro n
  induction n using Nat.strongRecOn with | _ n ih =>
  intro s r σ1 hs hn hr hs5
  obtain ⟨⟨hs1, hs2⟩, hs3, hs4⟩ := id hs
  obtain ⟨n, rfl⟩ : ∃ q, n = q + 1 := ⟨n - 1, by omega⟩
  
  refine A_aload_n dX11_choicesForm_0 rfl 0 rfl ?_
  refine A_Va0 mv_X11_200 lk_84 rfl rfl (c_X11_choiceForm _ _ _ hF (by repeat (first | assumption | refine (gT_T hE (by decide) _ ?_).1 | refine (gF_Tags hE _ ?_).1 | refine (gF_Part hE _ ?_).1 | refine (gF_Rule hE _ ?_).1 | refine (gF_L hE (gF_Part hE) 1501 _ ?_).1 | refine (gF_L hE (gF_Ex hE hF.2.2.1.2) 1501 _ ?_).1 | refine (gF_Ex hE hF.2.2.1.2 _ ?_).1 | refine (gF_R (gF_A (gT_T hE (by decide)).f (gT_T hE (by decide)).f) _ _ ?_).1 | (simp only [pT_f, *]; done)))) (Nat.le_of_ble_eq_true rfl) (by omega) (by omega) dX11_choicesForm_1 ?_
  try simp (disch := omega) only [nc0, nc1, nc2, nc3, nc4, nc5, nc6, nc7, nc8, nc9, nc10, nc11, nc12, nc13, nc14, nc15, nc16, nc17, nc18, nc19, nc20, nc21, isR_st, nmR_st, stR_8, stR_9, stR_86, stR_u8, stR_u9]
  refine A_ifne_b (tgt := 9) dX11_choicesForm_4 (by decide) (fun h4 => ?_) (fun h4 => ?_)
  · refine A_aload_n dX11_choicesForm_9 rfl 0 rfl ?_
    refine A_ldcs (i := 19) (by decide +kernel) dX11_choicesForm_10 ?_
    refine A_Va1 mv_X11_160 lk_84 rfl rfl (c_X11_takes _ _ _ _ hF (by repeat (first | assumption | refine (gT_T hE (by decide) _ ?_).1 | refine (gF_Tags hE _ ?_).1 | refine (gF_Part hE _ ?_).1 | refine (gF_Rule hE _ ?_).1 | refine (gF_L hE (gF_Part hE) 1501 _ ?_).1 | refine (gF_L hE (gF_Ex hE hF.2.2.1.2) 1501 _ ?_).1 | refine (gF_Ex hE hF.2.2.1.2 _ ?_).1 | refine (gF_R (gF_A (gT_T hE (by decide)).f (gT_T hE (by decide)).f) _ _ ?_).1 | (simp only [pT_f, *]; done))) (by decide)) (Nat.le_of_ble_eq_true rfl) (by omega) (by omega) dX11_choicesForm_12 ?_
    try simp (disch := omega) only [nc0, nc1, nc2, nc3, nc4, nc5, nc6, nc7, nc8, nc9, nc10, nc11, nc12, nc13, nc14, nc15, nc16, nc17, nc18, nc19, nc20, nc21, isR_st, nmR_st, stR_8, stR_9, stR_86, stR_u8, stR_u9]
    refine A_ifne_b (tgt := 0) dX11_choicesForm_15 (by decide) (fun h15 => ?_) (fun h15 => ?_)
    · refine A_lv [0] rfl ?_
      refine ih n (by omega) _ r σ1 (by repeat (first | assumption | refine (gT_T hE (by decide) _ ?_).1 | refine (gF_Tags hE _ ?_).1 | refine (gF_Part hE _ ?_).1 | refine (gF_Rule hE _ ?_).1 | refine (gF_L hE (gF_Part hE) 1501 _ ?_).1 | refine (gF_L hE (gF_Ex hE hF.2.2.1.2) 1501 _ ?_).1 | refine (gF_Ex hE hF.2.2.1.2 _ ?_).1 | refine (gF_R (gF_A (gT_T hE (by decide)).f (gT_T hE (by decide)).f) _ _ ?_).1 | (simp only [pT_f, *]; done))) ?_ (by rw [hr]; clear ih; first | (simp [qL, *]; done) | (simp_all [qL]; done)) (by rw [hs5]; clear ih; first | (simp [qL, *]; done) | (simp_all [qL]; done))
      have hq := gF_Ex hE he.2 s hs
      have h19 := gT_T (k := 19) hE (by decide) _ hq.1
      have h20 := h19.2.2 h15
      omega
    · refine A_iconst dX11_choicesForm_18 ?_
      exact A_zret2 dX11_choicesForm_19 (by decide) (by rw [hr]; clear ih; first | (simp [qL, pT_f, b2i_t, b2i_f, *]; done) | (simp_all [qL, pT_f, b2i_t, b2i_f]; done)) (by rw [hs5]; clear ih; first | (simp [qL, pT_f, *]; done) | (simp_all [qL, pT_f]; done))
  · refine A_iconst dX11_choicesForm_7 ?_
    exact A_zret2 dX11_choicesForm_8 (by decide) (by rw [hr]; clear ih; first | (simp [qL, pT_f, b2i_t, b2i_f, *]; done) | (simp_all [qL, pT_f, b2i_t, b2i_f]; done)) (by rw [hs5]; clear ih; first | (simp [qL, pT_f, *]; done) | (simp_all [qL, pT_f]; done))
set_option maxRecDepth 100000 in
set_option maxHeartbeats 4000000 in
theorem c_X11_choicesForm (σ : Sg) (s : Pp) (e : Int) (hF : FmH σ e) (hs : bd e s) : Ct l G yX11_choicesForm cX11_choicesForm 1 (some .boolean) 34 0 0 [.ref (lay G 84)] (stR σ s) (some (.int (I32 (b2i (qL (KR σ e) (qEx (KR σ e)) 1501 s).1)))) (stR σ (qL (KR σ e) (qEx (KR σ e)) 1501 s).2) := by
  have hE := FmH.e hF
  obtain ⟨⟨hs1, hs2⟩, hs3, hs4⟩ := id hs
  have he := hF.2.2.1
  refine Ct.of (by decide +kernel) (Nat.le_of_ble_eq_true rfl) (fun f => ?_)
  show AW _ _ _ _ _ _ _ _ _ _ [(0, _)] _ _
  refine A_lv [0] rfl ?_
  refine w_X11_choicesForm σ e hF 1501 s _ _ hs (by omega) rfl rfl
set_option maxRecDepth 100000 in
set_option maxHeartbeats 4000000 in
theorem c_X11_ruleForm (σ : Sg) (s : Pp) (e : Int) (hF : FmH σ e) (hs : bd e s) : Ct l G yX11_ruleForm cX11_ruleForm 1 (some .boolean) 7 0 0 [.ref (lay G 84)] (stR σ s) (some (.int (I32 (b2i (qRule (KR σ e) s).1)))) (stR σ (qRule (KR σ e) s).2) := by
  have hE := FmH.e hF
  obtain ⟨⟨hs1, hs2⟩, hs3, hs4⟩ := id hs
  have he := hF.2.2.1
  refine Ct.of (by decide +kernel) (Nat.le_of_ble_eq_true rfl) (fun f => ?_)
  show AW _ _ _ _ _ _ _ _ _ _ [(0, _)] _ _
  refine A_aload_n dX11_ruleForm_0 rfl 0 rfl ?_
  refine A_ldcs (i := 7) (by decide +kernel) dX11_ruleForm_1 ?_
  refine A_Va1 mv_X11_160 lk_84 rfl rfl (c_X11_takes _ _ _ _ hF (by repeat (first | assumption | refine (gT_T hE (by decide) _ ?_).1 | refine (gF_Tags hE _ ?_).1 | refine (gF_Part hE _ ?_).1 | refine (gF_Rule hE _ ?_).1 | refine (gF_L hE (gF_Part hE) 1501 _ ?_).1 | refine (gF_L hE (gF_Ex hE hF.2.2.1.2) 1501 _ ?_).1 | refine (gF_Ex hE hF.2.2.1.2 _ ?_).1 | refine (gF_R (gF_A (gT_T hE (by decide)).f (gT_T hE (by decide)).f) _ _ ?_).1 | (simp only [pT_f, *]; done))) (by decide)) (Nat.le_of_ble_eq_true rfl) (by omega) (by omega) dX11_ruleForm_3 ?_
  try simp (disch := omega) only [nc0, nc1, nc2, nc3, nc4, nc5, nc6, nc7, nc8, nc9, nc10, nc11, nc12, nc13, nc14, nc15, nc16, nc17, nc18, nc19, nc20, nc21, isR_st, nmR_st, stR_8, stR_9, stR_86, stR_u8, stR_u9]
  refine A_ifeq_b (tgt := 29) dX11_ruleForm_6 (by decide) (fun h6 => ?_) (fun h6 => ?_)
  · refine A_aload_n dX11_ruleForm_29 rfl 0 rfl ?_
    refine A_ldcs (i := 11) (by decide +kernel) dX11_ruleForm_30 ?_
    refine A_Va1 mv_X11_160 lk_84 rfl rfl (c_X11_takes _ _ _ _ hF (by repeat (first | assumption | refine (gT_T hE (by decide) _ ?_).1 | refine (gF_Tags hE _ ?_).1 | refine (gF_Part hE _ ?_).1 | refine (gF_Rule hE _ ?_).1 | refine (gF_L hE (gF_Part hE) 1501 _ ?_).1 | refine (gF_L hE (gF_Ex hE hF.2.2.1.2) 1501 _ ?_).1 | refine (gF_Ex hE hF.2.2.1.2 _ ?_).1 | refine (gF_R (gF_A (gT_T hE (by decide)).f (gT_T hE (by decide)).f) _ _ ?_).1 | (simp only [pT_f, *]; done))) (by decide)) (Nat.le_of_ble_eq_true rfl) (by omega) (by omega) dX11_ruleForm_32 ?_
    try simp (disch := omega) only [nc0, nc1, nc2, nc3, nc4, nc5, nc6, nc7, nc8, nc9, nc10, nc11, nc12, nc13, nc14, nc15, nc16, nc17, nc18, nc19, nc20, nc21, isR_st, nmR_st, stR_8, stR_9, stR_86, stR_u8, stR_u9]
    refine A_ifeq_b (tgt := 67) dX11_ruleForm_35 (by decide) (fun h35 => ?_) (fun h35 => ?_)
    · refine A_aload_n dX11_ruleForm_67 rfl 0 rfl ?_
      refine A_ldcs (i := 8) (by decide +kernel) dX11_ruleForm_68 ?_
      refine A_Va1 mv_X11_160 lk_84 rfl rfl (c_X11_takes _ _ _ _ hF (by repeat (first | assumption | refine (gT_T hE (by decide) _ ?_).1 | refine (gF_Tags hE _ ?_).1 | refine (gF_Part hE _ ?_).1 | refine (gF_Rule hE _ ?_).1 | refine (gF_L hE (gF_Part hE) 1501 _ ?_).1 | refine (gF_L hE (gF_Ex hE hF.2.2.1.2) 1501 _ ?_).1 | refine (gF_Ex hE hF.2.2.1.2 _ ?_).1 | refine (gF_R (gF_A (gT_T hE (by decide)).f (gT_T hE (by decide)).f) _ _ ?_).1 | (simp only [pT_f, *]; done))) (by decide)) (Nat.le_of_ble_eq_true rfl) (by omega) (by omega) dX11_ruleForm_70 ?_
      try simp (disch := omega) only [nc0, nc1, nc2, nc3, nc4, nc5, nc6, nc7, nc8, nc9, nc10, nc11, nc12, nc13, nc14, nc15, nc16, nc17, nc18, nc19, nc20, nc21, isR_st, nmR_st, stR_8, stR_9, stR_86, stR_u8, stR_u9]
      refine A_ifne_b (tgt := 85) dX11_ruleForm_73 (by decide) (fun h73 => ?_) (fun h73 => ?_)
      · refine A_aload_n dX11_ruleForm_85 rfl 0 rfl ?_
        refine A_Va0 mv_X11_166 lk_84 rfl rfl (c_X11_takesNumber _ _ _ hF (by repeat (first | assumption | refine (gT_T hE (by decide) _ ?_).1 | refine (gF_Tags hE _ ?_).1 | refine (gF_Part hE _ ?_).1 | refine (gF_Rule hE _ ?_).1 | refine (gF_L hE (gF_Part hE) 1501 _ ?_).1 | refine (gF_L hE (gF_Ex hE hF.2.2.1.2) 1501 _ ?_).1 | refine (gF_Ex hE hF.2.2.1.2 _ ?_).1 | refine (gF_R (gF_A (gT_T hE (by decide)).f (gT_T hE (by decide)).f) _ _ ?_).1 | (simp only [pT_f, *]; done)))) (Nat.le_of_ble_eq_true rfl) (by omega) (by omega) dX11_ruleForm_86 ?_
        try simp (disch := omega) only [nc0, nc1, nc2, nc3, nc4, nc5, nc6, nc7, nc8, nc9, nc10, nc11, nc12, nc13, nc14, nc15, nc16, nc17, nc18, nc19, nc20, nc21, isR_st, nmR_st, stR_8, stR_9, stR_86, stR_u8, stR_u9]
        refine A_ifeq_b (tgt := 119) dX11_ruleForm_89 (by decide) (fun h89 => ?_) (fun h89 => ?_)
        · refine A_iconst dX11_ruleForm_119 ?_
          exact A_zret2 dX11_ruleForm_120 (by decide) (by first | (simp [qRule, pA, pT_f, b2i_t, b2i_f, qSpan, *]; done) | (simp_all [qRule, pA, pT_f, b2i_t, b2i_f, qSpan]; done)) (by first | (simp [qRule, pA, pT_f, qSpan, *]; done) | (simp_all [qRule, pA, pT_f, qSpan]; done))
        · refine A_aload_n dX11_ruleForm_92 rfl 0 rfl ?_
          refine A_Va0 mv_X11_163 lk_84 rfl rfl (c_X11_takesName _ _ _ hF (by repeat (first | assumption | refine (gT_T hE (by decide) _ ?_).1 | refine (gF_Tags hE _ ?_).1 | refine (gF_Part hE _ ?_).1 | refine (gF_Rule hE _ ?_).1 | refine (gF_L hE (gF_Part hE) 1501 _ ?_).1 | refine (gF_L hE (gF_Ex hE hF.2.2.1.2) 1501 _ ?_).1 | refine (gF_Ex hE hF.2.2.1.2 _ ?_).1 | refine (gF_R (gF_A (gT_T hE (by decide)).f (gT_T hE (by decide)).f) _ _ ?_).1 | (simp only [pT_f, *]; done)))) (Nat.le_of_ble_eq_true rfl) (by omega) (by omega) dX11_ruleForm_93 ?_
          try simp (disch := omega) only [nc0, nc1, nc2, nc3, nc4, nc5, nc6, nc7, nc8, nc9, nc10, nc11, nc12, nc13, nc14, nc15, nc16, nc17, nc18, nc19, nc20, nc21, isR_st, nmR_st, stR_8, stR_9, stR_86, stR_u8, stR_u9]
          refine A_ifeq_b (tgt := 119) dX11_ruleForm_96 (by decide) (fun h96 => ?_) (fun h96 => ?_)
          · refine A_iconst dX11_ruleForm_119 ?_
            exact A_zret2 dX11_ruleForm_120 (by decide) (by first | (simp [qRule, pA, pT_f, b2i_t, b2i_f, qSpan, *]; done) | (simp_all [qRule, pA, pT_f, b2i_t, b2i_f, qSpan]; done)) (by first | (simp [qRule, pA, pT_f, qSpan, *]; done) | (simp_all [qRule, pA, pT_f, qSpan]; done))
          · refine A_aload_n dX11_ruleForm_99 rfl 0 rfl ?_
            refine A_ldcs (i := 10) (by decide +kernel) dX11_ruleForm_100 ?_
            refine A_Va1 mv_X11_160 lk_84 rfl rfl (c_X11_takes _ _ _ _ hF (by repeat (first | assumption | refine (gT_T hE (by decide) _ ?_).1 | refine (gF_Tags hE _ ?_).1 | refine (gF_Part hE _ ?_).1 | refine (gF_Rule hE _ ?_).1 | refine (gF_L hE (gF_Part hE) 1501 _ ?_).1 | refine (gF_L hE (gF_Ex hE hF.2.2.1.2) 1501 _ ?_).1 | refine (gF_Ex hE hF.2.2.1.2 _ ?_).1 | refine (gF_R (gF_A (gT_T hE (by decide)).f (gT_T hE (by decide)).f) _ _ ?_).1 | (simp only [pT_f, *]; done))) (by decide)) (Nat.le_of_ble_eq_true rfl) (by omega) (by omega) dX11_ruleForm_102 ?_
            try simp (disch := omega) only [nc0, nc1, nc2, nc3, nc4, nc5, nc6, nc7, nc8, nc9, nc10, nc11, nc12, nc13, nc14, nc15, nc16, nc17, nc18, nc19, nc20, nc21, isR_st, nmR_st, stR_8, stR_9, stR_86, stR_u8, stR_u9]
            refine A_ifeq_b (tgt := 119) dX11_ruleForm_105 (by decide) (fun h105 => ?_) (fun h105 => ?_)
            · refine A_iconst dX11_ruleForm_119 ?_
              exact A_zret2 dX11_ruleForm_120 (by decide) (by first | (simp [qRule, pA, pT_f, b2i_t, b2i_f, qSpan, *]; done) | (simp_all [qRule, pA, pT_f, b2i_t, b2i_f, qSpan]; done)) (by first | (simp [qRule, pA, pT_f, qSpan, *]; done) | (simp_all [qRule, pA, pT_f, qSpan]; done))
            · refine A_aload_n dX11_ruleForm_108 rfl 0 rfl ?_
              refine A_Va0 mv_X11_166 lk_84 rfl rfl (c_X11_takesNumber _ _ _ hF (by repeat (first | assumption | refine (gT_T hE (by decide) _ ?_).1 | refine (gF_Tags hE _ ?_).1 | refine (gF_Part hE _ ?_).1 | refine (gF_Rule hE _ ?_).1 | refine (gF_L hE (gF_Part hE) 1501 _ ?_).1 | refine (gF_L hE (gF_Ex hE hF.2.2.1.2) 1501 _ ?_).1 | refine (gF_Ex hE hF.2.2.1.2 _ ?_).1 | refine (gF_R (gF_A (gT_T hE (by decide)).f (gT_T hE (by decide)).f) _ _ ?_).1 | (simp only [pT_f, *]; done)))) (Nat.le_of_ble_eq_true rfl) (by omega) (by omega) dX11_ruleForm_109 ?_
              try simp (disch := omega) only [nc0, nc1, nc2, nc3, nc4, nc5, nc6, nc7, nc8, nc9, nc10, nc11, nc12, nc13, nc14, nc15, nc16, nc17, nc18, nc19, nc20, nc21, isR_st, nmR_st, stR_8, stR_9, stR_86, stR_u8, stR_u9]
              refine A_ifeq_b (tgt := 119) dX11_ruleForm_112 (by decide) (fun h112 => ?_) (fun h112 => ?_)
              · refine A_iconst dX11_ruleForm_119 ?_
                exact A_zret2 dX11_ruleForm_120 (by decide) (by first | (simp [qRule, pA, pT_f, b2i_t, b2i_f, qSpan, *]; done) | (simp_all [qRule, pA, pT_f, b2i_t, b2i_f, qSpan]; done)) (by first | (simp [qRule, pA, pT_f, qSpan, *]; done) | (simp_all [qRule, pA, pT_f, qSpan]; done))
              · refine A_iconst dX11_ruleForm_115 ?_
                refine A_goto (tgt := 120) dX11_ruleForm_116 (by decide) ?_
                exact A_zret2 dX11_ruleForm_120 (by decide) (by first | (simp [qRule, pA, pT_f, b2i_t, b2i_f, qSpan, *]; done) | (simp_all [qRule, pA, pT_f, b2i_t, b2i_f, qSpan]; done)) (by first | (simp [qRule, pA, pT_f, qSpan, *]; done) | (simp_all [qRule, pA, pT_f, qSpan]; done))
      · refine A_aload_n dX11_ruleForm_76 rfl 0 rfl ?_
        refine A_ldcs (i := 9) (by decide +kernel) dX11_ruleForm_77 ?_
        refine A_Va1 mv_X11_160 lk_84 rfl rfl (c_X11_takes _ _ _ _ hF (by repeat (first | assumption | refine (gT_T hE (by decide) _ ?_).1 | refine (gF_Tags hE _ ?_).1 | refine (gF_Part hE _ ?_).1 | refine (gF_Rule hE _ ?_).1 | refine (gF_L hE (gF_Part hE) 1501 _ ?_).1 | refine (gF_L hE (gF_Ex hE hF.2.2.1.2) 1501 _ ?_).1 | refine (gF_Ex hE hF.2.2.1.2 _ ?_).1 | refine (gF_R (gF_A (gT_T hE (by decide)).f (gT_T hE (by decide)).f) _ _ ?_).1 | (simp only [pT_f, *]; done))) (by decide)) (Nat.le_of_ble_eq_true rfl) (by omega) (by omega) dX11_ruleForm_79 ?_
        try simp (disch := omega) only [nc0, nc1, nc2, nc3, nc4, nc5, nc6, nc7, nc8, nc9, nc10, nc11, nc12, nc13, nc14, nc15, nc16, nc17, nc18, nc19, nc20, nc21, isR_st, nmR_st, stR_8, stR_9, stR_86, stR_u8, stR_u9]
        refine A_ifeq_b (tgt := 119) dX11_ruleForm_82 (by decide) (fun h82 => ?_) (fun h82 => ?_)
        · refine A_iconst dX11_ruleForm_119 ?_
          exact A_zret2 dX11_ruleForm_120 (by decide) (by first | (simp [qRule, pA, pT_f, b2i_t, b2i_f, qSpan, *]; done) | (simp_all [qRule, pA, pT_f, b2i_t, b2i_f, qSpan]; done)) (by first | (simp [qRule, pA, pT_f, qSpan, *]; done) | (simp_all [qRule, pA, pT_f, qSpan]; done))
        · refine A_aload_n dX11_ruleForm_85 rfl 0 rfl ?_
          refine A_Va0 mv_X11_166 lk_84 rfl rfl (c_X11_takesNumber _ _ _ hF (by repeat (first | assumption | refine (gT_T hE (by decide) _ ?_).1 | refine (gF_Tags hE _ ?_).1 | refine (gF_Part hE _ ?_).1 | refine (gF_Rule hE _ ?_).1 | refine (gF_L hE (gF_Part hE) 1501 _ ?_).1 | refine (gF_L hE (gF_Ex hE hF.2.2.1.2) 1501 _ ?_).1 | refine (gF_Ex hE hF.2.2.1.2 _ ?_).1 | refine (gF_R (gF_A (gT_T hE (by decide)).f (gT_T hE (by decide)).f) _ _ ?_).1 | (simp only [pT_f, *]; done)))) (Nat.le_of_ble_eq_true rfl) (by omega) (by omega) dX11_ruleForm_86 ?_
          try simp (disch := omega) only [nc0, nc1, nc2, nc3, nc4, nc5, nc6, nc7, nc8, nc9, nc10, nc11, nc12, nc13, nc14, nc15, nc16, nc17, nc18, nc19, nc20, nc21, isR_st, nmR_st, stR_8, stR_9, stR_86, stR_u8, stR_u9]
          refine A_ifeq_b (tgt := 119) dX11_ruleForm_89 (by decide) (fun h89 => ?_) (fun h89 => ?_)
          · refine A_iconst dX11_ruleForm_119 ?_
            exact A_zret2 dX11_ruleForm_120 (by decide) (by first | (simp [qRule, pA, pT_f, b2i_t, b2i_f, qSpan, *]; done) | (simp_all [qRule, pA, pT_f, b2i_t, b2i_f, qSpan]; done)) (by first | (simp [qRule, pA, pT_f, qSpan, *]; done) | (simp_all [qRule, pA, pT_f, qSpan]; done))
          · refine A_aload_n dX11_ruleForm_92 rfl 0 rfl ?_
            refine A_Va0 mv_X11_163 lk_84 rfl rfl (c_X11_takesName _ _ _ hF (by repeat (first | assumption | refine (gT_T hE (by decide) _ ?_).1 | refine (gF_Tags hE _ ?_).1 | refine (gF_Part hE _ ?_).1 | refine (gF_Rule hE _ ?_).1 | refine (gF_L hE (gF_Part hE) 1501 _ ?_).1 | refine (gF_L hE (gF_Ex hE hF.2.2.1.2) 1501 _ ?_).1 | refine (gF_Ex hE hF.2.2.1.2 _ ?_).1 | refine (gF_R (gF_A (gT_T hE (by decide)).f (gT_T hE (by decide)).f) _ _ ?_).1 | (simp only [pT_f, *]; done)))) (Nat.le_of_ble_eq_true rfl) (by omega) (by omega) dX11_ruleForm_93 ?_
            try simp (disch := omega) only [nc0, nc1, nc2, nc3, nc4, nc5, nc6, nc7, nc8, nc9, nc10, nc11, nc12, nc13, nc14, nc15, nc16, nc17, nc18, nc19, nc20, nc21, isR_st, nmR_st, stR_8, stR_9, stR_86, stR_u8, stR_u9]
            refine A_ifeq_b (tgt := 119) dX11_ruleForm_96 (by decide) (fun h96 => ?_) (fun h96 => ?_)
            · refine A_iconst dX11_ruleForm_119 ?_
              exact A_zret2 dX11_ruleForm_120 (by decide) (by first | (simp [qRule, pA, pT_f, b2i_t, b2i_f, qSpan, *]; done) | (simp_all [qRule, pA, pT_f, b2i_t, b2i_f, qSpan]; done)) (by first | (simp [qRule, pA, pT_f, qSpan, *]; done) | (simp_all [qRule, pA, pT_f, qSpan]; done))
            · refine A_aload_n dX11_ruleForm_99 rfl 0 rfl ?_
              refine A_ldcs (i := 10) (by decide +kernel) dX11_ruleForm_100 ?_
              refine A_Va1 mv_X11_160 lk_84 rfl rfl (c_X11_takes _ _ _ _ hF (by repeat (first | assumption | refine (gT_T hE (by decide) _ ?_).1 | refine (gF_Tags hE _ ?_).1 | refine (gF_Part hE _ ?_).1 | refine (gF_Rule hE _ ?_).1 | refine (gF_L hE (gF_Part hE) 1501 _ ?_).1 | refine (gF_L hE (gF_Ex hE hF.2.2.1.2) 1501 _ ?_).1 | refine (gF_Ex hE hF.2.2.1.2 _ ?_).1 | refine (gF_R (gF_A (gT_T hE (by decide)).f (gT_T hE (by decide)).f) _ _ ?_).1 | (simp only [pT_f, *]; done))) (by decide)) (Nat.le_of_ble_eq_true rfl) (by omega) (by omega) dX11_ruleForm_102 ?_
              try simp (disch := omega) only [nc0, nc1, nc2, nc3, nc4, nc5, nc6, nc7, nc8, nc9, nc10, nc11, nc12, nc13, nc14, nc15, nc16, nc17, nc18, nc19, nc20, nc21, isR_st, nmR_st, stR_8, stR_9, stR_86, stR_u8, stR_u9]
              refine A_ifeq_b (tgt := 119) dX11_ruleForm_105 (by decide) (fun h105 => ?_) (fun h105 => ?_)
              · refine A_iconst dX11_ruleForm_119 ?_
                exact A_zret2 dX11_ruleForm_120 (by decide) (by first | (simp [qRule, pA, pT_f, b2i_t, b2i_f, qSpan, *]; done) | (simp_all [qRule, pA, pT_f, b2i_t, b2i_f, qSpan]; done)) (by first | (simp [qRule, pA, pT_f, qSpan, *]; done) | (simp_all [qRule, pA, pT_f, qSpan]; done))
              · refine A_aload_n dX11_ruleForm_108 rfl 0 rfl ?_
                refine A_Va0 mv_X11_166 lk_84 rfl rfl (c_X11_takesNumber _ _ _ hF (by repeat (first | assumption | refine (gT_T hE (by decide) _ ?_).1 | refine (gF_Tags hE _ ?_).1 | refine (gF_Part hE _ ?_).1 | refine (gF_Rule hE _ ?_).1 | refine (gF_L hE (gF_Part hE) 1501 _ ?_).1 | refine (gF_L hE (gF_Ex hE hF.2.2.1.2) 1501 _ ?_).1 | refine (gF_Ex hE hF.2.2.1.2 _ ?_).1 | refine (gF_R (gF_A (gT_T hE (by decide)).f (gT_T hE (by decide)).f) _ _ ?_).1 | (simp only [pT_f, *]; done)))) (Nat.le_of_ble_eq_true rfl) (by omega) (by omega) dX11_ruleForm_109 ?_
                try simp (disch := omega) only [nc0, nc1, nc2, nc3, nc4, nc5, nc6, nc7, nc8, nc9, nc10, nc11, nc12, nc13, nc14, nc15, nc16, nc17, nc18, nc19, nc20, nc21, isR_st, nmR_st, stR_8, stR_9, stR_86, stR_u8, stR_u9]
                refine A_ifeq_b (tgt := 119) dX11_ruleForm_112 (by decide) (fun h112 => ?_) (fun h112 => ?_)
                · refine A_iconst dX11_ruleForm_119 ?_
                  exact A_zret2 dX11_ruleForm_120 (by decide) (by first | (simp [qRule, pA, pT_f, b2i_t, b2i_f, qSpan, *]; done) | (simp_all [qRule, pA, pT_f, b2i_t, b2i_f, qSpan]; done)) (by first | (simp [qRule, pA, pT_f, qSpan, *]; done) | (simp_all [qRule, pA, pT_f, qSpan]; done))
                · refine A_iconst dX11_ruleForm_115 ?_
                  refine A_goto (tgt := 120) dX11_ruleForm_116 (by decide) ?_
                  exact A_zret2 dX11_ruleForm_120 (by decide) (by first | (simp [qRule, pA, pT_f, b2i_t, b2i_f, qSpan, *]; done) | (simp_all [qRule, pA, pT_f, b2i_t, b2i_f, qSpan]; done)) (by first | (simp [qRule, pA, pT_f, qSpan, *]; done) | (simp_all [qRule, pA, pT_f, qSpan]; done))
    · refine A_aload_n dX11_ruleForm_38 rfl 0 rfl ?_
      refine A_Va0 mv_X11_166 lk_84 rfl rfl (c_X11_takesNumber _ _ _ hF (by repeat (first | assumption | refine (gT_T hE (by decide) _ ?_).1 | refine (gF_Tags hE _ ?_).1 | refine (gF_Part hE _ ?_).1 | refine (gF_Rule hE _ ?_).1 | refine (gF_L hE (gF_Part hE) 1501 _ ?_).1 | refine (gF_L hE (gF_Ex hE hF.2.2.1.2) 1501 _ ?_).1 | refine (gF_Ex hE hF.2.2.1.2 _ ?_).1 | refine (gF_R (gF_A (gT_T hE (by decide)).f (gT_T hE (by decide)).f) _ _ ?_).1 | (simp only [pT_f, *]; done)))) (Nat.le_of_ble_eq_true rfl) (by omega) (by omega) dX11_ruleForm_39 ?_
      try simp (disch := omega) only [nc0, nc1, nc2, nc3, nc4, nc5, nc6, nc7, nc8, nc9, nc10, nc11, nc12, nc13, nc14, nc15, nc16, nc17, nc18, nc19, nc20, nc21, isR_st, nmR_st, stR_8, stR_9, stR_86, stR_u8, stR_u9]
      refine A_ifeq_b (tgt := 65) dX11_ruleForm_42 (by decide) (fun h42 => ?_) (fun h42 => ?_)
      · refine A_iconst dX11_ruleForm_65 ?_
        exact A_zret2 dX11_ruleForm_66 (by decide) (by first | (simp [qRule, pA, pT_f, b2i_t, b2i_f, qSpan, *]; done) | (simp_all [qRule, pA, pT_f, b2i_t, b2i_f, qSpan]; done)) (by first | (simp [qRule, pA, pT_f, qSpan, *]; done) | (simp_all [qRule, pA, pT_f, qSpan]; done))
      · refine A_aload_n dX11_ruleForm_45 rfl 0 rfl ?_
        refine A_ldcs (i := 12) (by decide +kernel) dX11_ruleForm_46 ?_
        refine A_Va1 mv_X11_160 lk_84 rfl rfl (c_X11_takes _ _ _ _ hF (by repeat (first | assumption | refine (gT_T hE (by decide) _ ?_).1 | refine (gF_Tags hE _ ?_).1 | refine (gF_Part hE _ ?_).1 | refine (gF_Rule hE _ ?_).1 | refine (gF_L hE (gF_Part hE) 1501 _ ?_).1 | refine (gF_L hE (gF_Ex hE hF.2.2.1.2) 1501 _ ?_).1 | refine (gF_Ex hE hF.2.2.1.2 _ ?_).1 | refine (gF_R (gF_A (gT_T hE (by decide)).f (gT_T hE (by decide)).f) _ _ ?_).1 | (simp only [pT_f, *]; done))) (by decide)) (Nat.le_of_ble_eq_true rfl) (by omega) (by omega) dX11_ruleForm_48 ?_
        try simp (disch := omega) only [nc0, nc1, nc2, nc3, nc4, nc5, nc6, nc7, nc8, nc9, nc10, nc11, nc12, nc13, nc14, nc15, nc16, nc17, nc18, nc19, nc20, nc21, isR_st, nmR_st, stR_8, stR_9, stR_86, stR_u8, stR_u9]
        refine A_ifeq_b (tgt := 65) dX11_ruleForm_51 (by decide) (fun h51 => ?_) (fun h51 => ?_)
        · refine A_iconst dX11_ruleForm_65 ?_
          exact A_zret2 dX11_ruleForm_66 (by decide) (by first | (simp [qRule, pA, pT_f, b2i_t, b2i_f, qSpan, *]; done) | (simp_all [qRule, pA, pT_f, b2i_t, b2i_f, qSpan]; done)) (by first | (simp [qRule, pA, pT_f, qSpan, *]; done) | (simp_all [qRule, pA, pT_f, qSpan]; done))
        · refine A_aload_n dX11_ruleForm_54 rfl 0 rfl ?_
          refine A_Va0 mv_X11_166 lk_84 rfl rfl (c_X11_takesNumber _ _ _ hF (by repeat (first | assumption | refine (gT_T hE (by decide) _ ?_).1 | refine (gF_Tags hE _ ?_).1 | refine (gF_Part hE _ ?_).1 | refine (gF_Rule hE _ ?_).1 | refine (gF_L hE (gF_Part hE) 1501 _ ?_).1 | refine (gF_L hE (gF_Ex hE hF.2.2.1.2) 1501 _ ?_).1 | refine (gF_Ex hE hF.2.2.1.2 _ ?_).1 | refine (gF_R (gF_A (gT_T hE (by decide)).f (gT_T hE (by decide)).f) _ _ ?_).1 | (simp only [pT_f, *]; done)))) (Nat.le_of_ble_eq_true rfl) (by omega) (by omega) dX11_ruleForm_55 ?_
          try simp (disch := omega) only [nc0, nc1, nc2, nc3, nc4, nc5, nc6, nc7, nc8, nc9, nc10, nc11, nc12, nc13, nc14, nc15, nc16, nc17, nc18, nc19, nc20, nc21, isR_st, nmR_st, stR_8, stR_9, stR_86, stR_u8, stR_u9]
          refine A_ifeq_b (tgt := 65) dX11_ruleForm_58 (by decide) (fun h58 => ?_) (fun h58 => ?_)
          · refine A_iconst dX11_ruleForm_65 ?_
            exact A_zret2 dX11_ruleForm_66 (by decide) (by first | (simp [qRule, pA, pT_f, b2i_t, b2i_f, qSpan, *]; done) | (simp_all [qRule, pA, pT_f, b2i_t, b2i_f, qSpan]; done)) (by first | (simp [qRule, pA, pT_f, qSpan, *]; done) | (simp_all [qRule, pA, pT_f, qSpan]; done))
          · refine A_iconst dX11_ruleForm_61 ?_
            refine A_goto (tgt := 66) dX11_ruleForm_62 (by decide) ?_
            exact A_zret2 dX11_ruleForm_66 (by decide) (by first | (simp [qRule, pA, pT_f, b2i_t, b2i_f, qSpan, *]; done) | (simp_all [qRule, pA, pT_f, b2i_t, b2i_f, qSpan]; done)) (by first | (simp [qRule, pA, pT_f, qSpan, *]; done) | (simp_all [qRule, pA, pT_f, qSpan]; done))
  · refine A_aload_n dX11_ruleForm_9 rfl 0 rfl ?_
    refine A_Va0 mv_X11_166 lk_84 rfl rfl (c_X11_takesNumber _ _ _ hF (by repeat (first | assumption | refine (gT_T hE (by decide) _ ?_).1 | refine (gF_Tags hE _ ?_).1 | refine (gF_Part hE _ ?_).1 | refine (gF_Rule hE _ ?_).1 | refine (gF_L hE (gF_Part hE) 1501 _ ?_).1 | refine (gF_L hE (gF_Ex hE hF.2.2.1.2) 1501 _ ?_).1 | refine (gF_Ex hE hF.2.2.1.2 _ ?_).1 | refine (gF_R (gF_A (gT_T hE (by decide)).f (gT_T hE (by decide)).f) _ _ ?_).1 | (simp only [pT_f, *]; done)))) (Nat.le_of_ble_eq_true rfl) (by omega) (by omega) dX11_ruleForm_10 ?_
    try simp (disch := omega) only [nc0, nc1, nc2, nc3, nc4, nc5, nc6, nc7, nc8, nc9, nc10, nc11, nc12, nc13, nc14, nc15, nc16, nc17, nc18, nc19, nc20, nc21, isR_st, nmR_st, stR_8, stR_9, stR_86, stR_u8, stR_u9]
    refine A_ifeq_b (tgt := 27) dX11_ruleForm_13 (by decide) (fun h13 => ?_) (fun h13 => ?_)
    · refine A_iconst dX11_ruleForm_27 ?_
      exact A_zret2 dX11_ruleForm_28 (by decide) (by first | (simp [qRule, pA, pT_f, b2i_t, b2i_f, qSpan, *]; done) | (simp_all [qRule, pA, pT_f, b2i_t, b2i_f, qSpan]; done)) (by first | (simp [qRule, pA, pT_f, qSpan, *]; done) | (simp_all [qRule, pA, pT_f, qSpan]; done))
    · refine A_aload_n dX11_ruleForm_16 rfl 0 rfl ?_
      refine A_Va0 mv_X11_163 lk_84 rfl rfl (c_X11_takesName _ _ _ hF (by repeat (first | assumption | refine (gT_T hE (by decide) _ ?_).1 | refine (gF_Tags hE _ ?_).1 | refine (gF_Part hE _ ?_).1 | refine (gF_Rule hE _ ?_).1 | refine (gF_L hE (gF_Part hE) 1501 _ ?_).1 | refine (gF_L hE (gF_Ex hE hF.2.2.1.2) 1501 _ ?_).1 | refine (gF_Ex hE hF.2.2.1.2 _ ?_).1 | refine (gF_R (gF_A (gT_T hE (by decide)).f (gT_T hE (by decide)).f) _ _ ?_).1 | (simp only [pT_f, *]; done)))) (Nat.le_of_ble_eq_true rfl) (by omega) (by omega) dX11_ruleForm_17 ?_
      try simp (disch := omega) only [nc0, nc1, nc2, nc3, nc4, nc5, nc6, nc7, nc8, nc9, nc10, nc11, nc12, nc13, nc14, nc15, nc16, nc17, nc18, nc19, nc20, nc21, isR_st, nmR_st, stR_8, stR_9, stR_86, stR_u8, stR_u9]
      refine A_ifeq_b (tgt := 27) dX11_ruleForm_20 (by decide) (fun h20 => ?_) (fun h20 => ?_)
      · refine A_iconst dX11_ruleForm_27 ?_
        exact A_zret2 dX11_ruleForm_28 (by decide) (by first | (simp [qRule, pA, pT_f, b2i_t, b2i_f, qSpan, *]; done) | (simp_all [qRule, pA, pT_f, b2i_t, b2i_f, qSpan]; done)) (by first | (simp [qRule, pA, pT_f, qSpan, *]; done) | (simp_all [qRule, pA, pT_f, qSpan]; done))
      · refine A_iconst dX11_ruleForm_23 ?_
        refine A_goto (tgt := 28) dX11_ruleForm_24 (by decide) ?_
        exact A_zret2 dX11_ruleForm_28 (by decide) (by first | (simp [qRule, pA, pT_f, b2i_t, b2i_f, qSpan, *]; done) | (simp_all [qRule, pA, pT_f, b2i_t, b2i_f, qSpan]; done)) (by first | (simp [qRule, pA, pT_f, qSpan, *]; done) | (simp_all [qRule, pA, pT_f, qSpan]; done))
set_option maxRecDepth 100000 in
set_option maxHeartbeats 4000000 in
theorem c_X11_item (σ : Sg) (s : Pp) (e : Int) (hF : FmH σ e) (hs : bd e s) : Ct l G yX11_item cX11_item 1 (some .boolean) 35 0 0 [.ref (lay G 84)] (stR σ s) (some (.int (I32 (b2i (qItem (KR σ e) s).1)))) (stR σ (qItem (KR σ e) s).2) := by
  have hE := FmH.e hF
  obtain ⟨⟨hs1, hs2⟩, hs3, hs4⟩ := id hs
  have he := hF.2.2.1
  refine Ct.of (by decide +kernel) (Nat.le_of_ble_eq_true rfl) (fun f => ?_)
  show AW _ _ _ _ _ _ _ _ _ _ [(0, _)] _ _
  refine A_aload_n dX11_item_0 rfl 0 rfl ?_
  refine A_ldcs (i := 0) (by decide +kernel) dX11_item_1 ?_
  refine A_Va1 mv_X11_160 lk_84 rfl rfl (c_X11_takes _ _ _ _ hF (by repeat (first | assumption | refine (gT_T hE (by decide) _ ?_).1 | refine (gF_Tags hE _ ?_).1 | refine (gF_Part hE _ ?_).1 | refine (gF_Rule hE _ ?_).1 | refine (gF_L hE (gF_Part hE) 1501 _ ?_).1 | refine (gF_L hE (gF_Ex hE hF.2.2.1.2) 1501 _ ?_).1 | refine (gF_Ex hE hF.2.2.1.2 _ ?_).1 | refine (gF_R (gF_A (gT_T hE (by decide)).f (gT_T hE (by decide)).f) _ _ ?_).1 | (simp only [pT_f, *]; done))) (by decide)) (Nat.le_of_ble_eq_true rfl) (by omega) (by omega) dX11_item_3 ?_
  try simp (disch := omega) only [nc0, nc1, nc2, nc3, nc4, nc5, nc6, nc7, nc8, nc9, nc10, nc11, nc12, nc13, nc14, nc15, nc16, nc17, nc18, nc19, nc20, nc21, isR_st, nmR_st, stR_8, stR_9, stR_86, stR_u8, stR_u9]
  refine A_ifeq_b (tgt := 61) dX11_item_6 (by decide) (fun h6 => ?_) (fun h6 => ?_)
  · refine A_aload_n dX11_item_61 rfl 0 rfl ?_
    refine A_ldcs (i := 1) (by decide +kernel) dX11_item_62 ?_
    refine A_Va1 mv_X11_160 lk_84 rfl rfl (c_X11_takes _ _ _ _ hF (by repeat (first | assumption | refine (gT_T hE (by decide) _ ?_).1 | refine (gF_Tags hE _ ?_).1 | refine (gF_Part hE _ ?_).1 | refine (gF_Rule hE _ ?_).1 | refine (gF_L hE (gF_Part hE) 1501 _ ?_).1 | refine (gF_L hE (gF_Ex hE hF.2.2.1.2) 1501 _ ?_).1 | refine (gF_Ex hE hF.2.2.1.2 _ ?_).1 | refine (gF_R (gF_A (gT_T hE (by decide)).f (gT_T hE (by decide)).f) _ _ ?_).1 | (simp only [pT_f, *]; done))) (by decide)) (Nat.le_of_ble_eq_true rfl) (by omega) (by omega) dX11_item_64 ?_
    try simp (disch := omega) only [nc0, nc1, nc2, nc3, nc4, nc5, nc6, nc7, nc8, nc9, nc10, nc11, nc12, nc13, nc14, nc15, nc16, nc17, nc18, nc19, nc20, nc21, isR_st, nmR_st, stR_8, stR_9, stR_86, stR_u8, stR_u9]
    refine A_ifeq_b (tgt := 131) dX11_item_67 (by decide) (fun h67 => ?_) (fun h67 => ?_)
    · refine A_aload_n dX11_item_131 rfl 0 rfl ?_
      refine A_ldcs (i := 5) (by decide +kernel) dX11_item_132 ?_
      refine A_Va1 mv_X11_160 lk_84 rfl rfl (c_X11_takes _ _ _ _ hF (by repeat (first | assumption | refine (gT_T hE (by decide) _ ?_).1 | refine (gF_Tags hE _ ?_).1 | refine (gF_Part hE _ ?_).1 | refine (gF_Rule hE _ ?_).1 | refine (gF_L hE (gF_Part hE) 1501 _ ?_).1 | refine (gF_L hE (gF_Ex hE hF.2.2.1.2) 1501 _ ?_).1 | refine (gF_Ex hE hF.2.2.1.2 _ ?_).1 | refine (gF_R (gF_A (gT_T hE (by decide)).f (gT_T hE (by decide)).f) _ _ ?_).1 | (simp only [pT_f, *]; done))) (by decide)) (Nat.le_of_ble_eq_true rfl) (by omega) (by omega) dX11_item_134 ?_
      try simp (disch := omega) only [nc0, nc1, nc2, nc3, nc4, nc5, nc6, nc7, nc8, nc9, nc10, nc11, nc12, nc13, nc14, nc15, nc16, nc17, nc18, nc19, nc20, nc21, isR_st, nmR_st, stR_8, stR_9, stR_86, stR_u8, stR_u9]
      refine A_ifeq_b (tgt := 178) dX11_item_137 (by decide) (fun h137 => ?_) (fun h137 => ?_)
      · refine A_aload_n dX11_item_178 rfl 0 rfl ?_
        refine A_ldcs (i := 6) (by decide +kernel) dX11_item_179 ?_
        refine A_Va1 mv_X11_160 lk_84 rfl rfl (c_X11_takes _ _ _ _ hF (by repeat (first | assumption | refine (gT_T hE (by decide) _ ?_).1 | refine (gF_Tags hE _ ?_).1 | refine (gF_Part hE _ ?_).1 | refine (gF_Rule hE _ ?_).1 | refine (gF_L hE (gF_Part hE) 1501 _ ?_).1 | refine (gF_L hE (gF_Ex hE hF.2.2.1.2) 1501 _ ?_).1 | refine (gF_Ex hE hF.2.2.1.2 _ ?_).1 | refine (gF_R (gF_A (gT_T hE (by decide)).f (gT_T hE (by decide)).f) _ _ ?_).1 | (simp only [pT_f, *]; done))) (by decide)) (Nat.le_of_ble_eq_true rfl) (by omega) (by omega) dX11_item_181 ?_
        try simp (disch := omega) only [nc0, nc1, nc2, nc3, nc4, nc5, nc6, nc7, nc8, nc9, nc10, nc11, nc12, nc13, nc14, nc15, nc16, nc17, nc18, nc19, nc20, nc21, isR_st, nmR_st, stR_8, stR_9, stR_86, stR_u8, stR_u9]
        refine A_ifeq_b (tgt := 207) dX11_item_184 (by decide) (fun h184 => ?_) (fun h184 => ?_)
        · refine A_iconst dX11_item_207 ?_
          exact A_zret2 dX11_item_208 (by decide) (by first | (simp [qItem, qFood, qDish, qMeal, qPrice, pA, b2i_t, b2i_f, pT_f, *]; done) | (simp_all [qItem, qFood, qDish, qMeal, qPrice, pA, b2i_t, b2i_f, pT_f]; done)) (by first | (simp [qItem, qFood, qDish, qMeal, qPrice, pA, pT_f, *]; done) | (simp_all [qItem, qFood, qDish, qMeal, qPrice, pA, pT_f]; done))
        · refine A_aload_n dX11_item_187 rfl 0 rfl ?_
          refine A_Va0 mv_X11_192 lk_84 rfl rfl (c_X11_ruleForm _ _ _ hF (by repeat (first | assumption | refine (gT_T hE (by decide) _ ?_).1 | refine (gF_Tags hE _ ?_).1 | refine (gF_Part hE _ ?_).1 | refine (gF_Rule hE _ ?_).1 | refine (gF_L hE (gF_Part hE) 1501 _ ?_).1 | refine (gF_L hE (gF_Ex hE hF.2.2.1.2) 1501 _ ?_).1 | refine (gF_Ex hE hF.2.2.1.2 _ ?_).1 | refine (gF_R (gF_A (gT_T hE (by decide)).f (gT_T hE (by decide)).f) _ _ ?_).1 | (simp only [pT_f, *]; done)))) (Nat.le_of_ble_eq_true rfl) (by omega) (by omega) dX11_item_188 ?_
          try simp (disch := omega) only [nc0, nc1, nc2, nc3, nc4, nc5, nc6, nc7, nc8, nc9, nc10, nc11, nc12, nc13, nc14, nc15, nc16, nc17, nc18, nc19, nc20, nc21, isR_st, nmR_st, stR_8, stR_9, stR_86, stR_u8, stR_u9]
          refine A_ifeq_b (tgt := 207) dX11_item_191 (by decide) (fun h191 => ?_) (fun h191 => ?_)
          · refine A_iconst dX11_item_207 ?_
            exact A_zret2 dX11_item_208 (by decide) (by first | (simp [qItem, qFood, qDish, qMeal, qPrice, pA, b2i_t, b2i_f, pT_f, *]; done) | (simp_all [qItem, qFood, qDish, qMeal, qPrice, pA, b2i_t, b2i_f, pT_f]; done)) (by first | (simp [qItem, qFood, qDish, qMeal, qPrice, pA, pT_f, *]; done) | (simp_all [qItem, qFood, qDish, qMeal, qPrice, pA, pT_f]; done))
          · refine A_aload_n dX11_item_194 rfl 0 rfl ?_
            refine A_ldcs (i := 17) (by decide +kernel) dX11_item_195 ?_
            refine A_Va1 mv_X11_160 lk_84 rfl rfl (c_X11_takes _ _ _ _ hF (by repeat (first | assumption | refine (gT_T hE (by decide) _ ?_).1 | refine (gF_Tags hE _ ?_).1 | refine (gF_Part hE _ ?_).1 | refine (gF_Rule hE _ ?_).1 | refine (gF_L hE (gF_Part hE) 1501 _ ?_).1 | refine (gF_L hE (gF_Ex hE hF.2.2.1.2) 1501 _ ?_).1 | refine (gF_Ex hE hF.2.2.1.2 _ ?_).1 | refine (gF_R (gF_A (gT_T hE (by decide)).f (gT_T hE (by decide)).f) _ _ ?_).1 | (simp only [pT_f, *]; done))) (by decide)) (Nat.le_of_ble_eq_true rfl) (by omega) (by omega) dX11_item_197 ?_
            try simp (disch := omega) only [nc0, nc1, nc2, nc3, nc4, nc5, nc6, nc7, nc8, nc9, nc10, nc11, nc12, nc13, nc14, nc15, nc16, nc17, nc18, nc19, nc20, nc21, isR_st, nmR_st, stR_8, stR_9, stR_86, stR_u8, stR_u9]
            refine A_ifeq_b (tgt := 207) dX11_item_200 (by decide) (fun h200 => ?_) (fun h200 => ?_)
            · refine A_iconst dX11_item_207 ?_
              exact A_zret2 dX11_item_208 (by decide) (by first | (simp [qItem, qFood, qDish, qMeal, qPrice, pA, b2i_t, b2i_f, pT_f, *]; done) | (simp_all [qItem, qFood, qDish, qMeal, qPrice, pA, b2i_t, b2i_f, pT_f]; done)) (by first | (simp [qItem, qFood, qDish, qMeal, qPrice, pA, pT_f, *]; done) | (simp_all [qItem, qFood, qDish, qMeal, qPrice, pA, pT_f]; done))
            · refine A_iconst dX11_item_203 ?_
              refine A_goto (tgt := 208) dX11_item_204 (by decide) ?_
              exact A_zret2 dX11_item_208 (by decide) (by first | (simp [qItem, qFood, qDish, qMeal, qPrice, pA, b2i_t, b2i_f, pT_f, *]; done) | (simp_all [qItem, qFood, qDish, qMeal, qPrice, pA, b2i_t, b2i_f, pT_f]; done)) (by first | (simp [qItem, qFood, qDish, qMeal, qPrice, pA, pT_f, *]; done) | (simp_all [qItem, qFood, qDish, qMeal, qPrice, pA, pT_f]; done))
      · refine A_aload_n dX11_item_140 rfl 0 rfl ?_
        refine A_Va0 mv_X11_163 lk_84 rfl rfl (c_X11_takesName _ _ _ hF (by repeat (first | assumption | refine (gT_T hE (by decide) _ ?_).1 | refine (gF_Tags hE _ ?_).1 | refine (gF_Part hE _ ?_).1 | refine (gF_Rule hE _ ?_).1 | refine (gF_L hE (gF_Part hE) 1501 _ ?_).1 | refine (gF_L hE (gF_Ex hE hF.2.2.1.2) 1501 _ ?_).1 | refine (gF_Ex hE hF.2.2.1.2 _ ?_).1 | refine (gF_R (gF_A (gT_T hE (by decide)).f (gT_T hE (by decide)).f) _ _ ?_).1 | (simp only [pT_f, *]; done)))) (Nat.le_of_ble_eq_true rfl) (by omega) (by omega) dX11_item_141 ?_
        try simp (disch := omega) only [nc0, nc1, nc2, nc3, nc4, nc5, nc6, nc7, nc8, nc9, nc10, nc11, nc12, nc13, nc14, nc15, nc16, nc17, nc18, nc19, nc20, nc21, isR_st, nmR_st, stR_8, stR_9, stR_86, stR_u8, stR_u9]
        refine A_ifeq_b (tgt := 176) dX11_item_144 (by decide) (fun h144 => ?_) (fun h144 => ?_)
        · refine A_iconst dX11_item_176 ?_
          exact A_zret2 dX11_item_177 (by decide) (by first | (simp [qItem, qFood, qDish, qMeal, qPrice, pA, b2i_t, b2i_f, pT_f, *]; done) | (simp_all [qItem, qFood, qDish, qMeal, qPrice, pA, b2i_t, b2i_f, pT_f]; done)) (by first | (simp [qItem, qFood, qDish, qMeal, qPrice, pA, pT_f, *]; done) | (simp_all [qItem, qFood, qDish, qMeal, qPrice, pA, pT_f]; done))
        · refine A_aload_n dX11_item_147 rfl 0 rfl ?_
          refine A_ldcs (i := 18) (by decide +kernel) dX11_item_148 ?_
          refine A_Va1 mv_X11_160 lk_84 rfl rfl (c_X11_takes _ _ _ _ hF (by repeat (first | assumption | refine (gT_T hE (by decide) _ ?_).1 | refine (gF_Tags hE _ ?_).1 | refine (gF_Part hE _ ?_).1 | refine (gF_Rule hE _ ?_).1 | refine (gF_L hE (gF_Part hE) 1501 _ ?_).1 | refine (gF_L hE (gF_Ex hE hF.2.2.1.2) 1501 _ ?_).1 | refine (gF_Ex hE hF.2.2.1.2 _ ?_).1 | refine (gF_R (gF_A (gT_T hE (by decide)).f (gT_T hE (by decide)).f) _ _ ?_).1 | (simp only [pT_f, *]; done))) (by decide)) (Nat.le_of_ble_eq_true rfl) (by omega) (by omega) dX11_item_150 ?_
          try simp (disch := omega) only [nc0, nc1, nc2, nc3, nc4, nc5, nc6, nc7, nc8, nc9, nc10, nc11, nc12, nc13, nc14, nc15, nc16, nc17, nc18, nc19, nc20, nc21, isR_st, nmR_st, stR_8, stR_9, stR_86, stR_u8, stR_u9]
          refine A_ifeq_b (tgt := 176) dX11_item_153 (by decide) (fun h153 => ?_) (fun h153 => ?_)
          · refine A_iconst dX11_item_176 ?_
            exact A_zret2 dX11_item_177 (by decide) (by first | (simp [qItem, qFood, qDish, qMeal, qPrice, pA, b2i_t, b2i_f, pT_f, *]; done) | (simp_all [qItem, qFood, qDish, qMeal, qPrice, pA, b2i_t, b2i_f, pT_f]; done)) (by first | (simp [qItem, qFood, qDish, qMeal, qPrice, pA, pT_f, *]; done) | (simp_all [qItem, qFood, qDish, qMeal, qPrice, pA, pT_f]; done))
          · refine A_aload_n dX11_item_156 rfl 0 rfl ?_
            refine A_Va0 mv_X11_187 lk_84 rfl rfl (c_X11_choicesForm _ _ _ hF (by repeat (first | assumption | refine (gT_T hE (by decide) _ ?_).1 | refine (gF_Tags hE _ ?_).1 | refine (gF_Part hE _ ?_).1 | refine (gF_Rule hE _ ?_).1 | refine (gF_L hE (gF_Part hE) 1501 _ ?_).1 | refine (gF_L hE (gF_Ex hE hF.2.2.1.2) 1501 _ ?_).1 | refine (gF_Ex hE hF.2.2.1.2 _ ?_).1 | refine (gF_R (gF_A (gT_T hE (by decide)).f (gT_T hE (by decide)).f) _ _ ?_).1 | (simp only [pT_f, *]; done)))) (Nat.le_of_ble_eq_true rfl) (by omega) (by omega) dX11_item_157 ?_
            try simp (disch := omega) only [nc0, nc1, nc2, nc3, nc4, nc5, nc6, nc7, nc8, nc9, nc10, nc11, nc12, nc13, nc14, nc15, nc16, nc17, nc18, nc19, nc20, nc21, isR_st, nmR_st, stR_8, stR_9, stR_86, stR_u8, stR_u9]
            refine A_ifeq_b (tgt := 176) dX11_item_160 (by decide) (fun h160 => ?_) (fun h160 => ?_)
            · refine A_iconst dX11_item_176 ?_
              exact A_zret2 dX11_item_177 (by decide) (by first | (simp [qItem, qFood, qDish, qMeal, qPrice, pA, b2i_t, b2i_f, pT_f, *]; done) | (simp_all [qItem, qFood, qDish, qMeal, qPrice, pA, b2i_t, b2i_f, pT_f]; done)) (by first | (simp [qItem, qFood, qDish, qMeal, qPrice, pA, pT_f, *]; done) | (simp_all [qItem, qFood, qDish, qMeal, qPrice, pA, pT_f]; done))
            · refine A_aload_n dX11_item_163 rfl 0 rfl ?_
              refine A_ldcs (i := 17) (by decide +kernel) dX11_item_164 ?_
              refine A_Va1 mv_X11_160 lk_84 rfl rfl (c_X11_takes _ _ _ _ hF (by repeat (first | assumption | refine (gT_T hE (by decide) _ ?_).1 | refine (gF_Tags hE _ ?_).1 | refine (gF_Part hE _ ?_).1 | refine (gF_Rule hE _ ?_).1 | refine (gF_L hE (gF_Part hE) 1501 _ ?_).1 | refine (gF_L hE (gF_Ex hE hF.2.2.1.2) 1501 _ ?_).1 | refine (gF_Ex hE hF.2.2.1.2 _ ?_).1 | refine (gF_R (gF_A (gT_T hE (by decide)).f (gT_T hE (by decide)).f) _ _ ?_).1 | (simp only [pT_f, *]; done))) (by decide)) (Nat.le_of_ble_eq_true rfl) (by omega) (by omega) dX11_item_166 ?_
              try simp (disch := omega) only [nc0, nc1, nc2, nc3, nc4, nc5, nc6, nc7, nc8, nc9, nc10, nc11, nc12, nc13, nc14, nc15, nc16, nc17, nc18, nc19, nc20, nc21, isR_st, nmR_st, stR_8, stR_9, stR_86, stR_u8, stR_u9]
              refine A_ifeq_b (tgt := 176) dX11_item_169 (by decide) (fun h169 => ?_) (fun h169 => ?_)
              · refine A_iconst dX11_item_176 ?_
                exact A_zret2 dX11_item_177 (by decide) (by first | (simp [qItem, qFood, qDish, qMeal, qPrice, pA, b2i_t, b2i_f, pT_f, *]; done) | (simp_all [qItem, qFood, qDish, qMeal, qPrice, pA, b2i_t, b2i_f, pT_f]; done)) (by first | (simp [qItem, qFood, qDish, qMeal, qPrice, pA, pT_f, *]; done) | (simp_all [qItem, qFood, qDish, qMeal, qPrice, pA, pT_f]; done))
              · refine A_iconst dX11_item_172 ?_
                refine A_goto (tgt := 177) dX11_item_173 (by decide) ?_
                exact A_zret2 dX11_item_177 (by decide) (by first | (simp [qItem, qFood, qDish, qMeal, qPrice, pA, b2i_t, b2i_f, pT_f, *]; done) | (simp_all [qItem, qFood, qDish, qMeal, qPrice, pA, b2i_t, b2i_f, pT_f]; done)) (by first | (simp [qItem, qFood, qDish, qMeal, qPrice, pA, pT_f, *]; done) | (simp_all [qItem, qFood, qDish, qMeal, qPrice, pA, pT_f]; done))
    · refine A_aload_n dX11_item_70 rfl 0 rfl ?_
      refine A_Va0 mv_X11_163 lk_84 rfl rfl (c_X11_takesName _ _ _ hF (by repeat (first | assumption | refine (gT_T hE (by decide) _ ?_).1 | refine (gF_Tags hE _ ?_).1 | refine (gF_Part hE _ ?_).1 | refine (gF_Rule hE _ ?_).1 | refine (gF_L hE (gF_Part hE) 1501 _ ?_).1 | refine (gF_L hE (gF_Ex hE hF.2.2.1.2) 1501 _ ?_).1 | refine (gF_Ex hE hF.2.2.1.2 _ ?_).1 | refine (gF_R (gF_A (gT_T hE (by decide)).f (gT_T hE (by decide)).f) _ _ ?_).1 | (simp only [pT_f, *]; done)))) (Nat.le_of_ble_eq_true rfl) (by omega) (by omega) dX11_item_71 ?_
      try simp (disch := omega) only [nc0, nc1, nc2, nc3, nc4, nc5, nc6, nc7, nc8, nc9, nc10, nc11, nc12, nc13, nc14, nc15, nc16, nc17, nc18, nc19, nc20, nc21, isR_st, nmR_st, stR_8, stR_9, stR_86, stR_u8, stR_u9]
      refine A_ifeq_b (tgt := 129) dX11_item_74 (by decide) (fun h74 => ?_) (fun h74 => ?_)
      · refine A_iconst dX11_item_129 ?_
        exact A_zret2 dX11_item_130 (by decide) (by first | (simp [qItem, qFood, qDish, qMeal, qPrice, pA, b2i_t, b2i_f, pT_f, *]; done) | (simp_all [qItem, qFood, qDish, qMeal, qPrice, pA, b2i_t, b2i_f, pT_f]; done)) (by first | (simp [qItem, qFood, qDish, qMeal, qPrice, pA, pT_f, *]; done) | (simp_all [qItem, qFood, qDish, qMeal, qPrice, pA, pT_f]; done))
      · refine A_aload_n dX11_item_77 rfl 0 rfl ?_
        refine A_ldcs (i := 2) (by decide +kernel) dX11_item_78 ?_
        refine A_Va1 mv_X11_160 lk_84 rfl rfl (c_X11_takes _ _ _ _ hF (by repeat (first | assumption | refine (gT_T hE (by decide) _ ?_).1 | refine (gF_Tags hE _ ?_).1 | refine (gF_Part hE _ ?_).1 | refine (gF_Rule hE _ ?_).1 | refine (gF_L hE (gF_Part hE) 1501 _ ?_).1 | refine (gF_L hE (gF_Ex hE hF.2.2.1.2) 1501 _ ?_).1 | refine (gF_Ex hE hF.2.2.1.2 _ ?_).1 | refine (gF_R (gF_A (gT_T hE (by decide)).f (gT_T hE (by decide)).f) _ _ ?_).1 | (simp only [pT_f, *]; done))) (by decide)) (Nat.le_of_ble_eq_true rfl) (by omega) (by omega) dX11_item_80 ?_
        try simp (disch := omega) only [nc0, nc1, nc2, nc3, nc4, nc5, nc6, nc7, nc8, nc9, nc10, nc11, nc12, nc13, nc14, nc15, nc16, nc17, nc18, nc19, nc20, nc21, isR_st, nmR_st, stR_8, stR_9, stR_86, stR_u8, stR_u9]
        refine A_ifeq_b (tgt := 129) dX11_item_83 (by decide) (fun h83 => ?_) (fun h83 => ?_)
        · refine A_iconst dX11_item_129 ?_
          exact A_zret2 dX11_item_130 (by decide) (by first | (simp [qItem, qFood, qDish, qMeal, qPrice, pA, b2i_t, b2i_f, pT_f, *]; done) | (simp_all [qItem, qFood, qDish, qMeal, qPrice, pA, b2i_t, b2i_f, pT_f]; done)) (by first | (simp [qItem, qFood, qDish, qMeal, qPrice, pA, pT_f, *]; done) | (simp_all [qItem, qFood, qDish, qMeal, qPrice, pA, pT_f]; done))
        · refine A_aload_n dX11_item_86 rfl 0 rfl ?_
          refine A_Va0 mv_X11_166 lk_84 rfl rfl (c_X11_takesNumber _ _ _ hF (by repeat (first | assumption | refine (gT_T hE (by decide) _ ?_).1 | refine (gF_Tags hE _ ?_).1 | refine (gF_Part hE _ ?_).1 | refine (gF_Rule hE _ ?_).1 | refine (gF_L hE (gF_Part hE) 1501 _ ?_).1 | refine (gF_L hE (gF_Ex hE hF.2.2.1.2) 1501 _ ?_).1 | refine (gF_Ex hE hF.2.2.1.2 _ ?_).1 | refine (gF_R (gF_A (gT_T hE (by decide)).f (gT_T hE (by decide)).f) _ _ ?_).1 | (simp only [pT_f, *]; done)))) (Nat.le_of_ble_eq_true rfl) (by omega) (by omega) dX11_item_87 ?_
          try simp (disch := omega) only [nc0, nc1, nc2, nc3, nc4, nc5, nc6, nc7, nc8, nc9, nc10, nc11, nc12, nc13, nc14, nc15, nc16, nc17, nc18, nc19, nc20, nc21, isR_st, nmR_st, stR_8, stR_9, stR_86, stR_u8, stR_u9]
          refine A_ifeq_b (tgt := 129) dX11_item_90 (by decide) (fun h90 => ?_) (fun h90 => ?_)
          · refine A_iconst dX11_item_129 ?_
            exact A_zret2 dX11_item_130 (by decide) (by first | (simp [qItem, qFood, qDish, qMeal, qPrice, pA, b2i_t, b2i_f, pT_f, *]; done) | (simp_all [qItem, qFood, qDish, qMeal, qPrice, pA, b2i_t, b2i_f, pT_f]; done)) (by first | (simp [qItem, qFood, qDish, qMeal, qPrice, pA, pT_f, *]; done) | (simp_all [qItem, qFood, qDish, qMeal, qPrice, pA, pT_f]; done))
          · refine A_aload_n dX11_item_93 rfl 0 rfl ?_
            refine A_ldcs (i := 18) (by decide +kernel) dX11_item_94 ?_
            refine A_Va1 mv_X11_160 lk_84 rfl rfl (c_X11_takes _ _ _ _ hF (by repeat (first | assumption | refine (gT_T hE (by decide) _ ?_).1 | refine (gF_Tags hE _ ?_).1 | refine (gF_Part hE _ ?_).1 | refine (gF_Rule hE _ ?_).1 | refine (gF_L hE (gF_Part hE) 1501 _ ?_).1 | refine (gF_L hE (gF_Ex hE hF.2.2.1.2) 1501 _ ?_).1 | refine (gF_Ex hE hF.2.2.1.2 _ ?_).1 | refine (gF_R (gF_A (gT_T hE (by decide)).f (gT_T hE (by decide)).f) _ _ ?_).1 | (simp only [pT_f, *]; done))) (by decide)) (Nat.le_of_ble_eq_true rfl) (by omega) (by omega) dX11_item_96 ?_
            try simp (disch := omega) only [nc0, nc1, nc2, nc3, nc4, nc5, nc6, nc7, nc8, nc9, nc10, nc11, nc12, nc13, nc14, nc15, nc16, nc17, nc18, nc19, nc20, nc21, isR_st, nmR_st, stR_8, stR_9, stR_86, stR_u8, stR_u9]
            refine A_ifeq_b (tgt := 129) dX11_item_99 (by decide) (fun h99 => ?_) (fun h99 => ?_)
            · refine A_iconst dX11_item_129 ?_
              exact A_zret2 dX11_item_130 (by decide) (by first | (simp [qItem, qFood, qDish, qMeal, qPrice, pA, b2i_t, b2i_f, pT_f, *]; done) | (simp_all [qItem, qFood, qDish, qMeal, qPrice, pA, b2i_t, b2i_f, pT_f]; done)) (by first | (simp [qItem, qFood, qDish, qMeal, qPrice, pA, pT_f, *]; done) | (simp_all [qItem, qFood, qDish, qMeal, qPrice, pA, pT_f]; done))
            · refine A_aload_n dX11_item_102 rfl 0 rfl ?_
              refine A_Va0 mv_X11_182 lk_84 rfl rfl (c_X11_partsForm _ _ _ hF (by repeat (first | assumption | refine (gT_T hE (by decide) _ ?_).1 | refine (gF_Tags hE _ ?_).1 | refine (gF_Part hE _ ?_).1 | refine (gF_Rule hE _ ?_).1 | refine (gF_L hE (gF_Part hE) 1501 _ ?_).1 | refine (gF_L hE (gF_Ex hE hF.2.2.1.2) 1501 _ ?_).1 | refine (gF_Ex hE hF.2.2.1.2 _ ?_).1 | refine (gF_R (gF_A (gT_T hE (by decide)).f (gT_T hE (by decide)).f) _ _ ?_).1 | (simp only [pT_f, *]; done)))) (Nat.le_of_ble_eq_true rfl) (by omega) (by omega) dX11_item_103 ?_
              try simp (disch := omega) only [nc0, nc1, nc2, nc3, nc4, nc5, nc6, nc7, nc8, nc9, nc10, nc11, nc12, nc13, nc14, nc15, nc16, nc17, nc18, nc19, nc20, nc21, isR_st, nmR_st, stR_8, stR_9, stR_86, stR_u8, stR_u9]
              refine A_ifeq_b (tgt := 129) dX11_item_106 (by decide) (fun h106 => ?_) (fun h106 => ?_)
              · refine A_iconst dX11_item_129 ?_
                exact A_zret2 dX11_item_130 (by decide) (by first | (simp [qItem, qFood, qDish, qMeal, qPrice, pA, b2i_t, b2i_f, pT_f, *]; done) | (simp_all [qItem, qFood, qDish, qMeal, qPrice, pA, b2i_t, b2i_f, pT_f]; done)) (by first | (simp [qItem, qFood, qDish, qMeal, qPrice, pA, pT_f, *]; done) | (simp_all [qItem, qFood, qDish, qMeal, qPrice, pA, pT_f]; done))
              · refine A_aload_n dX11_item_109 rfl 0 rfl ?_
                refine A_Va0 mv_X11_171 lk_84 rfl rfl (c_X11_tagsForm _ _ _ hF (by repeat (first | assumption | refine (gT_T hE (by decide) _ ?_).1 | refine (gF_Tags hE _ ?_).1 | refine (gF_Part hE _ ?_).1 | refine (gF_Rule hE _ ?_).1 | refine (gF_L hE (gF_Part hE) 1501 _ ?_).1 | refine (gF_L hE (gF_Ex hE hF.2.2.1.2) 1501 _ ?_).1 | refine (gF_Ex hE hF.2.2.1.2 _ ?_).1 | refine (gF_R (gF_A (gT_T hE (by decide)).f (gT_T hE (by decide)).f) _ _ ?_).1 | (simp only [pT_f, *]; done)))) (Nat.le_of_ble_eq_true rfl) (by omega) (by omega) dX11_item_110 ?_
                try simp (disch := omega) only [nc0, nc1, nc2, nc3, nc4, nc5, nc6, nc7, nc8, nc9, nc10, nc11, nc12, nc13, nc14, nc15, nc16, nc17, nc18, nc19, nc20, nc21, isR_st, nmR_st, stR_8, stR_9, stR_86, stR_u8, stR_u9]
                refine A_ifeq_b (tgt := 129) dX11_item_113 (by decide) (fun h113 => ?_) (fun h113 => ?_)
                · refine A_iconst dX11_item_129 ?_
                  exact A_zret2 dX11_item_130 (by decide) (by first | (simp [qItem, qFood, qDish, qMeal, qPrice, pA, b2i_t, b2i_f, pT_f, *]; done) | (simp_all [qItem, qFood, qDish, qMeal, qPrice, pA, b2i_t, b2i_f, pT_f]; done)) (by first | (simp [qItem, qFood, qDish, qMeal, qPrice, pA, pT_f, *]; done) | (simp_all [qItem, qFood, qDish, qMeal, qPrice, pA, pT_f]; done))
                · refine A_aload_n dX11_item_116 rfl 0 rfl ?_
                  refine A_ldcs (i := 17) (by decide +kernel) dX11_item_117 ?_
                  refine A_Va1 mv_X11_160 lk_84 rfl rfl (c_X11_takes _ _ _ _ hF (by repeat (first | assumption | refine (gT_T hE (by decide) _ ?_).1 | refine (gF_Tags hE _ ?_).1 | refine (gF_Part hE _ ?_).1 | refine (gF_Rule hE _ ?_).1 | refine (gF_L hE (gF_Part hE) 1501 _ ?_).1 | refine (gF_L hE (gF_Ex hE hF.2.2.1.2) 1501 _ ?_).1 | refine (gF_Ex hE hF.2.2.1.2 _ ?_).1 | refine (gF_R (gF_A (gT_T hE (by decide)).f (gT_T hE (by decide)).f) _ _ ?_).1 | (simp only [pT_f, *]; done))) (by decide)) (Nat.le_of_ble_eq_true rfl) (by omega) (by omega) dX11_item_119 ?_
                  try simp (disch := omega) only [nc0, nc1, nc2, nc3, nc4, nc5, nc6, nc7, nc8, nc9, nc10, nc11, nc12, nc13, nc14, nc15, nc16, nc17, nc18, nc19, nc20, nc21, isR_st, nmR_st, stR_8, stR_9, stR_86, stR_u8, stR_u9]
                  refine A_ifeq_b (tgt := 129) dX11_item_122 (by decide) (fun h122 => ?_) (fun h122 => ?_)
                  · refine A_iconst dX11_item_129 ?_
                    exact A_zret2 dX11_item_130 (by decide) (by first | (simp [qItem, qFood, qDish, qMeal, qPrice, pA, b2i_t, b2i_f, pT_f, *]; done) | (simp_all [qItem, qFood, qDish, qMeal, qPrice, pA, b2i_t, b2i_f, pT_f]; done)) (by first | (simp [qItem, qFood, qDish, qMeal, qPrice, pA, pT_f, *]; done) | (simp_all [qItem, qFood, qDish, qMeal, qPrice, pA, pT_f]; done))
                  · refine A_iconst dX11_item_125 ?_
                    refine A_goto (tgt := 130) dX11_item_126 (by decide) ?_
                    exact A_zret2 dX11_item_130 (by decide) (by first | (simp [qItem, qFood, qDish, qMeal, qPrice, pA, b2i_t, b2i_f, pT_f, *]; done) | (simp_all [qItem, qFood, qDish, qMeal, qPrice, pA, b2i_t, b2i_f, pT_f]; done)) (by first | (simp [qItem, qFood, qDish, qMeal, qPrice, pA, pT_f, *]; done) | (simp_all [qItem, qFood, qDish, qMeal, qPrice, pA, pT_f]; done))
  · refine A_aload_n dX11_item_9 rfl 0 rfl ?_
    refine A_Va0 mv_X11_163 lk_84 rfl rfl (c_X11_takesName _ _ _ hF (by repeat (first | assumption | refine (gT_T hE (by decide) _ ?_).1 | refine (gF_Tags hE _ ?_).1 | refine (gF_Part hE _ ?_).1 | refine (gF_Rule hE _ ?_).1 | refine (gF_L hE (gF_Part hE) 1501 _ ?_).1 | refine (gF_L hE (gF_Ex hE hF.2.2.1.2) 1501 _ ?_).1 | refine (gF_Ex hE hF.2.2.1.2 _ ?_).1 | refine (gF_R (gF_A (gT_T hE (by decide)).f (gT_T hE (by decide)).f) _ _ ?_).1 | (simp only [pT_f, *]; done)))) (Nat.le_of_ble_eq_true rfl) (by omega) (by omega) dX11_item_10 ?_
    try simp (disch := omega) only [nc0, nc1, nc2, nc3, nc4, nc5, nc6, nc7, nc8, nc9, nc10, nc11, nc12, nc13, nc14, nc15, nc16, nc17, nc18, nc19, nc20, nc21, isR_st, nmR_st, stR_8, stR_9, stR_86, stR_u8, stR_u9]
    refine A_ifeq_b (tgt := 59) dX11_item_13 (by decide) (fun h13 => ?_) (fun h13 => ?_)
    · refine A_iconst dX11_item_59 ?_
      exact A_zret2 dX11_item_60 (by decide) (by first | (simp [qItem, qFood, qDish, qMeal, qPrice, pA, b2i_t, b2i_f, pT_f, *]; done) | (simp_all [qItem, qFood, qDish, qMeal, qPrice, pA, b2i_t, b2i_f, pT_f]; done)) (by first | (simp [qItem, qFood, qDish, qMeal, qPrice, pA, pT_f, *]; done) | (simp_all [qItem, qFood, qDish, qMeal, qPrice, pA, pT_f]; done))
    · refine A_aload_n dX11_item_16 rfl 0 rfl ?_
      refine A_Va0 mv_X11_166 lk_84 rfl rfl (c_X11_takesNumber _ _ _ hF (by repeat (first | assumption | refine (gT_T hE (by decide) _ ?_).1 | refine (gF_Tags hE _ ?_).1 | refine (gF_Part hE _ ?_).1 | refine (gF_Rule hE _ ?_).1 | refine (gF_L hE (gF_Part hE) 1501 _ ?_).1 | refine (gF_L hE (gF_Ex hE hF.2.2.1.2) 1501 _ ?_).1 | refine (gF_Ex hE hF.2.2.1.2 _ ?_).1 | refine (gF_R (gF_A (gT_T hE (by decide)).f (gT_T hE (by decide)).f) _ _ ?_).1 | (simp only [pT_f, *]; done)))) (Nat.le_of_ble_eq_true rfl) (by omega) (by omega) dX11_item_17 ?_
      try simp (disch := omega) only [nc0, nc1, nc2, nc3, nc4, nc5, nc6, nc7, nc8, nc9, nc10, nc11, nc12, nc13, nc14, nc15, nc16, nc17, nc18, nc19, nc20, nc21, isR_st, nmR_st, stR_8, stR_9, stR_86, stR_u8, stR_u9]
      refine A_ifeq_b (tgt := 59) dX11_item_20 (by decide) (fun h20 => ?_) (fun h20 => ?_)
      · refine A_iconst dX11_item_59 ?_
        exact A_zret2 dX11_item_60 (by decide) (by first | (simp [qItem, qFood, qDish, qMeal, qPrice, pA, b2i_t, b2i_f, pT_f, *]; done) | (simp_all [qItem, qFood, qDish, qMeal, qPrice, pA, b2i_t, b2i_f, pT_f]; done)) (by first | (simp [qItem, qFood, qDish, qMeal, qPrice, pA, pT_f, *]; done) | (simp_all [qItem, qFood, qDish, qMeal, qPrice, pA, pT_f]; done))
      · refine A_aload_n dX11_item_23 rfl 0 rfl ?_
        refine A_ldcs (i := 16) (by decide +kernel) dX11_item_24 ?_
        refine A_Va1 mv_X11_160 lk_84 rfl rfl (c_X11_takes _ _ _ _ hF (by repeat (first | assumption | refine (gT_T hE (by decide) _ ?_).1 | refine (gF_Tags hE _ ?_).1 | refine (gF_Part hE _ ?_).1 | refine (gF_Rule hE _ ?_).1 | refine (gF_L hE (gF_Part hE) 1501 _ ?_).1 | refine (gF_L hE (gF_Ex hE hF.2.2.1.2) 1501 _ ?_).1 | refine (gF_Ex hE hF.2.2.1.2 _ ?_).1 | refine (gF_R (gF_A (gT_T hE (by decide)).f (gT_T hE (by decide)).f) _ _ ?_).1 | (simp only [pT_f, *]; done))) (by decide)) (Nat.le_of_ble_eq_true rfl) (by omega) (by omega) dX11_item_26 ?_
        try simp (disch := omega) only [nc0, nc1, nc2, nc3, nc4, nc5, nc6, nc7, nc8, nc9, nc10, nc11, nc12, nc13, nc14, nc15, nc16, nc17, nc18, nc19, nc20, nc21, isR_st, nmR_st, stR_8, stR_9, stR_86, stR_u8, stR_u9]
        refine A_ifeq_b (tgt := 39) dX11_item_29 (by decide) (fun h29 => ?_) (fun h29 => ?_)
        · refine A_aload_n dX11_item_39 rfl 0 rfl ?_
          refine A_Va0 mv_X11_171 lk_84 rfl rfl (c_X11_tagsForm _ _ _ hF (by repeat (first | assumption | refine (gT_T hE (by decide) _ ?_).1 | refine (gF_Tags hE _ ?_).1 | refine (gF_Part hE _ ?_).1 | refine (gF_Rule hE _ ?_).1 | refine (gF_L hE (gF_Part hE) 1501 _ ?_).1 | refine (gF_L hE (gF_Ex hE hF.2.2.1.2) 1501 _ ?_).1 | refine (gF_Ex hE hF.2.2.1.2 _ ?_).1 | refine (gF_R (gF_A (gT_T hE (by decide)).f (gT_T hE (by decide)).f) _ _ ?_).1 | (simp only [pT_f, *]; done)))) (Nat.le_of_ble_eq_true rfl) (by omega) (by omega) dX11_item_40 ?_
          try simp (disch := omega) only [nc0, nc1, nc2, nc3, nc4, nc5, nc6, nc7, nc8, nc9, nc10, nc11, nc12, nc13, nc14, nc15, nc16, nc17, nc18, nc19, nc20, nc21, isR_st, nmR_st, stR_8, stR_9, stR_86, stR_u8, stR_u9]
          refine A_ifeq_b (tgt := 59) dX11_item_43 (by decide) (fun h43 => ?_) (fun h43 => ?_)
          · refine A_iconst dX11_item_59 ?_
            exact A_zret2 dX11_item_60 (by decide) (by first | (simp [qItem, qFood, qDish, qMeal, qPrice, pA, b2i_t, b2i_f, pT_f, *]; done) | (simp_all [qItem, qFood, qDish, qMeal, qPrice, pA, b2i_t, b2i_f, pT_f]; done)) (by first | (simp [qItem, qFood, qDish, qMeal, qPrice, pA, pT_f, *]; done) | (simp_all [qItem, qFood, qDish, qMeal, qPrice, pA, pT_f]; done))
          · refine A_aload_n dX11_item_46 rfl 0 rfl ?_
            refine A_ldcs (i := 17) (by decide +kernel) dX11_item_47 ?_
            refine A_Va1 mv_X11_160 lk_84 rfl rfl (c_X11_takes _ _ _ _ hF (by repeat (first | assumption | refine (gT_T hE (by decide) _ ?_).1 | refine (gF_Tags hE _ ?_).1 | refine (gF_Part hE _ ?_).1 | refine (gF_Rule hE _ ?_).1 | refine (gF_L hE (gF_Part hE) 1501 _ ?_).1 | refine (gF_L hE (gF_Ex hE hF.2.2.1.2) 1501 _ ?_).1 | refine (gF_Ex hE hF.2.2.1.2 _ ?_).1 | refine (gF_R (gF_A (gT_T hE (by decide)).f (gT_T hE (by decide)).f) _ _ ?_).1 | (simp only [pT_f, *]; done))) (by decide)) (Nat.le_of_ble_eq_true rfl) (by omega) (by omega) dX11_item_49 ?_
            try simp (disch := omega) only [nc0, nc1, nc2, nc3, nc4, nc5, nc6, nc7, nc8, nc9, nc10, nc11, nc12, nc13, nc14, nc15, nc16, nc17, nc18, nc19, nc20, nc21, isR_st, nmR_st, stR_8, stR_9, stR_86, stR_u8, stR_u9]
            refine A_ifeq_b (tgt := 59) dX11_item_52 (by decide) (fun h52 => ?_) (fun h52 => ?_)
            · refine A_iconst dX11_item_59 ?_
              exact A_zret2 dX11_item_60 (by decide) (by first | (simp [qItem, qFood, qDish, qMeal, qPrice, pA, b2i_t, b2i_f, pT_f, *]; done) | (simp_all [qItem, qFood, qDish, qMeal, qPrice, pA, b2i_t, b2i_f, pT_f]; done)) (by first | (simp [qItem, qFood, qDish, qMeal, qPrice, pA, pT_f, *]; done) | (simp_all [qItem, qFood, qDish, qMeal, qPrice, pA, pT_f]; done))
            · refine A_iconst dX11_item_55 ?_
              refine A_goto (tgt := 60) dX11_item_56 (by decide) ?_
              exact A_zret2 dX11_item_60 (by decide) (by first | (simp [qItem, qFood, qDish, qMeal, qPrice, pA, b2i_t, b2i_f, pT_f, *]; done) | (simp_all [qItem, qFood, qDish, qMeal, qPrice, pA, b2i_t, b2i_f, pT_f]; done)) (by first | (simp [qItem, qFood, qDish, qMeal, qPrice, pA, pT_f, *]; done) | (simp_all [qItem, qFood, qDish, qMeal, qPrice, pA, pT_f]; done))
        · refine A_aload_n dX11_item_32 rfl 0 rfl ?_
          refine A_Va0 mv_X11_166 lk_84 rfl rfl (c_X11_takesNumber _ _ _ hF (by repeat (first | assumption | refine (gT_T hE (by decide) _ ?_).1 | refine (gF_Tags hE _ ?_).1 | refine (gF_Part hE _ ?_).1 | refine (gF_Rule hE _ ?_).1 | refine (gF_L hE (gF_Part hE) 1501 _ ?_).1 | refine (gF_L hE (gF_Ex hE hF.2.2.1.2) 1501 _ ?_).1 | refine (gF_Ex hE hF.2.2.1.2 _ ?_).1 | refine (gF_R (gF_A (gT_T hE (by decide)).f (gT_T hE (by decide)).f) _ _ ?_).1 | (simp only [pT_f, *]; done)))) (Nat.le_of_ble_eq_true rfl) (by omega) (by omega) dX11_item_33 ?_
          try simp (disch := omega) only [nc0, nc1, nc2, nc3, nc4, nc5, nc6, nc7, nc8, nc9, nc10, nc11, nc12, nc13, nc14, nc15, nc16, nc17, nc18, nc19, nc20, nc21, isR_st, nmR_st, stR_8, stR_9, stR_86, stR_u8, stR_u9]
          refine A_ifeq_b (tgt := 59) dX11_item_36 (by decide) (fun h36 => ?_) (fun h36 => ?_)
          · refine A_iconst dX11_item_59 ?_
            exact A_zret2 dX11_item_60 (by decide) (by first | (simp [qItem, qFood, qDish, qMeal, qPrice, pA, b2i_t, b2i_f, pT_f, *]; done) | (simp_all [qItem, qFood, qDish, qMeal, qPrice, pA, b2i_t, b2i_f, pT_f]; done)) (by first | (simp [qItem, qFood, qDish, qMeal, qPrice, pA, pT_f, *]; done) | (simp_all [qItem, qFood, qDish, qMeal, qPrice, pA, pT_f]; done))
          · refine A_aload_n dX11_item_39 rfl 0 rfl ?_
            refine A_Va0 mv_X11_171 lk_84 rfl rfl (c_X11_tagsForm _ _ _ hF (by repeat (first | assumption | refine (gT_T hE (by decide) _ ?_).1 | refine (gF_Tags hE _ ?_).1 | refine (gF_Part hE _ ?_).1 | refine (gF_Rule hE _ ?_).1 | refine (gF_L hE (gF_Part hE) 1501 _ ?_).1 | refine (gF_L hE (gF_Ex hE hF.2.2.1.2) 1501 _ ?_).1 | refine (gF_Ex hE hF.2.2.1.2 _ ?_).1 | refine (gF_R (gF_A (gT_T hE (by decide)).f (gT_T hE (by decide)).f) _ _ ?_).1 | (simp only [pT_f, *]; done)))) (Nat.le_of_ble_eq_true rfl) (by omega) (by omega) dX11_item_40 ?_
            try simp (disch := omega) only [nc0, nc1, nc2, nc3, nc4, nc5, nc6, nc7, nc8, nc9, nc10, nc11, nc12, nc13, nc14, nc15, nc16, nc17, nc18, nc19, nc20, nc21, isR_st, nmR_st, stR_8, stR_9, stR_86, stR_u8, stR_u9]
            refine A_ifeq_b (tgt := 59) dX11_item_43 (by decide) (fun h43 => ?_) (fun h43 => ?_)
            · refine A_iconst dX11_item_59 ?_
              exact A_zret2 dX11_item_60 (by decide) (by first | (simp [qItem, qFood, qDish, qMeal, qPrice, pA, b2i_t, b2i_f, pT_f, *]; done) | (simp_all [qItem, qFood, qDish, qMeal, qPrice, pA, b2i_t, b2i_f, pT_f]; done)) (by first | (simp [qItem, qFood, qDish, qMeal, qPrice, pA, pT_f, *]; done) | (simp_all [qItem, qFood, qDish, qMeal, qPrice, pA, pT_f]; done))
            · refine A_aload_n dX11_item_46 rfl 0 rfl ?_
              refine A_ldcs (i := 17) (by decide +kernel) dX11_item_47 ?_
              refine A_Va1 mv_X11_160 lk_84 rfl rfl (c_X11_takes _ _ _ _ hF (by repeat (first | assumption | refine (gT_T hE (by decide) _ ?_).1 | refine (gF_Tags hE _ ?_).1 | refine (gF_Part hE _ ?_).1 | refine (gF_Rule hE _ ?_).1 | refine (gF_L hE (gF_Part hE) 1501 _ ?_).1 | refine (gF_L hE (gF_Ex hE hF.2.2.1.2) 1501 _ ?_).1 | refine (gF_Ex hE hF.2.2.1.2 _ ?_).1 | refine (gF_R (gF_A (gT_T hE (by decide)).f (gT_T hE (by decide)).f) _ _ ?_).1 | (simp only [pT_f, *]; done))) (by decide)) (Nat.le_of_ble_eq_true rfl) (by omega) (by omega) dX11_item_49 ?_
              try simp (disch := omega) only [nc0, nc1, nc2, nc3, nc4, nc5, nc6, nc7, nc8, nc9, nc10, nc11, nc12, nc13, nc14, nc15, nc16, nc17, nc18, nc19, nc20, nc21, isR_st, nmR_st, stR_8, stR_9, stR_86, stR_u8, stR_u9]
              refine A_ifeq_b (tgt := 59) dX11_item_52 (by decide) (fun h52 => ?_) (fun h52 => ?_)
              · refine A_iconst dX11_item_59 ?_
                exact A_zret2 dX11_item_60 (by decide) (by first | (simp [qItem, qFood, qDish, qMeal, qPrice, pA, b2i_t, b2i_f, pT_f, *]; done) | (simp_all [qItem, qFood, qDish, qMeal, qPrice, pA, b2i_t, b2i_f, pT_f]; done)) (by first | (simp [qItem, qFood, qDish, qMeal, qPrice, pA, pT_f, *]; done) | (simp_all [qItem, qFood, qDish, qMeal, qPrice, pA, pT_f]; done))
              · refine A_iconst dX11_item_55 ?_
                refine A_goto (tgt := 60) dX11_item_56 (by decide) ?_
                exact A_zret2 dX11_item_60 (by decide) (by first | (simp [qItem, qFood, qDish, qMeal, qPrice, pA, b2i_t, b2i_f, pT_f, *]; done) | (simp_all [qItem, qFood, qDish, qMeal, qPrice, pA, b2i_t, b2i_f, pT_f]; done)) (by first | (simp [qItem, qFood, qDish, qMeal, qPrice, pA, pT_f, *]; done) | (simp_all [qItem, qFood, qDish, qMeal, qPrice, pA, pT_f]; done))
set_option maxRecDepth 100000 in
set_option maxHeartbeats 4000000 in
theorem w_X11_program {f : Fm} (σ : Sg) (e : Int)  (hF : FmH σ e)  : ∀ (n : Nat) (s : Pp) (r : Option Value) (σ1 : Sg), bd e s → e - s.1 < n → r = some (.int (I32 (b2i ((qProg (KR σ e) n) s).1))) → σ1 = stR σ ((qProg (KR σ e) n) s).2 → AW l G f (RX11, cX11_program, 1, (some .boolean)) (36, 0, 0) (QT G f 0 0 r σ1) [] 0 0 0 [(0, .ref (lay G 84))] [] (stR σ s) := by
  have hE := FmH.e hF
  have he := hF.2.2.1
  intro n
  induction n using Nat.strongRecOn with | _ n ih =>
  intro s r σ1 hs hn hr hs5
  obtain ⟨⟨hs1, hs2⟩, hs3, hs4⟩ := id hs
  obtain ⟨n, rfl⟩ : ∃ q, n = q + 1 := ⟨n - 1, by omega⟩
  
  refine A_aload_n dX11_program_0 rfl 0 rfl ?_
  refine A_Va0 mv_X11_154 lk_84 rfl rfl (c_X11_item _ _ _ hF (by repeat (first | assumption | refine (gT_T hE (by decide) _ ?_).1 | refine (gF_Tags hE _ ?_).1 | refine (gF_Part hE _ ?_).1 | refine (gF_Rule hE _ ?_).1 | refine (gF_L hE (gF_Part hE) 1501 _ ?_).1 | refine (gF_L hE (gF_Ex hE hF.2.2.1.2) 1501 _ ?_).1 | refine (gF_Ex hE hF.2.2.1.2 _ ?_).1 | refine (gF_R (gF_A (gT_T hE (by decide)).f (gT_T hE (by decide)).f) _ _ ?_).1 | (simp only [pT_f, *]; done)))) (Nat.le_of_ble_eq_true rfl) (by omega) (by omega) dX11_program_1 ?_
  try simp (disch := omega) only [nc0, nc1, nc2, nc3, nc4, nc5, nc6, nc7, nc8, nc9, nc10, nc11, nc12, nc13, nc14, nc15, nc16, nc17, nc18, nc19, nc20, nc21, isR_st, nmR_st, stR_8, stR_9, stR_86, stR_u8, stR_u9]
  have hq0 := gT_Item hE he.2 s hs
  have hq1 := hq0.1.1
  have ht1 := hF.2.1 (qItem (KR σ e) s).2.1.toNat
  refine A_ifne_b (tgt := 9) dX11_program_4 (by decide) (fun h4 => ?_) (fun h4 => ?_)
  · refine A_aload_n dX11_program_9 rfl 0 rfl ?_
    refine A_getr fl_X11_17 lk_84 rfl dX11_program_10 ?_
    refine A_aload_n dX11_program_13 rfl 0 rfl ?_
    refine A_geti fl_X11_144 lk_84 rfl dX11_program_14 ?_
    try simp (disch := omega) only [up_k, up_j, up_s, nc0, nc1, nc2, nc3, nc4, nc5, nc6, nc7, nc8, nc9, nc10, nc11, nc12, nc13, nc14, nc15, nc16, nc17, nc18, nc19, nc20, nc21, isR_st, nmR_st, stR_8, stR_9, stR_86, stR_u8, stR_u9]
    refine J_iald lk_86 (by first | exact i32_eq (by assumption) | exact i32_eq ⟨by omega, by omega⟩ | with_reducible exact i32_i32 _ | with_reducible exact i32_eq (b2i_inr _) | rfl) (by omega) (by omega) (by decide) dX11_program_17 ?_
    try simp (disch := omega) only [up_k, up_j, up_s, nc0, nc1, nc2, nc3, nc4, nc5, nc6, nc7, nc8, nc9, nc10, nc11, nc12, nc13, nc14, nc15, nc16, nc17, nc18, nc19, nc20, nc21, isR_st, nmR_st, stR_8, stR_9, stR_86, stR_u8, stR_u9]
    refine J_if_ne (tgt := 0) dX11_program_18 (by decide) (by first | exact i32_eq (by assumption) | exact i32_eq ⟨by omega, by omega⟩ | with_reducible exact i32_i32 _ | with_reducible exact i32_eq (b2i_inr _) | rfl) (fun h18 => ?_) (fun h18 => ?_)
    · refine A_lv [0] rfl ?_
      have hq := gT_Item hE he.2 s hs
      have h20 := hq.2.2 h4
      have hnE : ¬ KR σ e (qItem (KR σ e) s).2.1 = 25 := fun z => h18 ((end_eq hq.1).mp z)
      refine ih n (by omega) _ r σ1 hq.1 (by omega) (by rw [hr]; clear ih; first | (simp [qProg, *]; done) | (simp_all [qProg]; done)) (by rw [hs5]; clear ih; first | (simp [qProg, *]; done) | (simp_all [qProg]; done))
    · have hyE := (end_eq hq0.1).mpr h18
      refine A_iconst dX11_program_21 ?_
      exact A_zret2 dX11_program_22 (by decide) (by rw [hr]; clear ih; first | (simp [qProg, b2i_t, b2i_f, *]; done) | (simp_all [qProg, b2i_t, b2i_f]; done)) (by rw [hs5]; clear ih; first | (simp [qProg, *]; done) | (simp_all [qProg]; done))
  · refine A_iconst dX11_program_7 ?_
    exact A_zret2 dX11_program_8 (by decide) (by rw [hr]; clear ih; first | (simp [qProg, b2i_t, b2i_f, *]; done) | (simp_all [qProg, b2i_t, b2i_f]; done)) (by rw [hs5]; clear ih; first | (simp [qProg, *]; done) | (simp_all [qProg]; done))
set_option maxRecDepth 100000 in
set_option maxHeartbeats 4000000 in
theorem c_X11_program (σ : Sg) (s : Pp) (e : Int) (hF : FmH σ e) (hs : bd e s) : Ct l G yX11_program cX11_program 1 (some .boolean) 36 0 0 [.ref (lay G 84)] (stR σ s) (some (.int (I32 (b2i (qProg (KR σ e) 1501 s).1)))) (stR σ (qProg (KR σ e) 1501 s).2) := by
  have hE := FmH.e hF
  obtain ⟨⟨hs1, hs2⟩, hs3, hs4⟩ := id hs
  have he := hF.2.2.1
  refine Ct.of (by decide +kernel) (Nat.le_of_ble_eq_true rfl) (fun f => ?_)
  show AW _ _ _ _ _ _ _ _ _ _ [(0, _)] _ _
  refine A_lv [0] rfl ?_
  refine w_X11_program σ e hF 1501 s _ _ hs (by omega) rfl rfl
end S34
