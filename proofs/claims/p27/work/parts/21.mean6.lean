/-! MeaningReader: readProgram, findMeantDishes -/
section S21
variable {l : Launch} {G : Gx}
theorem rd_10 (σ : Sg) (p : Sg) (h : p 10 2 = σ 10 2) : (rdEM σ p).2 10 2 = σ 10 2 := by
  unfold rdEM
  split
  · simp only [flM_10, h]
  · simp only [nxM_10]
    rw [addC_10 (by decide) (by decide)]
    unfold tdM
    split
    · simp (disch := omega) only [up_k, h]
    · simp (disch := omega) only [up_k, h]
theorem rdM_10 (σ : Sg) : (rdM σ).2 10 2 = σ 10 2 := by
  have h1 : (rd1M σ).2 10 2 = σ 10 2 := by rw [rd1M, nnM_10, nxM_10]
  have h2 : (rd2M σ).2 10 2 = σ 10 2 := by rw [rd2M, tnM_10, nxM_10, h1]
  have h3 : (rd3M σ) 10 2 = σ 10 2 := by simp (disch := omega) only [rd3M, up_k, h2]
  have h4 : (rd4M σ).2 10 2 = σ 10 2 := by rw [rd4M, tqM_10, h3]
  have h5 : (rd5M σ).2 10 2 = σ 10 2 := by rw [rd5M, tgL_10, h4]
  unfold rdM
  split
  · simp only [flM_10]
  · split
    · split
      · split
        · split
          · exact rd_10 σ _ h5
          · exact h5
        · exact h4
      · exact h2
    · exact h1
theorem i32_succ (s : Int) : i32 (s + 1) = i32 (i32 s + 1) := by
  unfold i32
  rw [I32_add, I32_add, I32_of]
theorem addC_z {σ : Sg} {v : Int} (h : i32 (σ 10 2) ≤ 16) : i32 (addC σ 10 v 10 2) ≤ 16 := by
  unfold addC
  split
  · rename_i hc
    rw [up_s, i32_succ, i32_eq ⟨by omega, by omega⟩]
    omega
  · exact h
theorem rfM_z (σ : Sg) (hz : i32 (σ 10 2) ≤ 16) : i32 ((rfM σ).2 10 2) ≤ 16 := by
  have h1 : (rf1M σ).2 10 2 = σ 10 2 := by rw [rf1M, nnM_10, nxM_10]
  have h2 : (rf2M σ).2 10 2 = σ 10 2 := by rw [rf2M, tnM_10, h1]
  have h3 : (rf3M σ) 10 2 = σ 10 2 := by simp (disch := omega) only [rf3M, up_k, h2]
  have h4 : (rf4M σ).2 10 2 = σ 10 2 := by rw [rf4M, tnM_10, nxM_10, h3]
  have h5 : (rf5M σ).2 10 2 = σ 10 2 := by
    unfold rf5M
    split
    · split
      · simp (disch := omega) only [up_k, h4]
      · exact h4
    · exact h3
  have h6 : (rf6M (rf5M σ).2).2 10 2 = σ 10 2 := by rw [rf6M, tgL_10, up_k _ _ (by decide), h5]
  unfold rfM
  split
  · simp only [flM_10]; exact hz
  · split
    · split
      · split
        · unfold rfEM
          split
          · simp only [nxM_10]
            refine addC_z ?_
            rw [up_k _ _ (by decide), h6]
            exact hz
          · simp only [h6]; exact hz
        · simp only [h5]; exact hz
      · simp only [h2]; exact hz
    · simp only [h1]; exact hz
theorem tcM_10 (σ : Sg) : (tcM σ).2 10 2 = σ 10 2 := by
  have h1 : tc1M σ 10 2 = σ 10 2 := by simp (disch := omega) only [tc1M, tc0M, up_k]
  unfold tcM
  split
  · simp only [flM_10]
  · split
    · simp only [flM_10, h1]
    · simp (disch := omega) only [up_k, h1]
theorem mlL_10 : ∀ (n : Nat) (σ : Sg), (mlL n σ).2 10 2 = σ 10 2 := by
  intro n
  induction n with
  | zero => intro σ; rfl
  | succ n ih =>
    intro σ
    simp only [mlL]
    split
    · split
      · rw [ih, tcM_10, nxM_10]
      · simp only [tcM_10, nxM_10]
    · rfl
theorem mlM_10 (σ : Sg) : (mlM σ).2 10 2 = σ 10 2 := by
  unfold mlM
  split
  · simp only [flM_10]
  · split
    · unfold mlE
      split
      · simp only [nxM_10]
        rw [addC_10 (by decide) (by decide), mlL_10, nnM_10, nxM_10]
      · simp only [mlL_10, nnM_10, nxM_10]
    · simp only [nnM_10, nxM_10]
theorem tmM_10 (σ : Sg) (r : Int) : (tmM σ r).2 10 2 = σ 10 2 := by
  unfold tmM
  split
  · simp (disch := omega) only [nxM_10, up_k]
  · split
    · simp (disch := omega) only [nxM_10, up_k]
    · simp only [flM_10]
theorem apM_10 (σ : Sg) (r : Int) : (apM σ r).2 10 2 = σ 10 2 := by
  unfold apM
  split
  · simp (disch := omega) only [tmM_10, up_k, tnM_10]
  · simp only [tnM_10]
theorem spM_10 (σ : Sg) (r s lo : Int) : (spM σ r s lo).2 10 2 = σ 10 2 := by
  have h1 : sp1M σ r s lo 10 2 = σ 10 2 := by simp (disch := omega) only [sp1M, up_k, tnM_10]
  have h2 : (sp2M σ r s lo).2 10 2 = σ 10 2 := by rw [sp2M, tmM_10, h1]
  have h3 : (sp3M σ r s lo).2 10 2 = σ 10 2 := by rw [sp3M, tnM_10, nxM_10, h2]
  unfold spM
  split
  · split
    · split
      · simp (disch := omega) only [up_k, h3]
      · exact h3
    · exact h2
  · simp only [tnM_10]
theorem enM_10 (σ : Sg) (r : Int) : (enM σ r).2 10 2 = σ 10 2 := by
  have h2 : (en2M σ).2 10 2 = σ 10 2 := by rw [en2M, tnM_10, nxM_10, tnM_10]
  unfold enM
  split
  · split
    · simp (disch := omega) only [up_k, h2]
    · exact h2
  · simp only [tnM_10]
theorem rlM_10 (σ : Sg) : (rlM σ).2 10 2 = σ 10 2 := by
  have h1 : rl1M σ 10 2 = σ 10 2 := by simp (disch := omega) only [rl1M, rl0M, nxM_10, up_k]
  have h2 : (rl2M σ).2 10 2 = σ 10 2 := by
    unfold rl2M
    split
    · rw [apM_10, h1]
    · split
      · rw [spM_10, h1]
      · split
        · rw [spM_10, h1]
        · rw [enM_10, h1]
  unfold rlM
  split
  · simp only [flM_10]
  · split
    · simp (disch := omega) only [nxM_10, up_k, h2]
    · exact h2
def rpI (σ : Sg) : Bool × Sg := if KC σ (σ 51 6) = 0 then rfM σ else if KC σ (σ 51 6) = 1 then rdM σ else if KC σ (σ 51 6) = 5 then mlM σ else rlM σ
theorem rpI_z (σ : Sg) (hz : i32 (σ 10 2) ≤ 16) : i32 ((rpI σ).2 10 2) ≤ 16 := by
  unfold rpI
  split
  · exact rfM_z σ hz
  · split
    · rw [rdM_10]; exact hz
    · split
      · rw [mlM_10]; exact hz
      · rw [rlM_10]; exact hz
def rpL : Nat → Bool → Sg → Bool × Sg
  | 0, b, σ => (b, σ)
  | n + 1, b, σ => if b = true ∧ ¬ KC σ (σ 51 6) = 25 then rpL n (rpI σ).1 (rpI σ).2 else (b, σ)
def rpE (x : Bool × Sg) : Sg := if x.1 = true ∧ (i32 (x.2 12 2) = 0 ∨ i32 (x.2 14 2) = 0) then flM x.2 6 (x.2 51 6) else x.2
def rp0 (σ : Sg) : Sg := up (up (up σ 51 6 0) 51 7 0) 51 8 (-1)
def rpM (σ : Sg) : Sg := rpE (rpL 1500 true (rp0 σ))
set_option maxRecDepth 100000 in
set_option maxHeartbeats 4000000 in
theorem w_X2_readProgram {f : Fm}  : ∀ (n : Nat) (i : Int) (b : Bool) (σ : Sg) (r : Option Value) (σ1 : Sg), 0 ≤ i → i + n = 1500 → i32 (σ 10 2) ≤ 16 → r = some (.int (I32 ((rpE (rpL n b σ)) 51 7))) → σ1 = rpE (rpL n b σ) → AW l G f (RX2, cX2_readProgram, 3, (some .int)) (6, 0, 0) (QT G f 0 0 r σ1) [] 0 0 19 [(2, .int (I32 i)), (1, .int (I32 (b2i b))), (0, .ref (lay G 51))] [] σ := by
  intro n
  induction n using Nat.strongRecOn with | _ n ih =>
  intro i b σ r σ1 h0 hn hz hr hs
  refine A_iload_n dX2_readProgram_19 rfl 0 rfl ?_
  refine A_sipush dX2_readProgram_20 (by decide +kernel) ?_
  refine J_icmp_ge (tgt := 119) dX2_readProgram_23 (by decide) (by first | with_reducible exact i32_eq (KC_inr _ _) | with_reducible exact idxC_i32 _ _ _ | exact i32_eq (by assumption) | exact i32_eq ⟨by omega, by omega⟩ | with_reducible exact i32_i32 _ | rfl) (by first | with_reducible exact i32_eq (KC_inr _ _) | with_reducible exact idxC_i32 _ _ _ | exact i32_eq (by assumption) | exact i32_eq ⟨by omega, by omega⟩ | with_reducible exact i32_i32 _ | rfl) (fun h23 => ?_) (fun h23 => ?_)
  · refine A_iload_n dX2_readProgram_119 rfl 1 rfl ?_
    refine A_ifeq_b (tgt := 160) dX2_readProgram_120 (by decide) (fun h120 => ?_) (fun h120 => ?_)
    · refine A_aload_n dX2_readProgram_160 rfl 2 rfl ?_
      refine A_geti fl_X2_37 lk_51 rfl dX2_readProgram_161 ?_
      try simp (disch := omega) only [up_k, up_j, up_s, nxM_at, VC_nx, KC_nx, up_k, up_j, up_s]
      exact A_iret dX2_readProgram_164 (by rw [hr]; clear ih; rcases n with _ | n <;> simp only [rpL, rpE] <;> (repeat' split) <;> first | contradiction | (exfalso; omega) | rfl | (simp_all; done) | (simp_all [flM]; done)) (by rw [hs]; clear ih; rcases n with _ | n <;> simp only [rpL, rpE] <;> (repeat' split) <;> first | contradiction | (exfalso; omega) | with_reducible rfl | (simp_all; done) | (simp_all [flM]; done))
    · refine A_aload_n dX2_readProgram_123 rfl 2 rfl ?_
      refine A_getr fl_X2_25 lk_51 rfl dX2_readProgram_124 ?_
      refine A_getr fl_X2_68 lk_9 rfl dX2_readProgram_127 ?_
      refine A_geti fl_X2_74 lk_12 rfl dX2_readProgram_130 ?_
      try simp (disch := omega) only [up_k, up_j, up_s, nxM_at, VC_nx, KC_nx, up_k, up_j, up_s]
      refine J_if_eq (tgt := 149) dX2_readProgram_133 (by decide) (by first | with_reducible exact i32_eq (KC_inr _ _) | with_reducible exact idxC_i32 _ _ _ | exact i32_eq (by assumption) | exact i32_eq ⟨by omega, by omega⟩ | with_reducible exact i32_i32 _ | rfl) (fun h133 => ?_) (fun h133 => ?_)
      · refine A_aload_n dX2_readProgram_149 rfl 2 rfl ?_
        refine A_bipush dX2_readProgram_150 (by decide +kernel) ?_
        refine A_aload_n dX2_readProgram_152 rfl 2 rfl ?_
        refine A_geti fl_X2_33 lk_51 rfl dX2_readProgram_153 ?_
        try simp (disch := omega) only [up_k, up_j, up_s, nxM_at, VC_nx, KC_nx, up_k, up_j, up_s]
        refine A_Va2 mv_X2_82 lk_51 rfl rfl (c_X2_fail _ _ _) (Nat.le_of_ble_eq_true rfl) (by omega) (by omega) dX2_readProgram_156 ?_
        try simp (disch := omega) only [nxM_at, VC_nx, KC_nx, up_k, up_j, up_s]
        refine A_pop dX2_readProgram_159 rfl ?_
        refine A_aload_n dX2_readProgram_160 rfl 2 rfl ?_
        refine A_geti fl_X2_37 lk_51 rfl dX2_readProgram_161 ?_
        try simp (disch := omega) only [up_k, up_j, up_s, nxM_at, VC_nx, KC_nx, up_k, up_j, up_s]
        exact A_iret dX2_readProgram_164 (by rw [hr]; clear ih; rcases n with _ | n <;> simp only [rpL, rpE] <;> (repeat' split) <;> first | contradiction | (exfalso; omega) | rfl | (simp_all; done) | (simp_all [flM]; done)) (by rw [hs]; clear ih; rcases n with _ | n <;> simp only [rpL, rpE] <;> (repeat' split) <;> first | contradiction | (exfalso; omega) | with_reducible rfl | (simp_all; done) | (simp_all [flM]; done))
      · refine A_aload_n dX2_readProgram_136 rfl 2 rfl ?_
        refine A_getr fl_X2_25 lk_51 rfl dX2_readProgram_137 ?_
        refine A_getr fl_X2_79 lk_9 rfl dX2_readProgram_140 ?_
        refine A_geti fl_X2_74 lk_14 rfl dX2_readProgram_143 ?_
        try simp (disch := omega) only [up_k, up_j, up_s, nxM_at, VC_nx, KC_nx, up_k, up_j, up_s]
        refine J_if_ne (tgt := 160) dX2_readProgram_146 (by decide) (by first | with_reducible exact i32_eq (KC_inr _ _) | with_reducible exact idxC_i32 _ _ _ | exact i32_eq (by assumption) | exact i32_eq ⟨by omega, by omega⟩ | with_reducible exact i32_i32 _ | rfl) (fun h146 => ?_) (fun h146 => ?_)
        · refine A_aload_n dX2_readProgram_160 rfl 2 rfl ?_
          refine A_geti fl_X2_37 lk_51 rfl dX2_readProgram_161 ?_
          try simp (disch := omega) only [up_k, up_j, up_s, nxM_at, VC_nx, KC_nx, up_k, up_j, up_s]
          exact A_iret dX2_readProgram_164 (by rw [hr]; clear ih; rcases n with _ | n <;> simp only [rpL, rpE] <;> (repeat' split) <;> first | contradiction | (exfalso; omega) | rfl | (simp_all; done) | (simp_all [flM]; done)) (by rw [hs]; clear ih; rcases n with _ | n <;> simp only [rpL, rpE] <;> (repeat' split) <;> first | contradiction | (exfalso; omega) | with_reducible rfl | (simp_all; done) | (simp_all [flM]; done))
        · refine A_aload_n dX2_readProgram_149 rfl 2 rfl ?_
          refine A_bipush dX2_readProgram_150 (by decide +kernel) ?_
          refine A_aload_n dX2_readProgram_152 rfl 2 rfl ?_
          refine A_geti fl_X2_33 lk_51 rfl dX2_readProgram_153 ?_
          try simp (disch := omega) only [up_k, up_j, up_s, nxM_at, VC_nx, KC_nx, up_k, up_j, up_s]
          refine A_Va2 mv_X2_82 lk_51 rfl rfl (c_X2_fail _ _ _) (Nat.le_of_ble_eq_true rfl) (by omega) (by omega) dX2_readProgram_156 ?_
          try simp (disch := omega) only [nxM_at, VC_nx, KC_nx, up_k, up_j, up_s]
          refine A_pop dX2_readProgram_159 rfl ?_
          refine A_aload_n dX2_readProgram_160 rfl 2 rfl ?_
          refine A_geti fl_X2_37 lk_51 rfl dX2_readProgram_161 ?_
          try simp (disch := omega) only [up_k, up_j, up_s, nxM_at, VC_nx, KC_nx, up_k, up_j, up_s]
          exact A_iret dX2_readProgram_164 (by rw [hr]; clear ih; rcases n with _ | n <;> simp only [rpL, rpE] <;> (repeat' split) <;> first | contradiction | (exfalso; omega) | rfl | (simp_all; done) | (simp_all [flM]; done)) (by rw [hs]; clear ih; rcases n with _ | n <;> simp only [rpL, rpE] <;> (repeat' split) <;> first | contradiction | (exfalso; omega) | with_reducible rfl | (simp_all; done) | (simp_all [flM]; done))
  · refine A_iload_n dX2_readProgram_26 rfl 1 rfl ?_
    refine A_ifeq_b (tgt := 119) dX2_readProgram_27 (by decide) (fun h27 => ?_) (fun h27 => ?_)
    · refine A_iload_n dX2_readProgram_119 rfl 1 rfl ?_
      refine A_ifeq_b (tgt := 160) dX2_readProgram_120 (by decide) (fun h120 => ?_) (fun h120 => ?_)
      · refine A_aload_n dX2_readProgram_160 rfl 2 rfl ?_
        refine A_geti fl_X2_37 lk_51 rfl dX2_readProgram_161 ?_
        try simp (disch := omega) only [up_k, up_j, up_s, nxM_at, VC_nx, KC_nx, up_k, up_j, up_s]
        exact A_iret dX2_readProgram_164 (by rw [hr]; clear ih; rcases n with _ | n <;> simp only [rpL, rpE] <;> (repeat' split) <;> first | contradiction | (exfalso; omega) | rfl | (simp_all; done) | (simp_all [flM]; done)) (by rw [hs]; clear ih; rcases n with _ | n <;> simp only [rpL, rpE] <;> (repeat' split) <;> first | contradiction | (exfalso; omega) | with_reducible rfl | (simp_all; done) | (simp_all [flM]; done))
      · refine A_aload_n dX2_readProgram_123 rfl 2 rfl ?_
        refine A_getr fl_X2_25 lk_51 rfl dX2_readProgram_124 ?_
        refine A_getr fl_X2_68 lk_9 rfl dX2_readProgram_127 ?_
        refine A_geti fl_X2_74 lk_12 rfl dX2_readProgram_130 ?_
        try simp (disch := omega) only [up_k, up_j, up_s, nxM_at, VC_nx, KC_nx, up_k, up_j, up_s]
        refine J_if_eq (tgt := 149) dX2_readProgram_133 (by decide) (by first | with_reducible exact i32_eq (KC_inr _ _) | with_reducible exact idxC_i32 _ _ _ | exact i32_eq (by assumption) | exact i32_eq ⟨by omega, by omega⟩ | with_reducible exact i32_i32 _ | rfl) (fun h133 => ?_) (fun h133 => ?_)
        · refine A_aload_n dX2_readProgram_149 rfl 2 rfl ?_
          refine A_bipush dX2_readProgram_150 (by decide +kernel) ?_
          refine A_aload_n dX2_readProgram_152 rfl 2 rfl ?_
          refine A_geti fl_X2_33 lk_51 rfl dX2_readProgram_153 ?_
          try simp (disch := omega) only [up_k, up_j, up_s, nxM_at, VC_nx, KC_nx, up_k, up_j, up_s]
          refine A_Va2 mv_X2_82 lk_51 rfl rfl (c_X2_fail _ _ _) (Nat.le_of_ble_eq_true rfl) (by omega) (by omega) dX2_readProgram_156 ?_
          try simp (disch := omega) only [nxM_at, VC_nx, KC_nx, up_k, up_j, up_s]
          refine A_pop dX2_readProgram_159 rfl ?_
          refine A_aload_n dX2_readProgram_160 rfl 2 rfl ?_
          refine A_geti fl_X2_37 lk_51 rfl dX2_readProgram_161 ?_
          try simp (disch := omega) only [up_k, up_j, up_s, nxM_at, VC_nx, KC_nx, up_k, up_j, up_s]
          exact A_iret dX2_readProgram_164 (by rw [hr]; clear ih; rcases n with _ | n <;> simp only [rpL, rpE] <;> (repeat' split) <;> first | contradiction | (exfalso; omega) | rfl | (simp_all; done) | (simp_all [flM]; done)) (by rw [hs]; clear ih; rcases n with _ | n <;> simp only [rpL, rpE] <;> (repeat' split) <;> first | contradiction | (exfalso; omega) | with_reducible rfl | (simp_all; done) | (simp_all [flM]; done))
        · refine A_aload_n dX2_readProgram_136 rfl 2 rfl ?_
          refine A_getr fl_X2_25 lk_51 rfl dX2_readProgram_137 ?_
          refine A_getr fl_X2_79 lk_9 rfl dX2_readProgram_140 ?_
          refine A_geti fl_X2_74 lk_14 rfl dX2_readProgram_143 ?_
          try simp (disch := omega) only [up_k, up_j, up_s, nxM_at, VC_nx, KC_nx, up_k, up_j, up_s]
          refine J_if_ne (tgt := 160) dX2_readProgram_146 (by decide) (by first | with_reducible exact i32_eq (KC_inr _ _) | with_reducible exact idxC_i32 _ _ _ | exact i32_eq (by assumption) | exact i32_eq ⟨by omega, by omega⟩ | with_reducible exact i32_i32 _ | rfl) (fun h146 => ?_) (fun h146 => ?_)
          · refine A_aload_n dX2_readProgram_160 rfl 2 rfl ?_
            refine A_geti fl_X2_37 lk_51 rfl dX2_readProgram_161 ?_
            try simp (disch := omega) only [up_k, up_j, up_s, nxM_at, VC_nx, KC_nx, up_k, up_j, up_s]
            exact A_iret dX2_readProgram_164 (by rw [hr]; clear ih; rcases n with _ | n <;> simp only [rpL, rpE] <;> (repeat' split) <;> first | contradiction | (exfalso; omega) | rfl | (simp_all; done) | (simp_all [flM]; done)) (by rw [hs]; clear ih; rcases n with _ | n <;> simp only [rpL, rpE] <;> (repeat' split) <;> first | contradiction | (exfalso; omega) | with_reducible rfl | (simp_all; done) | (simp_all [flM]; done))
          · refine A_aload_n dX2_readProgram_149 rfl 2 rfl ?_
            refine A_bipush dX2_readProgram_150 (by decide +kernel) ?_
            refine A_aload_n dX2_readProgram_152 rfl 2 rfl ?_
            refine A_geti fl_X2_33 lk_51 rfl dX2_readProgram_153 ?_
            try simp (disch := omega) only [up_k, up_j, up_s, nxM_at, VC_nx, KC_nx, up_k, up_j, up_s]
            refine A_Va2 mv_X2_82 lk_51 rfl rfl (c_X2_fail _ _ _) (Nat.le_of_ble_eq_true rfl) (by omega) (by omega) dX2_readProgram_156 ?_
            try simp (disch := omega) only [nxM_at, VC_nx, KC_nx, up_k, up_j, up_s]
            refine A_pop dX2_readProgram_159 rfl ?_
            refine A_aload_n dX2_readProgram_160 rfl 2 rfl ?_
            refine A_geti fl_X2_37 lk_51 rfl dX2_readProgram_161 ?_
            try simp (disch := omega) only [up_k, up_j, up_s, nxM_at, VC_nx, KC_nx, up_k, up_j, up_s]
            exact A_iret dX2_readProgram_164 (by rw [hr]; clear ih; rcases n with _ | n <;> simp only [rpL, rpE] <;> (repeat' split) <;> first | contradiction | (exfalso; omega) | rfl | (simp_all; done) | (simp_all [flM]; done)) (by rw [hs]; clear ih; rcases n with _ | n <;> simp only [rpL, rpE] <;> (repeat' split) <;> first | contradiction | (exfalso; omega) | with_reducible rfl | (simp_all; done) | (simp_all [flM]; done))
    · refine A_aload_n dX2_readProgram_30 rfl 2 rfl ?_
      refine A_bipush dX2_readProgram_31 (by decide +kernel) ?_
      refine A_Va1 mv_X2_47 lk_51 rfl rfl (c_X2_isKind _ _ ⟨by decide, by decide⟩) (Nat.le_of_ble_eq_true rfl) (by omega) (by omega) dX2_readProgram_33 ?_
      try simp (disch := omega) only [nxM_at, VC_nx, KC_nx, up_k, up_j, up_s]
      refine A_ifne_b (tgt := 119) dX2_readProgram_36 (by decide) (fun h36 => ?_) (fun h36 => ?_)
      · refine A_iload_n dX2_readProgram_119 rfl 1 rfl ?_
        refine A_ifeq_b (tgt := 160) dX2_readProgram_120 (by decide) (fun h120 => ?_) (fun h120 => ?_)
        · refine A_aload_n dX2_readProgram_160 rfl 2 rfl ?_
          refine A_geti fl_X2_37 lk_51 rfl dX2_readProgram_161 ?_
          try simp (disch := omega) only [up_k, up_j, up_s, nxM_at, VC_nx, KC_nx, up_k, up_j, up_s]
          exact A_iret dX2_readProgram_164 (by rw [hr]; clear ih; rcases n with _ | n <;> simp only [rpL, rpE] <;> (repeat' split) <;> first | contradiction | (exfalso; omega) | rfl | (simp_all; done) | (simp_all [flM]; done)) (by rw [hs]; clear ih; rcases n with _ | n <;> simp only [rpL, rpE] <;> (repeat' split) <;> first | contradiction | (exfalso; omega) | with_reducible rfl | (simp_all; done) | (simp_all [flM]; done))
        · refine A_aload_n dX2_readProgram_123 rfl 2 rfl ?_
          refine A_getr fl_X2_25 lk_51 rfl dX2_readProgram_124 ?_
          refine A_getr fl_X2_68 lk_9 rfl dX2_readProgram_127 ?_
          refine A_geti fl_X2_74 lk_12 rfl dX2_readProgram_130 ?_
          try simp (disch := omega) only [up_k, up_j, up_s, nxM_at, VC_nx, KC_nx, up_k, up_j, up_s]
          refine J_if_eq (tgt := 149) dX2_readProgram_133 (by decide) (by first | with_reducible exact i32_eq (KC_inr _ _) | with_reducible exact idxC_i32 _ _ _ | exact i32_eq (by assumption) | exact i32_eq ⟨by omega, by omega⟩ | with_reducible exact i32_i32 _ | rfl) (fun h133 => ?_) (fun h133 => ?_)
          · refine A_aload_n dX2_readProgram_149 rfl 2 rfl ?_
            refine A_bipush dX2_readProgram_150 (by decide +kernel) ?_
            refine A_aload_n dX2_readProgram_152 rfl 2 rfl ?_
            refine A_geti fl_X2_33 lk_51 rfl dX2_readProgram_153 ?_
            try simp (disch := omega) only [up_k, up_j, up_s, nxM_at, VC_nx, KC_nx, up_k, up_j, up_s]
            refine A_Va2 mv_X2_82 lk_51 rfl rfl (c_X2_fail _ _ _) (Nat.le_of_ble_eq_true rfl) (by omega) (by omega) dX2_readProgram_156 ?_
            try simp (disch := omega) only [nxM_at, VC_nx, KC_nx, up_k, up_j, up_s]
            refine A_pop dX2_readProgram_159 rfl ?_
            refine A_aload_n dX2_readProgram_160 rfl 2 rfl ?_
            refine A_geti fl_X2_37 lk_51 rfl dX2_readProgram_161 ?_
            try simp (disch := omega) only [up_k, up_j, up_s, nxM_at, VC_nx, KC_nx, up_k, up_j, up_s]
            exact A_iret dX2_readProgram_164 (by rw [hr]; clear ih; rcases n with _ | n <;> simp only [rpL, rpE] <;> (repeat' split) <;> first | contradiction | (exfalso; omega) | rfl | (simp_all; done) | (simp_all [flM]; done)) (by rw [hs]; clear ih; rcases n with _ | n <;> simp only [rpL, rpE] <;> (repeat' split) <;> first | contradiction | (exfalso; omega) | with_reducible rfl | (simp_all; done) | (simp_all [flM]; done))
          · refine A_aload_n dX2_readProgram_136 rfl 2 rfl ?_
            refine A_getr fl_X2_25 lk_51 rfl dX2_readProgram_137 ?_
            refine A_getr fl_X2_79 lk_9 rfl dX2_readProgram_140 ?_
            refine A_geti fl_X2_74 lk_14 rfl dX2_readProgram_143 ?_
            try simp (disch := omega) only [up_k, up_j, up_s, nxM_at, VC_nx, KC_nx, up_k, up_j, up_s]
            refine J_if_ne (tgt := 160) dX2_readProgram_146 (by decide) (by first | with_reducible exact i32_eq (KC_inr _ _) | with_reducible exact idxC_i32 _ _ _ | exact i32_eq (by assumption) | exact i32_eq ⟨by omega, by omega⟩ | with_reducible exact i32_i32 _ | rfl) (fun h146 => ?_) (fun h146 => ?_)
            · refine A_aload_n dX2_readProgram_160 rfl 2 rfl ?_
              refine A_geti fl_X2_37 lk_51 rfl dX2_readProgram_161 ?_
              try simp (disch := omega) only [up_k, up_j, up_s, nxM_at, VC_nx, KC_nx, up_k, up_j, up_s]
              exact A_iret dX2_readProgram_164 (by rw [hr]; clear ih; rcases n with _ | n <;> simp only [rpL, rpE] <;> (repeat' split) <;> first | contradiction | (exfalso; omega) | rfl | (simp_all; done) | (simp_all [flM]; done)) (by rw [hs]; clear ih; rcases n with _ | n <;> simp only [rpL, rpE] <;> (repeat' split) <;> first | contradiction | (exfalso; omega) | with_reducible rfl | (simp_all; done) | (simp_all [flM]; done))
            · refine A_aload_n dX2_readProgram_149 rfl 2 rfl ?_
              refine A_bipush dX2_readProgram_150 (by decide +kernel) ?_
              refine A_aload_n dX2_readProgram_152 rfl 2 rfl ?_
              refine A_geti fl_X2_33 lk_51 rfl dX2_readProgram_153 ?_
              try simp (disch := omega) only [up_k, up_j, up_s, nxM_at, VC_nx, KC_nx, up_k, up_j, up_s]
              refine A_Va2 mv_X2_82 lk_51 rfl rfl (c_X2_fail _ _ _) (Nat.le_of_ble_eq_true rfl) (by omega) (by omega) dX2_readProgram_156 ?_
              try simp (disch := omega) only [nxM_at, VC_nx, KC_nx, up_k, up_j, up_s]
              refine A_pop dX2_readProgram_159 rfl ?_
              refine A_aload_n dX2_readProgram_160 rfl 2 rfl ?_
              refine A_geti fl_X2_37 lk_51 rfl dX2_readProgram_161 ?_
              try simp (disch := omega) only [up_k, up_j, up_s, nxM_at, VC_nx, KC_nx, up_k, up_j, up_s]
              exact A_iret dX2_readProgram_164 (by rw [hr]; clear ih; rcases n with _ | n <;> simp only [rpL, rpE] <;> (repeat' split) <;> first | contradiction | (exfalso; omega) | rfl | (simp_all; done) | (simp_all [flM]; done)) (by rw [hs]; clear ih; rcases n with _ | n <;> simp only [rpL, rpE] <;> (repeat' split) <;> first | contradiction | (exfalso; omega) | with_reducible rfl | (simp_all; done) | (simp_all [flM]; done))
      · refine A_aload_n dX2_readProgram_39 rfl 2 rfl ?_
        refine A_getr fl_X2_21 lk_51 rfl dX2_readProgram_40 ?_
        refine A_aload_n dX2_readProgram_43 rfl 2 rfl ?_
        refine A_geti fl_X2_33 lk_51 rfl dX2_readProgram_44 ?_
        try simp (disch := omega) only [up_k, up_j, up_s, nxM_at, VC_nx, KC_nx, up_k, up_j, up_s]
        refine A_Va1 mv_X2_51 lk_3 rfl rfl (c_X9_kindOf _ _) (Nat.le_of_ble_eq_true rfl) (by omega) (by omega) dX2_readProgram_47 ?_
        try simp (disch := omega) only [nxM_at, VC_nx, KC_nx, up_k, up_j, up_s]
        by_cases h50_0 : KC σ (σ 51 6) = 0
        · refine J_ls (tgt := 84) dX2_readProgram_50 rfl (by decide) ((i32_eq (KC_inr _ _)).trans h50_0) (off := 34) (by decide) (by decide) ?_
          refine A_aload_n dX2_readProgram_84 rfl 2 rfl ?_
          refine A_Va0 mv_X2_55 lk_51 rfl rfl (c_X2_readFood _) (Nat.le_of_ble_eq_true rfl) (by omega) (by omega) dX2_readProgram_85 ?_
          try simp (disch := omega) only [nxM_at, VC_nx, KC_nx, up_k, up_j, up_s]
          have ei : rfM σ = rpI σ := by simp only [rpI]; rw [if_pos h50_0]
          rw [ei]
          refine A_istore_n (lv2 := [(1, _), (2, _), (0, _)]) dX2_readProgram_88 rfl (by decide) rfl ?_
          refine A_goto (tgt := 113) dX2_readProgram_89 (by decide) ?_
          refine A_iinc (lv2 := [(2, _), (1, _), (0, _)]) dX2_readProgram_113 1 rfl (by decide) rfl ?_
          refine A_goto (tgt := 19) dX2_readProgram_116 (by decide) ?_
          refine A_lv [0, 1, 2] rfl ?_
          exact ih (n - 1) (by omega) (i + 1) _ _ r σ1 (by omega) (by omega) (rpI_z σ hz) (by rw [hr]; clear ih; obtain ⟨n, rfl⟩ : ∃ q, n = q + 1 := ⟨n - 1, by omega⟩; simp only [rpL, Nat.add_sub_cancel]; rw [if_pos ⟨h27, of_decide_eq_false h36⟩]) (by rw [hs]; clear ih; obtain ⟨n, rfl⟩ : ∃ q, n = q + 1 := ⟨n - 1, by omega⟩; simp only [rpL, Nat.add_sub_cancel]; rw [if_pos ⟨h27, of_decide_eq_false h36⟩])
        by_cases h50_1 : KC σ (σ 51 6) = 1
        · refine J_ls (tgt := 92) dX2_readProgram_50 rfl (by decide) ((i32_eq (KC_inr _ _)).trans h50_1) (off := 42) (by decide) (by decide) ?_
          refine A_aload_n dX2_readProgram_92 rfl 2 rfl ?_
          refine A_Va0 mv_X2_59 lk_51 rfl rfl (c_X2_readDish _ hz) (Nat.le_of_ble_eq_true rfl) (by omega) (by omega) dX2_readProgram_93 ?_
          try simp (disch := omega) only [nxM_at, VC_nx, KC_nx, up_k, up_j, up_s]
          have ei : rdM σ = rpI σ := by simp only [rpI]; rw [if_neg h50_0, if_pos h50_1]
          rw [ei]
          refine A_istore_n (lv2 := [(1, _), (2, _), (0, _)]) dX2_readProgram_96 rfl (by decide) rfl ?_
          refine A_goto (tgt := 113) dX2_readProgram_97 (by decide) ?_
          refine A_iinc (lv2 := [(2, _), (1, _), (0, _)]) dX2_readProgram_113 1 rfl (by decide) rfl ?_
          refine A_goto (tgt := 19) dX2_readProgram_116 (by decide) ?_
          refine A_lv [0, 1, 2] rfl ?_
          exact ih (n - 1) (by omega) (i + 1) _ _ r σ1 (by omega) (by omega) (rpI_z σ hz) (by rw [hr]; clear ih; obtain ⟨n, rfl⟩ : ∃ q, n = q + 1 := ⟨n - 1, by omega⟩; simp only [rpL, Nat.add_sub_cancel]; rw [if_pos ⟨h27, of_decide_eq_false h36⟩]) (by rw [hs]; clear ih; obtain ⟨n, rfl⟩ : ∃ q, n = q + 1 := ⟨n - 1, by omega⟩; simp only [rpL, Nat.add_sub_cancel]; rw [if_pos ⟨h27, of_decide_eq_false h36⟩])
        by_cases h50_5 : KC σ (σ 51 6) = 5
        · refine J_ls (tgt := 100) dX2_readProgram_50 rfl (by decide) ((i32_eq (KC_inr _ _)).trans h50_5) (off := 50) (by decide) (by decide) ?_
          refine A_aload_n dX2_readProgram_100 rfl 2 rfl ?_
          refine A_Va0 mv_X2_62 lk_51 rfl rfl (c_X2_readMeal _) (Nat.le_of_ble_eq_true rfl) (by omega) (by omega) dX2_readProgram_101 ?_
          try simp (disch := omega) only [nxM_at, VC_nx, KC_nx, up_k, up_j, up_s]
          have ei : mlM σ = rpI σ := by simp only [rpI]; rw [if_neg h50_0, if_neg h50_1, if_pos h50_5]
          rw [ei]
          refine A_istore_n (lv2 := [(1, _), (2, _), (0, _)]) dX2_readProgram_104 rfl (by decide) rfl ?_
          refine A_goto (tgt := 113) dX2_readProgram_105 (by decide) ?_
          refine A_iinc (lv2 := [(2, _), (1, _), (0, _)]) dX2_readProgram_113 1 rfl (by decide) rfl ?_
          refine A_goto (tgt := 19) dX2_readProgram_116 (by decide) ?_
          refine A_lv [0, 1, 2] rfl ?_
          exact ih (n - 1) (by omega) (i + 1) _ _ r σ1 (by omega) (by omega) (rpI_z σ hz) (by rw [hr]; clear ih; obtain ⟨n, rfl⟩ : ∃ q, n = q + 1 := ⟨n - 1, by omega⟩; simp only [rpL, Nat.add_sub_cancel]; rw [if_pos ⟨h27, of_decide_eq_false h36⟩]) (by rw [hs]; clear ih; obtain ⟨n, rfl⟩ : ∃ q, n = q + 1 := ⟨n - 1, by omega⟩; simp only [rpL, Nat.add_sub_cancel]; rw [if_pos ⟨h27, of_decide_eq_false h36⟩])
        refine J_ls (tgt := 108) dX2_readProgram_50 rfl (by decide) (i32_eq (KC_inr _ _)) (off := 58) (by simp only [Op.lookupswitch.offset_cons, Op.lookupswitch.offset_nil]; rw [if_neg (by omega), if_neg (by omega), if_neg (by omega)]) (by decide) ?_
        refine A_aload_n dX2_readProgram_108 rfl 2 rfl ?_
        refine A_Va0 mv_X2_65 lk_51 rfl rfl (c_X2_readRule _) (Nat.le_of_ble_eq_true rfl) (by omega) (by omega) dX2_readProgram_109 ?_
        try simp (disch := omega) only [nxM_at, VC_nx, KC_nx, up_k, up_j, up_s]
        have ei : rlM σ = rpI σ := by simp only [rpI]; rw [if_neg h50_0, if_neg h50_1, if_neg h50_5]
        rw [ei]
        refine A_istore_n (lv2 := [(1, _), (2, _), (0, _)]) dX2_readProgram_112 rfl (by decide) rfl ?_
        refine A_iinc (lv2 := [(2, _), (1, _), (0, _)]) dX2_readProgram_113 1 rfl (by decide) rfl ?_
        refine A_goto (tgt := 19) dX2_readProgram_116 (by decide) ?_
        refine A_lv [0, 1, 2] rfl ?_
        exact ih (n - 1) (by omega) (i + 1) _ _ r σ1 (by omega) (by omega) (rpI_z σ hz) (by rw [hr]; clear ih; obtain ⟨n, rfl⟩ : ∃ q, n = q + 1 := ⟨n - 1, by omega⟩; simp only [rpL, Nat.add_sub_cancel]; rw [if_pos ⟨h27, of_decide_eq_false h36⟩]) (by rw [hs]; clear ih; obtain ⟨n, rfl⟩ : ∃ q, n = q + 1 := ⟨n - 1, by omega⟩; simp only [rpL, Nat.add_sub_cancel]; rw [if_pos ⟨h27, of_decide_eq_false h36⟩])
set_option maxRecDepth 100000 in
set_option maxHeartbeats 4000000 in
theorem c_X2_readProgram (σ : Sg) (hz : i32 (σ 10 2) ≤ 16) : Ct l G yX2_readProgram cX2_readProgram 3 (some .int) 6 0 0 [.ref (lay G 51)] σ (some (.int (I32 (rpM σ 51 7)))) (rpM σ) := by
  refine Ct.of (by decide +kernel) (Nat.le_of_ble_eq_true rfl) (fun f => ?_)
  show AW _ _ _ _ _ _ _ _ _ _ [(0, _)] _ _
  refine A_aload_n dX2_readProgram_0 rfl 0 rfl ?_
  refine A_iconst dX2_readProgram_1 ?_
  refine A_puti fl_X2_33 lk_51 rfl dX2_readProgram_2 ?_
  refine A_aload_n dX2_readProgram_5 rfl 0 rfl ?_
  refine A_iconst dX2_readProgram_6 ?_
  refine A_puti fl_X2_37 lk_51 rfl dX2_readProgram_7 ?_
  refine A_aload_n dX2_readProgram_10 rfl 0 rfl ?_
  refine A_iconst dX2_readProgram_11 ?_
  refine A_puti fl_X2_40 lk_51 rfl dX2_readProgram_12 ?_
  refine A_iconst dX2_readProgram_15 ?_
  refine A_istore_n (lv2 := [(1, _), (0, _)]) dX2_readProgram_16 rfl (by decide) rfl ?_
  refine A_iconst dX2_readProgram_17 ?_
  refine A_istore_n (lv2 := [(2, _), (1, _), (0, _)]) dX2_readProgram_18 rfl (by decide) rfl ?_
  refine A_lv [0, 1, 2] rfl ?_
  exact w_X2_readProgram 1500 0 true _ _ _ (by omega) (by omega) (by simp (disch := omega) only [up_k]; exact hz) rfl rfl
def fd1 (c : Int) (a : Sg) : Sg := up (suS a (a 52 c.toNat) (a 53 c.toNat)) 33 c.toNat (suV a (a 52 c.toNat) (a 53 c.toNat))
def fd2 (r : Int) (a : Sg) : Sg := if i32 (a 54 r.toNat) = -1 then a else up a 22 r.toNat (dwtC a (a 54 r.toNat))
def fdM (σ : Sg) : Sg := fG (fun i a => decide (i < i32 (a 18 4) ∧ i < 8)) fd2 8 0 (fG (fun i a => decide (i < i32 (a 9 16) ∧ i < 8)) fd1 8 0 σ)
set_option maxRecDepth 100000 in
set_option maxHeartbeats 4000000 in
theorem w_X2_fd2 {f : Fm} {Q : State → Prop} {xs : va_W} {kk nn rc rs : Nat}  (hm : kk ≤ rc ∧ nn ≤ rs) : ∀ (n : Nat) (i : Int) (a : Sg), 0 ≤ i → inr i → i + n = 8 → AW l G f (RX2, cX2_findMeantDishes, 2, none) (23, rc, rs) Q xs kk nn 53 [(0, .ref (lay G 51))] [] ((fG (fun i a => decide (i < i32 (a 9 16) ∧ i < 8)) fd1 n i a)) → AW l G f (RX2, cX2_findMeantDishes, 2, none) (23, rc, rs) Q xs kk nn 2 [(1, .int (I32 i)), (0, .ref (lay G 51))] [] (a) := by
  intro n
  induction n using Nat.strongRecOn with | _ n ih =>
  intro i a h0 hii hn  hK
  obtain ⟨hi1, hi2⟩ := hii
  refine A_iload_n dX2_findMeantDishes_2 rfl 0 rfl ?_
  refine A_aload_n dX2_findMeantDishes_3 rfl 1 rfl ?_
  refine A_getr fl_X2_25 lk_51 rfl dX2_findMeantDishes_4 ?_
  refine A_geti fl_X2_188 lk_9 rfl dX2_findMeantDishes_7 ?_
  try simp (disch := omega) only [up_k, up_j, up_s, up_k, up_j, up_s]
  refine J_icmp_ge (tgt := 53) dX2_findMeantDishes_10 (by decide) (by first | with_reducible exact i32_eq (KC_inr _ _) | with_reducible exact idxC_i32 _ _ _ | exact i32_eq (by assumption) | exact i32_eq ⟨by omega, by omega⟩ | with_reducible exact i32_i32 _ | rfl) (by first | with_reducible exact i32_eq (KC_inr _ _) | with_reducible exact idxC_i32 _ _ _ | exact i32_eq (by assumption) | exact i32_eq ⟨by omega, by omega⟩ | with_reducible exact i32_i32 _ | rfl) (fun h10 => ?_) (fun h10 => ?_)
  · refine A_lv [1] rfl ?_
    clear ih
    rcases n with _ | n <;> simp only [fG, decide_eq_true_eq] at hK <;> (repeat' split at hK) <;> first | contradiction | (exfalso; omega) | exact hK | (simp_all; done)
  · refine A_iload_n dX2_findMeantDishes_13 rfl 0 rfl ?_
    refine A_bipush dX2_findMeantDishes_14 (by decide +kernel) ?_
    refine J_icmp_ge (tgt := 53) dX2_findMeantDishes_16 (by decide) (by first | with_reducible exact i32_eq (KC_inr _ _) | with_reducible exact idxC_i32 _ _ _ | exact i32_eq (by assumption) | exact i32_eq ⟨by omega, by omega⟩ | with_reducible exact i32_i32 _ | rfl) (by first | with_reducible exact i32_eq (KC_inr _ _) | with_reducible exact idxC_i32 _ _ _ | exact i32_eq (by assumption) | exact i32_eq ⟨by omega, by omega⟩ | with_reducible exact i32_i32 _ | rfl) (fun h16 => ?_) (fun h16 => ?_)
    · refine A_lv [1] rfl ?_
      clear ih
      rcases n with _ | n <;> simp only [fG, decide_eq_true_eq] at hK <;> (repeat' split at hK) <;> first | contradiction | (exfalso; omega) | exact hK | (simp_all; done)
    · refine A_aload_n dX2_findMeantDishes_19 rfl 1 rfl ?_
      refine A_getr fl_X2_25 lk_51 rfl dX2_findMeantDishes_20 ?_
      refine A_getr fl_X2_231 lk_9 rfl dX2_findMeantDishes_23 ?_
      refine A_iload_n dX2_findMeantDishes_26 rfl 0 rfl ?_
      refine A_aload_n dX2_findMeantDishes_27 rfl 1 rfl ?_
      refine A_getr fl_X2_29 lk_51 rfl dX2_findMeantDishes_28 ?_
      refine A_aload_n dX2_findMeantDishes_31 rfl 1 rfl ?_
      refine A_getr fl_X2_9 lk_51 rfl dX2_findMeantDishes_32 ?_
      refine A_iload_n dX2_findMeantDishes_35 rfl 0 rfl ?_
      refine J_iald lk_52 (by first | with_reducible exact i32_eq (KC_inr _ _) | with_reducible exact idxC_i32 _ _ _ | exact i32_eq (by assumption) | exact i32_eq ⟨by omega, by omega⟩ | with_reducible exact i32_i32 _ | rfl) (by omega) (by omega) (by decide) dX2_findMeantDishes_36 ?_
      try simp (disch := omega) only [up_k, up_j, up_s, up_k, up_j, up_s]
      refine A_aload_n dX2_findMeantDishes_37 rfl 1 rfl ?_
      refine A_getr fl_X2_15 lk_51 rfl dX2_findMeantDishes_38 ?_
      refine A_iload_n dX2_findMeantDishes_41 rfl 0 rfl ?_
      refine J_iald lk_53 (by first | with_reducible exact i32_eq (KC_inr _ _) | with_reducible exact idxC_i32 _ _ _ | exact i32_eq (by assumption) | exact i32_eq ⟨by omega, by omega⟩ | with_reducible exact i32_i32 _ | rfl) (by omega) (by omega) (by decide) dX2_findMeantDishes_42 ?_
      try simp (disch := omega) only [up_k, up_j, up_s, up_k, up_j, up_s]
      refine A_Va2 mv_X2_234 lk_50 rfl rfl (c_X0_suiting _ _ _) (Nat.le_of_ble_eq_true rfl) (by omega) (by omega) dX2_findMeantDishes_43 ?_
      try simp (disch := omega) only [up_k, up_j, up_s]
      refine J_iast lk_33 (by first | with_reducible exact i32_eq (KC_inr _ _) | with_reducible exact idxC_i32 _ _ _ | exact i32_eq (by assumption) | exact i32_eq ⟨by omega, by omega⟩ | with_reducible exact i32_i32 _ | rfl) (by omega) (by omega) (by decide) dX2_findMeantDishes_46 ?_
      refine A_iinc (lv2 := [(1, _), (0, _)]) dX2_findMeantDishes_47 0 rfl (by decide) rfl ?_
      refine A_goto (tgt := 2) dX2_findMeantDishes_50 (by decide) ?_
      refine A_lv [0, 1] rfl ?_
      refine ih (n - 1) (by omega) (i + 1) _ (by omega) ⟨by omega, by omega⟩ (by omega) ?_
      obtain ⟨n, rfl⟩ : ∃ q, n = q + 1 := ⟨n - 1, by omega⟩
      clear ih
      rw [fG_s] at hK
      simp only [Nat.add_sub_cancel]
      simp only [decide_eq_true_eq, fd1] at hK
      (repeat' split at hK) <;> first | contradiction | (exfalso; omega) | exact hK | (simp_all; done)
set_option maxRecDepth 100000 in
set_option maxHeartbeats 4000000 in
theorem w_X2_fd55 {f : Fm} {Q : State → Prop} {xs : va_W} {kk nn rc rs : Nat}  (hm : kk ≤ rc ∧ nn ≤ rs) : ∀ (n : Nat) (i : Int) (a : Sg), 0 ≤ i → inr i → i + n = 8 → AW l G f (RX2, cX2_findMeantDishes, 2, none) (23, rc, rs) Q xs kk nn 116 [(0, .ref (lay G 51))] [] ((fG (fun i a => decide (i < i32 (a 18 4) ∧ i < 8)) fd2 n i a)) → AW l G f (RX2, cX2_findMeantDishes, 2, none) (23, rc, rs) Q xs kk nn 55 [(1, .int (I32 i)), (0, .ref (lay G 51))] [] (a) := by
  intro n
  induction n using Nat.strongRecOn with | _ n ih =>
  intro i a h0 hii hn  hK
  obtain ⟨hi1, hi2⟩ := hii
  refine A_iload_n dX2_findMeantDishes_55 rfl 0 rfl ?_
  refine A_aload_n dX2_findMeantDishes_56 rfl 1 rfl ?_
  refine A_getr fl_X2_25 lk_51 rfl dX2_findMeantDishes_57 ?_
  refine A_getr fl_X2_199 lk_9 rfl dX2_findMeantDishes_60 ?_
  refine A_geti fl_X2_203 lk_18 rfl dX2_findMeantDishes_63 ?_
  try simp (disch := omega) only [up_k, up_j, up_s, up_k, up_j, up_s]
  refine J_icmp_ge (tgt := 116) dX2_findMeantDishes_66 (by decide) (by first | with_reducible exact i32_eq (KC_inr _ _) | with_reducible exact idxC_i32 _ _ _ | exact i32_eq (by assumption) | exact i32_eq ⟨by omega, by omega⟩ | with_reducible exact i32_i32 _ | rfl) (by first | with_reducible exact i32_eq (KC_inr _ _) | with_reducible exact idxC_i32 _ _ _ | exact i32_eq (by assumption) | exact i32_eq ⟨by omega, by omega⟩ | with_reducible exact i32_i32 _ | rfl) (fun h66 => ?_) (fun h66 => ?_)
  · refine A_lv [1] rfl ?_
    clear ih
    rcases n with _ | n <;> simp only [fG, decide_eq_true_eq] at hK <;> (repeat' split at hK) <;> first | contradiction | (exfalso; omega) | exact hK | (simp_all; done)
  · refine A_iload_n dX2_findMeantDishes_69 rfl 0 rfl ?_
    refine A_bipush dX2_findMeantDishes_70 (by decide +kernel) ?_
    refine J_icmp_ge (tgt := 116) dX2_findMeantDishes_72 (by decide) (by first | with_reducible exact i32_eq (KC_inr _ _) | with_reducible exact idxC_i32 _ _ _ | exact i32_eq (by assumption) | exact i32_eq ⟨by omega, by omega⟩ | with_reducible exact i32_i32 _ | rfl) (by first | with_reducible exact i32_eq (KC_inr _ _) | with_reducible exact idxC_i32 _ _ _ | exact i32_eq (by assumption) | exact i32_eq ⟨by omega, by omega⟩ | with_reducible exact i32_i32 _ | rfl) (fun h72 => ?_) (fun h72 => ?_)
    · refine A_lv [1] rfl ?_
      clear ih
      rcases n with _ | n <;> simp only [fG, decide_eq_true_eq] at hK <;> (repeat' split at hK) <;> first | contradiction | (exfalso; omega) | exact hK | (simp_all; done)
    · refine A_aload_n dX2_findMeantDishes_75 rfl 1 rfl ?_
      refine A_getr fl_X2_18 lk_51 rfl dX2_findMeantDishes_76 ?_
      refine A_iload_n dX2_findMeantDishes_79 rfl 0 rfl ?_
      refine J_iald lk_54 (by first | with_reducible exact i32_eq (KC_inr _ _) | with_reducible exact idxC_i32 _ _ _ | exact i32_eq (by assumption) | exact i32_eq ⟨by omega, by omega⟩ | with_reducible exact i32_i32 _ | rfl) (by omega) (by omega) (by decide) dX2_findMeantDishes_80 ?_
      try simp (disch := omega) only [up_k, up_j, up_s, up_k, up_j, up_s]
      refine A_iconst dX2_findMeantDishes_81 ?_
      refine J_icmp_eq (tgt := 110) dX2_findMeantDishes_82 (by decide) (by first | with_reducible exact i32_eq (KC_inr _ _) | with_reducible exact idxC_i32 _ _ _ | exact i32_eq (by assumption) | exact i32_eq ⟨by omega, by omega⟩ | with_reducible exact i32_i32 _ | rfl) (by first | with_reducible exact i32_eq (KC_inr _ _) | with_reducible exact idxC_i32 _ _ _ | exact i32_eq (by assumption) | exact i32_eq ⟨by omega, by omega⟩ | with_reducible exact i32_i32 _ | rfl) (fun h82 => ?_) (fun h82 => ?_)
      · refine A_iinc (lv2 := [(1, _), (0, _)]) dX2_findMeantDishes_110 0 rfl (by decide) rfl ?_
        refine A_goto (tgt := 55) dX2_findMeantDishes_113 (by decide) ?_
        refine A_lv [0, 1] rfl ?_
        refine ih (n - 1) (by omega) (i + 1) _ (by omega) ⟨by omega, by omega⟩ (by omega) ?_
        obtain ⟨n, rfl⟩ : ∃ q, n = q + 1 := ⟨n - 1, by omega⟩
        clear ih
        rw [fG_s] at hK
        simp only [Nat.add_sub_cancel]
        simp only [decide_eq_true_eq, fd2] at hK
        (repeat' split at hK) <;> first | contradiction | (exfalso; omega) | exact hK | (simp_all; done)
      · refine A_aload_n dX2_findMeantDishes_85 rfl 1 rfl ?_
        refine A_getr fl_X2_25 lk_51 rfl dX2_findMeantDishes_86 ?_
        refine A_getr fl_X2_199 lk_9 rfl dX2_findMeantDishes_89 ?_
        refine A_getr fl_X2_209 lk_18 rfl dX2_findMeantDishes_92 ?_
        refine A_iload_n dX2_findMeantDishes_95 rfl 0 rfl ?_
        refine A_aload_n dX2_findMeantDishes_96 rfl 1 rfl ?_
        refine A_getr fl_X2_25 lk_51 rfl dX2_findMeantDishes_97 ?_
        refine A_aload_n dX2_findMeantDishes_100 rfl 1 rfl ?_
        refine A_getr fl_X2_18 lk_51 rfl dX2_findMeantDishes_101 ?_
        refine A_iload_n dX2_findMeantDishes_104 rfl 0 rfl ?_
        refine J_iald lk_54 (by first | with_reducible exact i32_eq (KC_inr _ _) | with_reducible exact idxC_i32 _ _ _ | exact i32_eq (by assumption) | exact i32_eq ⟨by omega, by omega⟩ | with_reducible exact i32_i32 _ | rfl) (by omega) (by omega) (by decide) dX2_findMeantDishes_105 ?_
        try simp (disch := omega) only [up_k, up_j, up_s, up_k, up_j, up_s]
        refine A_Va1 mv_X2_237 lk_9 rfl rfl (c_X6_dishesWithTag _ _) (Nat.le_of_ble_eq_true rfl) (by omega) (by omega) dX2_findMeantDishes_106 ?_
        try simp (disch := omega) only [up_k, up_j, up_s]
        refine J_iast lk_22 (by first | with_reducible exact i32_eq (KC_inr _ _) | with_reducible exact idxC_i32 _ _ _ | exact i32_eq (by assumption) | exact i32_eq ⟨by omega, by omega⟩ | with_reducible exact i32_i32 _ | rfl) (by omega) (by omega) (by decide) dX2_findMeantDishes_109 ?_
        refine A_iinc (lv2 := [(1, _), (0, _)]) dX2_findMeantDishes_110 0 rfl (by decide) rfl ?_
        refine A_goto (tgt := 55) dX2_findMeantDishes_113 (by decide) ?_
        refine A_lv [0, 1] rfl ?_
        refine ih (n - 1) (by omega) (i + 1) _ (by omega) ⟨by omega, by omega⟩ (by omega) ?_
        obtain ⟨n, rfl⟩ : ∃ q, n = q + 1 := ⟨n - 1, by omega⟩
        clear ih
        rw [fG_s] at hK
        simp only [Nat.add_sub_cancel]
        simp only [decide_eq_true_eq, fd2] at hK
        (repeat' split at hK) <;> first | contradiction | (exfalso; omega) | exact hK | (simp_all; done)
set_option maxRecDepth 100000 in
set_option maxHeartbeats 4000000 in
theorem c_X2_findMeantDishes (σ : Sg)  : Ct l G yX2_findMeantDishes cX2_findMeantDishes 2 none 23 0 0 [.ref (lay G 51)] σ (none) (fdM σ) := by
  refine Ct.of (by decide +kernel) (Nat.le_of_ble_eq_true rfl) (fun f => ?_)
  show AW _ _ _ _ _ _ _ _ _ _ [(0, _)] _ _
  refine A_iconst dX2_findMeantDishes_0 ?_
  refine A_istore_n (lv2 := [(1, _), (0, _)]) dX2_findMeantDishes_1 rfl (by decide) rfl ?_
  refine A_lv [0, 1] rfl ?_
  refine w_X2_fd2 (by omega) 8 0 σ (by omega) ⟨by omega, by omega⟩ (by omega) ?_
  refine A_iconst dX2_findMeantDishes_53 ?_
  refine A_istore_n (lv2 := [(1, _), (0, _)]) dX2_findMeantDishes_54 rfl (by decide) rfl ?_
  refine A_lv [0, 1] rfl ?_
  refine w_X2_fd55 (by omega) 8 0 _ (by omega) ⟨by omega, by omega⟩ (by omega) ?_
  exact A_vret dX2_findMeantDishes_116 rfl rfl
end S21
