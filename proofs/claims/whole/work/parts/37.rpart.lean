/-! the reference: meaning: parts and dishes -/
section S37
variable {l : Launch} {G : Gx}
variable {σ : Sg} {e : Int} {K V N S : Int → Int}
theorem fnC_cg {σ τ : Sg} {ka : Nat} (h : τ ka = σ ka) (m v : Int) : fnC τ ka m v = fnC σ ka m v := by
  unfold fnC
  rw [show fnG τ ka v = fnG σ ka v from by funext k a; unfold fnG; rw [h]]
theorem fnC_inc {σ : Sg} {ka j : Nat} (h : ka ≠ 84) (m v : Int) : fnC (incS j σ) ka m v = fnC σ ka m v := fnC_cg (incS_r _ h) m v
theorem fnC_up {σ : Sg} {ka k j : Nat} {x : Int} (h : ka ≠ k) (m v : Int) : fnC (up σ k j x) ka m v = fnC σ ka m v := fnC_cg (up_r _ _ _ h) m v
def Dn (σ : Sg) : Prop := (∀ j : Nat, (j : Int) < σ 84 15 → (1 ≤ σ 94 j ∧ σ 94 j ≤ 20) ∧ (0 ≤ σ 95 j ∧ σ 95 j ≤ 1000000) ∧ (0 ≤ σ 96 j ∧ σ 96 j ≤ 1000000) ∧ ∀ f : Nat, f < 16 → 0 ≤ σ 99 (16 * j + f) ∧ σ 99 (16 * j + f) ≤ 100000) ∧ (∀ j : Nat, (j : Int) < σ 84 10 → (0 ≤ σ 90 j ∧ σ 90 j ≤ 900) ∧ (0 ≤ σ 91 j ∧ σ 91 j ≤ 999))
def ptGR (d x n i : Int) (a : Sg) : Sg := up a 99 (16 * d + i).toNat (a 99 (16 * d + i).toNat + (i64 (n * a 99 (16 * x + i).toNat)).tdiv (a 94 x.toNat))
def ptD (d x n : Int) (σ : Sg) : Sg := fW 16 (ptGR d x n) 16 0 (up (up (up (up σ 98 d.toNat (σ 98 d.toNat + 1)) 95 d.toNat (σ 95 d.toNat + n * (σ 95 x.toNat).tdiv (σ 94 x.toNat))) 96 d.toNat (σ 96 d.toNat + n * (σ 96 x.toNat).tdiv (σ 94 x.toNat))) 97 d.toNat (ior (σ 97 d.toNat) (σ 97 x.toNat)))
def ptF (d x n : Int) (σ : Sg) : Sg := up (up (up (up (up σ 98 d.toNat (σ 98 d.toNat + 1)) 95 d.toNat (σ 95 d.toNat + i32 ((i32 (n * σ 90 x.toNat)).tdiv 100))) 96 d.toNat (σ 96 d.toNat + i32 ((i32 (n * σ 91 x.toNat)).tdiv 100))) 97 d.toNat (ior (σ 97 d.toNat) (σ 92 x.toNat))) 99 (16 * d + x).toNat (σ 99 (16 * d + x).toNat + n)
def ptX (S : Int → Int) (p x : Int) (g : Sg → Sg) (σ : Sg) : Int × Sg := if x = -1 then (2, up σ 84 4 (S p)) else (0, g (incS 8 σ))
def ptM (K V N S : Int → Int) (σ : Sg) : Int × Sg :=
  if σ 98 (σ 84 15).toNat = 8 then (4, up σ 84 4 (S (σ 84 8)))
  else if 1 ≤ N (σ 84 8) ∧ N (σ 84 8) ≤ 2000 then
    (if K (σ 84 8 + 1) = 4 then ptX S (σ 84 8 + 2) (fnC σ 93 (σ 84 15) (V (σ 84 8 + 2))) (ptD (σ 84 15) (fnC σ 93 (σ 84 15) (V (σ 84 8 + 2))) (N (σ 84 8))) (incS 8 (incS 8 σ))
     else ptX S (σ 84 8 + 1) (fnC σ 89 (σ 84 10) (V (σ 84 8 + 1))) (ptF (σ 84 15) (fnC σ 89 (σ 84 10) (V (σ 84 8 + 1))) (N (σ 84 8))) (incS 8 σ))
  else (5, up σ 84 4 (S (σ 84 8)))
set_option maxRecDepth 100000 in
set_option maxHeartbeats 4000000 in
theorem w_X11_part {f : Fm} {Q : State → Prop} {xs : va_W} {kk nn rc rs : Nat} (d x n0 : Int) (hd : 0 ≤ d ∧ d < 16) (hx : 0 ≤ x ∧ x < 16) (hn0 : 0 ≤ n0 ∧ n0 ≤ 9999) (hm : kk ≤ rc ∧ nn ≤ rs) : ∀ (n : Nat) (i : Int) (a : Sg), 0 ≤ i → inr i → i + n = 16 → (1 ≤ a 94 x.toNat) → (a 94 x.toNat ≤ 20) → AW l G f (RX11, cX11_part, 6, (some .int)) (7, rc, rs) Q xs kk nn 288 [(0, .ref (lay G 84)), (1, .int (I32 d)), (2, .int (I32 n0)), (4, .int (I32 x))] [] ((fW (16) (ptGR d x n0) n i a)) → AW l G f (RX11, cX11_part, 6, (some .int)) (7, rc, rs) Q xs kk nn 235 [(5, .int (I32 i)), (0, .ref (lay G 84)), (1, .int (I32 d)), (2, .int (I32 n0)), (4, .int (I32 x))] [] (a) := by
  intro n
  induction n using Nat.strongRecOn with | _ n ih =>
  intro i a h0 hii hn hv0 hv1 hK
  obtain ⟨hi1, hi2⟩ := hii
  refine A_iload dX11_part_235 0 rfl ?_
  refine A_bipush dX11_part_237 (by decide +kernel) ?_
  refine J_icmp_ge (tgt := 288) dX11_part_239 (by decide) (by first | exact i32_eq (by assumption) | exact i32_eq ⟨by omega, by omega⟩ | with_reducible exact i32_i32 _ | with_reducible exact i32_eq (b2i_inr _) | rfl) (by first | exact i32_eq (by assumption) | exact i32_eq ⟨by omega, by omega⟩ | with_reducible exact i32_i32 _ | with_reducible exact i32_eq (b2i_inr _) | rfl) (fun h239 => ?_) (fun h239 => ?_)
  · refine A_lv [1, 2, 3, 4] rfl ?_
    clear ih
    rcases n with _ | n <;> simp only [fW] at hK <;> (repeat' split at hK) <;> first | contradiction | (exfalso; omega) | exact hK | (simp_all; done)
  · refine A_aload_n dX11_part_242 rfl 1 rfl ?_
    refine A_getr fl_X11_57 lk_84 rfl dX11_part_243 ?_
    refine A_bipush dX11_part_246 (by decide +kernel) ?_
    refine A_iload_n dX11_part_248 rfl 2 rfl ?_
    refine A_imul dX11_part_249 ?_
    refine A_iload dX11_part_250 0 rfl ?_
    refine A_iadd dX11_part_252 ?_
    refine A_dup2 dX11_part_253 rfl rfl ?_
    refine J_lald lk_99 (by first | exact i32_eq (by assumption) | exact i32_eq ⟨by omega, by omega⟩ | with_reducible exact i32_i32 _ | with_reducible exact i32_eq (b2i_inr _) | rfl) (by omega) (by omega) (by decide) dX11_part_254 ?_
    try simp (disch := omega) only [up_k, up_j, up_s]
    refine A_iload_n dX11_part_255 rfl 3 rfl ?_
    refine J_i2l dX11_part_256 (by first | exact i32_eq (by assumption) | exact i32_eq ⟨by omega, by omega⟩ | with_reducible exact i32_i32 _ | with_reducible exact i32_eq (b2i_inr _) | rfl) ?_
    refine A_aload_n dX11_part_257 rfl 1 rfl ?_
    refine A_getr fl_X11_57 lk_84 rfl dX11_part_258 ?_
    refine A_bipush dX11_part_261 (by decide +kernel) ?_
    refine A_iload dX11_part_263 4 rfl ?_
    refine A_imul dX11_part_265 ?_
    refine A_iload dX11_part_266 0 rfl ?_
    refine A_iadd dX11_part_268 ?_
    refine J_lald lk_99 (by first | exact i32_eq (by assumption) | exact i32_eq ⟨by omega, by omega⟩ | with_reducible exact i32_i32 _ | with_reducible exact i32_eq (b2i_inr _) | rfl) (by omega) (by omega) (by decide) dX11_part_269 ?_
    try simp (disch := omega) only [up_k, up_j, up_s]
    refine A_lmul dX11_part_270 ?_
    refine A_aload_n dX11_part_271 rfl 1 rfl ?_
    refine A_getr fl_X11_42 lk_84 rfl dX11_part_272 ?_
    refine A_iload dX11_part_275 4 rfl ?_
    refine J_iald lk_94 (by first | exact i32_eq (by assumption) | exact i32_eq ⟨by omega, by omega⟩ | with_reducible exact i32_i32 _ | with_reducible exact i32_eq (b2i_inr _) | rfl) (by omega) (by omega) (by decide) dX11_part_277 ?_
    try simp (disch := omega) only [up_k, up_j, up_s]
    refine J_i2l dX11_part_278 (by first | exact i32_eq (by assumption) | exact i32_eq ⟨by omega, by omega⟩ | with_reducible exact i32_i32 _ | with_reducible exact i32_eq (b2i_inr _) | rfl) ?_
    refine J_ldiv dX11_part_279 (by first | exact i64_eq ⟨by omega, by omega⟩ | rfl) (by first | exact i64_eq ⟨by omega, by omega⟩ | rfl) (by omega) ?_
    refine A_ladd dX11_part_280 ?_
    refine J_last lk_99 (by first | exact i32_eq (by assumption) | exact i32_eq ⟨by omega, by omega⟩ | with_reducible exact i32_i32 _ | with_reducible exact i32_eq (b2i_inr _) | rfl) (by omega) (by omega) (by decide) dX11_part_281 ?_
    refine A_iinc (lv2 := [(5, _), (0, _), (1, _), (2, _), (4, _)]) dX11_part_282 0 rfl (by decide) rfl ?_
    refine A_goto (tgt := 235) dX11_part_285 (by decide) ?_
    refine A_lv [0, 1, 2, 3, 4] rfl ?_
    refine ih (n - 1) (by omega) (i + 1) _ (by omega) ⟨by omega, by omega⟩ (by omega) (by simp (disch := omega) only [up_k]; assumption) (by simp (disch := omega) only [up_k]; assumption) ?_
    obtain ⟨n, rfl⟩ : ∃ q, n = q + 1 := ⟨n - 1, by omega⟩
    clear ih
    rw [fW_s] at hK
    simp only [Nat.add_sub_cancel]
    simp only [ptGR] at hK
    (repeat' split at hK) <;> first | contradiction | (exfalso; omega) | exact hK | (simp_all; done)
set_option maxRecDepth 100000 in
set_option maxHeartbeats 4000000 in
theorem c_X11_part (b : Int) (hT : Tk σ e K V N S) (hC : Cn σ) (hD : Dn σ) (hd : σ 84 15 < 16) (hp : 0 ≤ σ 98 (σ 84 15).toNat ∧ σ 98 (σ 84 15).toNat ≤ 8) (hg : PtO K (σ 84 8) b) : Ct l G yX11_part cX11_part 6 (some .int) 7 0 0 [.ref (lay G 84)] σ (some (.int (I32 (ptM K V N S σ).1))) ((ptM K V N S σ).2) := by
  obtain ⟨g1, g2⟩ := hg
  obtain ⟨hC1, hC2, hC3, hC4, hC5, hC6⟩ := id hC
  have ha := hT.in g1 (by decide)
  have hN1 := hT.2.2.2.1 _ g1
  refine Ct.of (by decide +kernel) (Nat.le_of_ble_eq_true rfl) (fun f => ?_)
  show AW _ _ _ _ _ _ _ _ _ _ [(0, _)] _ _
  refine A_aload_n dX11_part_0 rfl 0 rfl ?_
  refine A_geti fl_X11_247 lk_84 rfl dX11_part_1 ?_
  try simp (disch := omega) only [up_k, up_j, up_s, incS_s, incS_k, incS_j, thC_keep, ad11, ad21, ad31, ad41, ad12, nc0, nc1, nc2, nc3, nc4, nc5, nc6, nc7, nc8, nc9, nc10, nc11, nc12, nc13, nc14, nc15, nc16, nc17, nc18, nc19, nc20, nc21, fnC_inc, fnC_up]
  refine A_istore_n (lv2 := [(1, _), (0, _)]) dX11_part_4 rfl (by decide) rfl ?_
  refine A_aload_n dX11_part_5 rfl 1 rfl ?_
  refine A_getr fl_X11_54 lk_84 rfl dX11_part_6 ?_
  refine A_iload_n dX11_part_9 rfl 0 rfl ?_
  refine J_iald lk_98 (by first | exact hfi | exact i32_eq (by assumption) | exact i32_eq ⟨by omega, by omega⟩ | with_reducible exact i32_i32 _ | with_reducible exact i32_eq (b2i_inr _) | rfl) (by omega) (by omega) (by decide) dX11_part_10 ?_
  try simp (disch := omega) only [up_k, up_j, up_s, incS_s, incS_k, incS_j, thC_keep, ad11, ad21, ad31, ad41, ad12, nc0, nc1, nc2, nc3, nc4, nc5, nc6, nc7, nc8, nc9, nc10, nc11, nc12, nc13, nc14, nc15, nc16, nc17, nc18, nc19, nc20, nc21, fnC_inc, fnC_up]
  refine A_bipush dX11_part_11 (by decide +kernel) ?_
  refine J_icmp_ne (tgt := 26) dX11_part_13 (by decide) (by first | exact hfi | exact i32_eq (by assumption) | exact i32_eq ⟨by omega, by omega⟩ | with_reducible exact i32_i32 _ | with_reducible exact i32_eq (b2i_inr _) | rfl) (by first | exact hfi | exact i32_eq (by assumption) | exact i32_eq ⟨by omega, by omega⟩ | with_reducible exact i32_i32 _ | with_reducible exact i32_eq (b2i_inr _) | rfl) (fun h13 => ?_) (fun h13 => ?_)
  · refine A_aload_n dX11_part_26 rfl 1 rfl ?_
    refine A_aload_n dX11_part_27 rfl 1 rfl ?_
    refine A_geti fl_X11_144 lk_84 rfl dX11_part_28 ?_
    try simp (disch := omega) only [up_k, up_j, up_s, incS_s, incS_k, incS_j, thC_keep, ad11, ad21, ad31, ad41, ad12, nc0, nc1, nc2, nc3, nc4, nc5, nc6, nc7, nc8, nc9, nc10, nc11, nc12, nc13, nc14, nc15, nc16, nc17, nc18, nc19, nc20, nc21, fnC_inc, fnC_up]
    refine A_Va1 mv_X11_276 lk_84 rfl rfl (c_numT hT _ ⟨by omega, by omega⟩) (Nat.le_of_ble_eq_true rfl) (by omega) (by omega) dX11_part_31 ?_
    try simp (disch := omega) only [incS_s, incS_k, incS_j, thC_keep, ad11, ad21, ad31, ad41, ad12, nc0, nc1, nc2, nc3, nc4, nc5, nc6, nc7, nc8, nc9, nc10, nc11, nc12, nc13, nc14, nc15, nc16, nc17, nc18, nc19, nc20, nc21, fnC_inc, fnC_up]
    refine A_istore_n (lv2 := [(2, _), (1, _), (0, _)]) dX11_part_34 rfl (by decide) rfl ?_
    refine A_iload_n dX11_part_35 rfl 0 rfl ?_
    refine A_iconst dX11_part_36 ?_
    refine A_sipush dX11_part_37 (by decide +kernel) ?_
    refine A_Sa3 ms_X11_106 (c_X11_isIn _ _ _ _) (Nat.le_of_ble_eq_true rfl) (by omega) (by omega) dX11_part_40 ?_
    try simp (disch := omega) only [incS_s, incS_k, incS_j, thC_keep, ad11, ad21, ad31, ad41, ad12, nc0, nc1, nc2, nc3, nc4, nc5, nc6, nc7, nc8, nc9, nc10, nc11, nc12, nc13, nc14, nc15, nc16, nc17, nc18, nc19, nc20, nc21, fnC_inc, fnC_up]
    rw [inR_n (by omega) (by decide) (by decide)]
    refine A_ifne_b (tgt := 56) dX11_part_43 (by decide) (fun h43 => ?_) (fun h43 => ?_)
    · refine A_inc fl_X11_144 lk_84 rfl 2 rfl dX11_part_56 dX11_part_57 dX11_part_58 dX11_part_61 dX11_part_62 dX11_part_63 ?_
      refine A_aload_n dX11_part_66 rfl 2 rfl ?_
      refine A_ldcs (i := 4) (by decide +kernel) dX11_part_67 ?_
      refine A_Va1 mv_X11_160 lk_84 rfl rfl (c_takesT (by repeat (first | exact hT | refine Tk.i (by decide) ?_ | refine Tk.tC ?_ _ | refine Tk.x (by decide) ?_ | refine Tk.o (by decide) ?_)) 4 (by simp (disch := omega) only [up_k, up_j, up_s, incS_s, incS_k, incS_j, thC_keep, ad11, ad21, ad31, ad41, ad12, nc0, nc1, nc2, nc3, nc4, nc5, nc6, nc7, nc8, nc9, nc10, nc11, nc12, nc13, nc14, nc15, nc16, nc17, nc18, nc19, nc20, nc21, fnC_inc, fnC_up]; omega) (by decide)) (Nat.le_of_ble_eq_true rfl) (by omega) (by omega) dX11_part_69 ?_
      try simp (disch := omega) only [incS_s, incS_k, incS_j, thC_keep, ad11, ad21, ad31, ad41, ad12, nc0, nc1, nc2, nc3, nc4, nc5, nc6, nc7, nc8, nc9, nc10, nc11, nc12, nc13, nc14, nc15, nc16, nc17, nc18, nc19, nc20, nc21, fnC_inc, fnC_up]
      refine A_istore_n (lv2 := [(3, _), (2, _), (1, _), (0, _)]) dX11_part_72 rfl (by decide) rfl ?_
      refine A_iload_n dX11_part_73 rfl 0 rfl ?_
      refine A_ifeq_b (tgt := 99) dX11_part_74 (by decide) (fun h74 => ?_) (fun h74 => ?_)
      · have hk4 : ¬ K (σ 84 8 + 1) = 4 := of_decide_eq_false h74
        obtain ⟨g3, g4⟩ : K (σ 84 8 + 1) = 22 ∧ b = σ 84 8 + 2 := by
          rcases g2 with z | z
          · exact absurd z.1 hk4
          · exact z
        have ha2 := hT.in g3 (by decide)
        have hfd := fnC_in (σ := σ) (ka := 89) (v := (V (σ 84 8 + 1))) hC1
        have hfi : i32 (fnC σ 89 (σ 84 10) (V (σ 84 8 + 1))) = fnC σ 89 (σ 84 10) (V (σ 84 8 + 1)) := fnC_i32 hC1
        rw [tkS_f (by simp (disch := omega) only [up_k, up_j, up_s, incS_s, incS_k, incS_j, thC_keep, ad11, ad21, ad31, ad41, ad12, nc0, nc1, nc2, nc3, nc4, nc5, nc6, nc7, nc8, nc9, nc10, nc11, nc12, nc13, nc14, nc15, nc16, nc17, nc18, nc19, nc20, nc21, fnC_inc, fnC_up]; exact hk4)]
        refine A_aload_n dX11_part_99 rfl 3 rfl ?_
        refine A_getr fl_X11_26 lk_84 rfl dX11_part_100 ?_
        refine A_aload_n dX11_part_103 rfl 3 rfl ?_
        refine A_geti fl_X11_240 lk_84 rfl dX11_part_104 ?_
        try simp (disch := omega) only [up_k, up_j, up_s, incS_s, incS_k, incS_j, thC_keep, ad11, ad21, ad31, ad41, ad12, nc0, nc1, nc2, nc3, nc4, nc5, nc6, nc7, nc8, nc9, nc10, nc11, nc12, nc13, nc14, nc15, nc16, nc17, nc18, nc19, nc20, nc21, fnC_inc, fnC_up]
        refine A_aload_n dX11_part_107 rfl 3 rfl ?_
        refine A_aload_n dX11_part_108 rfl 3 rfl ?_
        refine A_geti fl_X11_144 lk_84 rfl dX11_part_109 ?_
        try simp (disch := omega) only [up_k, up_j, up_s, incS_s, incS_k, incS_j, thC_keep, ad11, ad21, ad31, ad41, ad12, nc0, nc1, nc2, nc3, nc4, nc5, nc6, nc7, nc8, nc9, nc10, nc11, nc12, nc13, nc14, nc15, nc16, nc17, nc18, nc19, nc20, nc21, fnC_inc, fnC_up]
        refine A_Va1 mv_X11_265 lk_84 rfl rfl (c_nameT (by repeat (first | exact hT | refine Tk.i (by decide) ?_ | refine Tk.tC ?_ _ | refine Tk.x (by decide) ?_ | refine Tk.o (by decide) ?_)) _ ⟨by omega, by omega⟩) (Nat.le_of_ble_eq_true rfl) (by omega) (by omega) dX11_part_112 ?_
        try simp (disch := omega) only [incS_s, incS_k, incS_j, thC_keep, ad11, ad21, ad31, ad41, ad12, nc0, nc1, nc2, nc3, nc4, nc5, nc6, nc7, nc8, nc9, nc10, nc11, nc12, nc13, nc14, nc15, nc16, nc17, nc18, nc19, nc20, nc21, fnC_inc, fnC_up]
        refine A_Sa3 ms_X11_243 (c_X11_find_89 _ (σ 84 10) _ hC1) (Nat.le_of_ble_eq_true rfl) (by omega) (by omega) dX11_part_115 ?_
        try simp (disch := omega) only [incS_s, incS_k, incS_j, thC_keep, ad11, ad21, ad31, ad41, ad12, nc0, nc1, nc2, nc3, nc4, nc5, nc6, nc7, nc8, nc9, nc10, nc11, nc12, nc13, nc14, nc15, nc16, nc17, nc18, nc19, nc20, nc21, fnC_inc, fnC_up]
        refine A_istore (lv2 := [(4, _), (3, _), (2, _), (1, _), (0, _)]) dX11_part_118 (by decide) rfl ?_
        refine A_iload dX11_part_120 0 rfl ?_
        refine A_iconst dX11_part_122 ?_
        refine J_icmp_ne (tgt := 136) dX11_part_123 (by decide) (by first | exact hfi | exact i32_eq (by assumption) | exact i32_eq ⟨by omega, by omega⟩ | with_reducible exact i32_i32 _ | with_reducible exact i32_eq (b2i_inr _) | rfl) (by first | exact hfi | exact i32_eq (by assumption) | exact i32_eq ⟨by omega, by omega⟩ | with_reducible exact i32_i32 _ | with_reducible exact i32_eq (b2i_inr _) | rfl) (fun h123 => ?_) (fun h123 => ?_)
        · have hD1 := hD.2 (fnC σ 89 (σ 84 10) (V (σ 84 8 + 1))).toNat (by omega)
          refine A_inc fl_X11_144 lk_84 rfl 4 rfl dX11_part_136 dX11_part_137 dX11_part_138 dX11_part_141 dX11_part_142 dX11_part_143 ?_
          refine A_aload_n dX11_part_146 rfl 4 rfl ?_
          refine A_getr fl_X11_54 lk_84 rfl dX11_part_147 ?_
          refine A_iload_n dX11_part_150 rfl 3 rfl ?_
          refine A_dup2 dX11_part_151 rfl rfl ?_
          refine J_iald lk_98 (by first | exact hfi | exact i32_eq (by assumption) | exact i32_eq ⟨by omega, by omega⟩ | with_reducible exact i32_i32 _ | with_reducible exact i32_eq (b2i_inr _) | rfl) (by omega) (by omega) (by decide) dX11_part_152 ?_
          try simp (disch := omega) only [up_k, up_j, up_s, incS_s, incS_k, incS_j, thC_keep, ad11, ad21, ad31, ad41, ad12, nc0, nc1, nc2, nc3, nc4, nc5, nc6, nc7, nc8, nc9, nc10, nc11, nc12, nc13, nc14, nc15, nc16, nc17, nc18, nc19, nc20, nc21, fnC_inc, fnC_up]
          refine A_iconst dX11_part_153 ?_
          refine A_iadd dX11_part_154 ?_
          refine J_iast lk_98 (by first | exact hfi | exact i32_eq (by assumption) | exact i32_eq ⟨by omega, by omega⟩ | with_reducible exact i32_i32 _ | with_reducible exact i32_eq (b2i_inr _) | rfl) (by omega) (by omega) (by decide) dX11_part_155 ?_
          refine A_iload_n dX11_part_156 rfl 1 rfl ?_
          refine A_ifeq_b (tgt := 291) dX11_part_157 (by decide) (fun _ => ?_) (fun h => absurd (h74.symm.trans h) (by decide))
          refine A_aload_n dX11_part_291 rfl 4 rfl ?_
          refine A_getr fl_X11_45 lk_84 rfl dX11_part_292 ?_
          refine A_iload_n dX11_part_295 rfl 3 rfl ?_
          refine A_dup2 dX11_part_296 rfl rfl ?_
          refine J_lald lk_95 (by first | exact hfi | exact i32_eq (by assumption) | exact i32_eq ⟨by omega, by omega⟩ | with_reducible exact i32_i32 _ | with_reducible exact i32_eq (b2i_inr _) | rfl) (by omega) (by omega) (by decide) dX11_part_297 ?_
          try simp (disch := omega) only [up_k, up_j, up_s, incS_s, incS_k, incS_j, thC_keep, ad11, ad21, ad31, ad41, ad12, nc0, nc1, nc2, nc3, nc4, nc5, nc6, nc7, nc8, nc9, nc10, nc11, nc12, nc13, nc14, nc15, nc16, nc17, nc18, nc19, nc20, nc21, fnC_inc, fnC_up]
          refine A_iload_n dX11_part_298 rfl 2 rfl ?_
          refine A_aload_n dX11_part_299 rfl 4 rfl ?_
          refine A_getr fl_X11_30 lk_84 rfl dX11_part_300 ?_
          refine A_iload dX11_part_303 0 rfl ?_
          refine J_iald lk_90 (by first | exact hfi | exact i32_eq (by assumption) | exact i32_eq ⟨by omega, by omega⟩ | with_reducible exact i32_i32 _ | with_reducible exact i32_eq (b2i_inr _) | rfl) (by omega) (by omega) (by decide) dX11_part_305 ?_
          try simp (disch := omega) only [up_k, up_j, up_s, incS_s, incS_k, incS_j, thC_keep, ad11, ad21, ad31, ad41, ad12, nc0, nc1, nc2, nc3, nc4, nc5, nc6, nc7, nc8, nc9, nc10, nc11, nc12, nc13, nc14, nc15, nc16, nc17, nc18, nc19, nc20, nc21, fnC_inc, fnC_up]
          refine A_imul dX11_part_306 ?_
          refine A_bipush dX11_part_307 (by decide +kernel) ?_
          refine J_idiv dX11_part_309 (by first | exact hfi | exact i32_eq (by assumption) | exact i32_eq ⟨by omega, by omega⟩ | with_reducible exact i32_i32 _ | with_reducible exact i32_eq (b2i_inr _) | rfl) (by first | exact hfi | exact i32_eq (by assumption) | exact i32_eq ⟨by omega, by omega⟩ | with_reducible exact i32_i32 _ | with_reducible exact i32_eq (b2i_inr _) | rfl) (by omega) ?_
          refine J_i2l dX11_part_310 (by first | exact hfi | exact i32_eq (by assumption) | exact i32_eq ⟨by omega, by omega⟩ | with_reducible exact i32_i32 _ | with_reducible exact i32_eq (b2i_inr _) | rfl) ?_
          refine A_ladd dX11_part_311 ?_
          refine J_last lk_95 (by first | exact hfi | exact i32_eq (by assumption) | exact i32_eq ⟨by omega, by omega⟩ | with_reducible exact i32_i32 _ | with_reducible exact i32_eq (b2i_inr _) | rfl) (by omega) (by omega) (by decide) dX11_part_312 ?_
          refine A_aload_n dX11_part_313 rfl 4 rfl ?_
          refine A_getr fl_X11_48 lk_84 rfl dX11_part_314 ?_
          refine A_iload_n dX11_part_317 rfl 3 rfl ?_
          refine A_dup2 dX11_part_318 rfl rfl ?_
          refine J_lald lk_96 (by first | exact hfi | exact i32_eq (by assumption) | exact i32_eq ⟨by omega, by omega⟩ | with_reducible exact i32_i32 _ | with_reducible exact i32_eq (b2i_inr _) | rfl) (by omega) (by omega) (by decide) dX11_part_319 ?_
          try simp (disch := omega) only [up_k, up_j, up_s, incS_s, incS_k, incS_j, thC_keep, ad11, ad21, ad31, ad41, ad12, nc0, nc1, nc2, nc3, nc4, nc5, nc6, nc7, nc8, nc9, nc10, nc11, nc12, nc13, nc14, nc15, nc16, nc17, nc18, nc19, nc20, nc21, fnC_inc, fnC_up]
          refine A_iload_n dX11_part_320 rfl 2 rfl ?_
          refine A_aload_n dX11_part_321 rfl 4 rfl ?_
          refine A_getr fl_X11_33 lk_84 rfl dX11_part_322 ?_
          refine A_iload dX11_part_325 0 rfl ?_
          refine J_iald lk_91 (by first | exact hfi | exact i32_eq (by assumption) | exact i32_eq ⟨by omega, by omega⟩ | with_reducible exact i32_i32 _ | with_reducible exact i32_eq (b2i_inr _) | rfl) (by omega) (by omega) (by decide) dX11_part_327 ?_
          try simp (disch := omega) only [up_k, up_j, up_s, incS_s, incS_k, incS_j, thC_keep, ad11, ad21, ad31, ad41, ad12, nc0, nc1, nc2, nc3, nc4, nc5, nc6, nc7, nc8, nc9, nc10, nc11, nc12, nc13, nc14, nc15, nc16, nc17, nc18, nc19, nc20, nc21, fnC_inc, fnC_up]
          refine A_imul dX11_part_328 ?_
          refine A_bipush dX11_part_329 (by decide +kernel) ?_
          refine J_idiv dX11_part_331 (by first | exact hfi | exact i32_eq (by assumption) | exact i32_eq ⟨by omega, by omega⟩ | with_reducible exact i32_i32 _ | with_reducible exact i32_eq (b2i_inr _) | rfl) (by first | exact hfi | exact i32_eq (by assumption) | exact i32_eq ⟨by omega, by omega⟩ | with_reducible exact i32_i32 _ | with_reducible exact i32_eq (b2i_inr _) | rfl) (by omega) ?_
          refine J_i2l dX11_part_332 (by first | exact hfi | exact i32_eq (by assumption) | exact i32_eq ⟨by omega, by omega⟩ | with_reducible exact i32_i32 _ | with_reducible exact i32_eq (b2i_inr _) | rfl) ?_
          refine A_ladd dX11_part_333 ?_
          refine J_last lk_96 (by first | exact hfi | exact i32_eq (by assumption) | exact i32_eq ⟨by omega, by omega⟩ | with_reducible exact i32_i32 _ | with_reducible exact i32_eq (b2i_inr _) | rfl) (by omega) (by omega) (by decide) dX11_part_334 ?_
          refine A_aload_n dX11_part_335 rfl 4 rfl ?_
          refine A_getr fl_X11_51 lk_84 rfl dX11_part_336 ?_
          refine A_iload_n dX11_part_339 rfl 3 rfl ?_
          refine A_dup2 dX11_part_340 rfl rfl ?_
          refine J_iald lk_97 (by first | exact hfi | exact i32_eq (by assumption) | exact i32_eq ⟨by omega, by omega⟩ | with_reducible exact i32_i32 _ | with_reducible exact i32_eq (b2i_inr _) | rfl) (by omega) (by omega) (by decide) dX11_part_341 ?_
          try simp (disch := omega) only [up_k, up_j, up_s, incS_s, incS_k, incS_j, thC_keep, ad11, ad21, ad31, ad41, ad12, nc0, nc1, nc2, nc3, nc4, nc5, nc6, nc7, nc8, nc9, nc10, nc11, nc12, nc13, nc14, nc15, nc16, nc17, nc18, nc19, nc20, nc21, fnC_inc, fnC_up]
          refine A_aload_n dX11_part_342 rfl 4 rfl ?_
          refine A_getr fl_X11_36 lk_84 rfl dX11_part_343 ?_
          refine A_iload dX11_part_346 0 rfl ?_
          refine J_iald lk_92 (by first | exact hfi | exact i32_eq (by assumption) | exact i32_eq ⟨by omega, by omega⟩ | with_reducible exact i32_i32 _ | with_reducible exact i32_eq (b2i_inr _) | rfl) (by omega) (by omega) (by decide) dX11_part_348 ?_
          try simp (disch := omega) only [up_k, up_j, up_s, incS_s, incS_k, incS_j, thC_keep, ad11, ad21, ad31, ad41, ad12, nc0, nc1, nc2, nc3, nc4, nc5, nc6, nc7, nc8, nc9, nc10, nc11, nc12, nc13, nc14, nc15, nc16, nc17, nc18, nc19, nc20, nc21, fnC_inc, fnC_up]
          refine A_ior dX11_part_349 ?_
          refine J_iast lk_97 (by first | exact hfi | exact i32_eq (by assumption) | exact i32_eq ⟨by omega, by omega⟩ | with_reducible exact i32_i32 _ | with_reducible exact i32_eq (b2i_inr _) | rfl) (by omega) (by omega) (by decide) dX11_part_350 ?_
          refine A_aload_n dX11_part_351 rfl 4 rfl ?_
          refine A_getr fl_X11_57 lk_84 rfl dX11_part_352 ?_
          refine A_bipush dX11_part_355 (by decide +kernel) ?_
          refine A_iload_n dX11_part_357 rfl 3 rfl ?_
          refine A_imul dX11_part_358 ?_
          refine A_iload dX11_part_359 0 rfl ?_
          refine A_iadd dX11_part_361 ?_
          refine A_dup2 dX11_part_362 rfl rfl ?_
          refine J_lald lk_99 (by first | exact hfi | exact i32_eq (by assumption) | exact i32_eq ⟨by omega, by omega⟩ | with_reducible exact i32_i32 _ | with_reducible exact i32_eq (b2i_inr _) | rfl) (by omega) (by omega) (by decide) dX11_part_363 ?_
          try simp (disch := omega) only [up_k, up_j, up_s, incS_s, incS_k, incS_j, thC_keep, ad11, ad21, ad31, ad41, ad12, nc0, nc1, nc2, nc3, nc4, nc5, nc6, nc7, nc8, nc9, nc10, nc11, nc12, nc13, nc14, nc15, nc16, nc17, nc18, nc19, nc20, nc21, fnC_inc, fnC_up]
          refine A_iload_n dX11_part_364 rfl 2 rfl ?_
          refine J_i2l dX11_part_365 (by first | exact hfi | exact i32_eq (by assumption) | exact i32_eq ⟨by omega, by omega⟩ | with_reducible exact i32_i32 _ | with_reducible exact i32_eq (b2i_inr _) | rfl) ?_
          refine A_ladd dX11_part_366 ?_
          refine J_last lk_99 (by first | exact hfi | exact i32_eq (by assumption) | exact i32_eq ⟨by omega, by omega⟩ | with_reducible exact i32_i32 _ | with_reducible exact i32_eq (b2i_inr _) | rfl) (by omega) (by omega) (by decide) dX11_part_367 ?_
          refine A_iconst dX11_part_368 ?_
          exact A_iret dX11_part_369 (by simp only [ptM]; first | (rw [if_pos h13]; done) | (rw [if_neg h13, if_neg (of_decide_eq_false h43)]; done) | (rw [if_neg h13, if_pos (of_decide_eq_true h43), if_pos hk4]; unfold ptX; first | (rw [if_pos h123]; done) | (rw [if_neg h123]; done) | (rw [if_neg h123]; rfl)) | (rw [if_neg h13, if_pos (of_decide_eq_true h43), if_neg hk4]; unfold ptX; first | (rw [if_pos h123]; done) | (rw [if_neg h123]; done) | (rw [if_neg h123]; rfl))) (by simp only [ptM]; first | (rw [if_pos h13]; done) | (rw [if_neg h13, if_neg (of_decide_eq_false h43)]; done) | (rw [if_neg h13, if_pos (of_decide_eq_true h43), if_pos hk4]; unfold ptX; first | (rw [if_pos h123]; done) | (rw [if_neg h123]; done) | (rw [if_neg h123]; rfl)) | (rw [if_neg h13, if_pos (of_decide_eq_true h43), if_neg hk4]; unfold ptX; first | (rw [if_pos h123]; done) | (rw [if_neg h123]; done) | (rw [if_neg h123]; rfl)))
        · refine A_aload_n dX11_part_126 rfl 4 rfl ?_
          refine A_iconst dX11_part_127 ?_
          refine A_aload_n dX11_part_128 rfl 4 rfl ?_
          refine A_geti fl_X11_144 lk_84 rfl dX11_part_129 ?_
          try simp (disch := omega) only [up_k, up_j, up_s, incS_s, incS_k, incS_j, thC_keep, ad11, ad21, ad31, ad41, ad12, nc0, nc1, nc2, nc3, nc4, nc5, nc6, nc7, nc8, nc9, nc10, nc11, nc12, nc13, nc14, nc15, nc16, nc17, nc18, nc19, nc20, nc21, fnC_inc, fnC_up]
          refine A_Va2 mv_X11_261 lk_84 rfl rfl (c_wrongT (by repeat (first | exact hT | refine Tk.i (by decide) ?_ | refine Tk.tC ?_ _ | refine Tk.x (by decide) ?_ | refine Tk.o (by decide) ?_)) _ _ ⟨by omega, by omega⟩) (Nat.le_of_ble_eq_true rfl) (by omega) (by omega) dX11_part_132 ?_
          try simp (disch := omega) only [incS_s, incS_k, incS_j, thC_keep, ad11, ad21, ad31, ad41, ad12, nc0, nc1, nc2, nc3, nc4, nc5, nc6, nc7, nc8, nc9, nc10, nc11, nc12, nc13, nc14, nc15, nc16, nc17, nc18, nc19, nc20, nc21, fnC_inc, fnC_up]
          exact A_iret dX11_part_135 (by simp only [ptM]; first | (rw [if_pos h13]; done) | (rw [if_neg h13, if_neg (of_decide_eq_false h43)]; done) | (rw [if_neg h13, if_pos (of_decide_eq_true h43), if_pos hk4]; unfold ptX; first | (rw [if_pos h123]; done) | (rw [if_neg h123]; done) | (rw [if_neg h123]; rfl)) | (rw [if_neg h13, if_pos (of_decide_eq_true h43), if_neg hk4]; unfold ptX; first | (rw [if_pos h123]; done) | (rw [if_neg h123]; done) | (rw [if_neg h123]; rfl))) (by simp only [ptM]; first | (rw [if_pos h13]; done) | (rw [if_neg h13, if_neg (of_decide_eq_false h43)]; done) | (rw [if_neg h13, if_pos (of_decide_eq_true h43), if_pos hk4]; unfold ptX; first | (rw [if_pos h123]; done) | (rw [if_neg h123]; done) | (rw [if_neg h123]; rfl)) | (rw [if_neg h13, if_pos (of_decide_eq_true h43), if_neg hk4]; unfold ptX; first | (rw [if_pos h123]; done) | (rw [if_neg h123]; done) | (rw [if_neg h123]; rfl)))
      · have hk4 : K (σ 84 8 + 1) = 4 := of_decide_eq_true h74
        obtain ⟨g3, g4⟩ : K (σ 84 8 + 2) = 22 ∧ b = σ 84 8 + 3 := by
          rcases g2 with z | z
          · exact z.2
          · exact absurd (hk4.symm.trans z.1) (by decide)
        have ha2 := hT.in g3 (by decide)
        have hfd := fnC_in (σ := σ) (ka := 93) (v := (V (σ 84 8 + 2))) hC2
        have hfi : i32 (fnC σ 93 (σ 84 15) (V (σ 84 8 + 2))) = fnC σ 93 (σ 84 15) (V (σ 84 8 + 2)) := fnC_i32 hC2
        rw [tkS_t (by simp (disch := omega) only [up_k, up_j, up_s, incS_s, incS_k, incS_j, thC_keep, ad11, ad21, ad31, ad41, ad12, nc0, nc1, nc2, nc3, nc4, nc5, nc6, nc7, nc8, nc9, nc10, nc11, nc12, nc13, nc14, nc15, nc16, nc17, nc18, nc19, nc20, nc21, fnC_inc, fnC_up]; exact hk4)]
        refine A_aload_n dX11_part_77 rfl 3 rfl ?_
        refine A_getr fl_X11_39 lk_84 rfl dX11_part_78 ?_
        refine A_aload_n dX11_part_81 rfl 3 rfl ?_
        refine A_geti fl_X11_247 lk_84 rfl dX11_part_82 ?_
        try simp (disch := omega) only [up_k, up_j, up_s, incS_s, incS_k, incS_j, thC_keep, ad11, ad21, ad31, ad41, ad12, nc0, nc1, nc2, nc3, nc4, nc5, nc6, nc7, nc8, nc9, nc10, nc11, nc12, nc13, nc14, nc15, nc16, nc17, nc18, nc19, nc20, nc21, fnC_inc, fnC_up]
        refine A_aload_n dX11_part_85 rfl 3 rfl ?_
        refine A_aload_n dX11_part_86 rfl 3 rfl ?_
        refine A_geti fl_X11_144 lk_84 rfl dX11_part_87 ?_
        try simp (disch := omega) only [up_k, up_j, up_s, incS_s, incS_k, incS_j, thC_keep, ad11, ad21, ad31, ad41, ad12, nc0, nc1, nc2, nc3, nc4, nc5, nc6, nc7, nc8, nc9, nc10, nc11, nc12, nc13, nc14, nc15, nc16, nc17, nc18, nc19, nc20, nc21, fnC_inc, fnC_up]
        refine A_Va1 mv_X11_265 lk_84 rfl rfl (c_nameT (by repeat (first | exact hT | refine Tk.i (by decide) ?_ | refine Tk.tC ?_ _ | refine Tk.x (by decide) ?_ | refine Tk.o (by decide) ?_)) _ ⟨by omega, by omega⟩) (Nat.le_of_ble_eq_true rfl) (by omega) (by omega) dX11_part_90 ?_
        try simp (disch := omega) only [incS_s, incS_k, incS_j, thC_keep, ad11, ad21, ad31, ad41, ad12, nc0, nc1, nc2, nc3, nc4, nc5, nc6, nc7, nc8, nc9, nc10, nc11, nc12, nc13, nc14, nc15, nc16, nc17, nc18, nc19, nc20, nc21, fnC_inc, fnC_up]
        refine A_Sa3 ms_X11_243 (c_X11_find_93 _ (σ 84 15) _ hC2) (Nat.le_of_ble_eq_true rfl) (by omega) (by omega) dX11_part_93 ?_
        try simp (disch := omega) only [incS_s, incS_k, incS_j, thC_keep, ad11, ad21, ad31, ad41, ad12, nc0, nc1, nc2, nc3, nc4, nc5, nc6, nc7, nc8, nc9, nc10, nc11, nc12, nc13, nc14, nc15, nc16, nc17, nc18, nc19, nc20, nc21, fnC_inc, fnC_up]
        refine A_goto (tgt := 118) dX11_part_96 (by decide) ?_
        refine A_istore (lv2 := [(4, _), (3, _), (2, _), (1, _), (0, _)]) dX11_part_118 (by decide) rfl ?_
        refine A_iload dX11_part_120 0 rfl ?_
        refine A_iconst dX11_part_122 ?_
        refine J_icmp_ne (tgt := 136) dX11_part_123 (by decide) (by first | exact hfi | exact i32_eq (by assumption) | exact i32_eq ⟨by omega, by omega⟩ | with_reducible exact i32_i32 _ | with_reducible exact i32_eq (b2i_inr _) | rfl) (by first | exact hfi | exact i32_eq (by assumption) | exact i32_eq ⟨by omega, by omega⟩ | with_reducible exact i32_i32 _ | with_reducible exact i32_eq (b2i_inr _) | rfl) (fun h123 => ?_) (fun h123 => ?_)
        · have hD1 := hD.1 (fnC σ 93 (σ 84 15) (V (σ 84 8 + 2))).toNat (by omega)
          refine A_inc fl_X11_144 lk_84 rfl 4 rfl dX11_part_136 dX11_part_137 dX11_part_138 dX11_part_141 dX11_part_142 dX11_part_143 ?_
          refine A_aload_n dX11_part_146 rfl 4 rfl ?_
          refine A_getr fl_X11_54 lk_84 rfl dX11_part_147 ?_
          refine A_iload_n dX11_part_150 rfl 3 rfl ?_
          refine A_dup2 dX11_part_151 rfl rfl ?_
          refine J_iald lk_98 (by first | exact hfi | exact i32_eq (by assumption) | exact i32_eq ⟨by omega, by omega⟩ | with_reducible exact i32_i32 _ | with_reducible exact i32_eq (b2i_inr _) | rfl) (by omega) (by omega) (by decide) dX11_part_152 ?_
          try simp (disch := omega) only [up_k, up_j, up_s, incS_s, incS_k, incS_j, thC_keep, ad11, ad21, ad31, ad41, ad12, nc0, nc1, nc2, nc3, nc4, nc5, nc6, nc7, nc8, nc9, nc10, nc11, nc12, nc13, nc14, nc15, nc16, nc17, nc18, nc19, nc20, nc21, fnC_inc, fnC_up]
          refine A_iconst dX11_part_153 ?_
          refine A_iadd dX11_part_154 ?_
          refine J_iast lk_98 (by first | exact hfi | exact i32_eq (by assumption) | exact i32_eq ⟨by omega, by omega⟩ | with_reducible exact i32_i32 _ | with_reducible exact i32_eq (b2i_inr _) | rfl) (by omega) (by omega) (by decide) dX11_part_155 ?_
          refine A_iload_n dX11_part_156 rfl 1 rfl ?_
          refine A_ifeq_b (tgt := 291) dX11_part_157 (by decide) (fun h => absurd (h74.symm.trans h) (by decide)) (fun _ => ?_)
          refine A_aload_n dX11_part_160 rfl 4 rfl ?_
          refine A_getr fl_X11_45 lk_84 rfl dX11_part_161 ?_
          refine A_iload_n dX11_part_164 rfl 3 rfl ?_
          refine A_dup2 dX11_part_165 rfl rfl ?_
          refine J_lald lk_95 (by first | exact hfi | exact i32_eq (by assumption) | exact i32_eq ⟨by omega, by omega⟩ | with_reducible exact i32_i32 _ | with_reducible exact i32_eq (b2i_inr _) | rfl) (by omega) (by omega) (by decide) dX11_part_166 ?_
          try simp (disch := omega) only [up_k, up_j, up_s, incS_s, incS_k, incS_j, thC_keep, ad11, ad21, ad31, ad41, ad12, nc0, nc1, nc2, nc3, nc4, nc5, nc6, nc7, nc8, nc9, nc10, nc11, nc12, nc13, nc14, nc15, nc16, nc17, nc18, nc19, nc20, nc21, fnC_inc, fnC_up]
          refine A_iload_n dX11_part_167 rfl 2 rfl ?_
          refine J_i2l dX11_part_168 (by first | exact hfi | exact i32_eq (by assumption) | exact i32_eq ⟨by omega, by omega⟩ | with_reducible exact i32_i32 _ | with_reducible exact i32_eq (b2i_inr _) | rfl) ?_
          refine A_aload_n dX11_part_169 rfl 4 rfl ?_
          refine A_getr fl_X11_45 lk_84 rfl dX11_part_170 ?_
          refine A_iload dX11_part_173 0 rfl ?_
          refine J_lald lk_95 (by first | exact hfi | exact i32_eq (by assumption) | exact i32_eq ⟨by omega, by omega⟩ | with_reducible exact i32_i32 _ | with_reducible exact i32_eq (b2i_inr _) | rfl) (by omega) (by omega) (by decide) dX11_part_175 ?_
          try simp (disch := omega) only [up_k, up_j, up_s, incS_s, incS_k, incS_j, thC_keep, ad11, ad21, ad31, ad41, ad12, nc0, nc1, nc2, nc3, nc4, nc5, nc6, nc7, nc8, nc9, nc10, nc11, nc12, nc13, nc14, nc15, nc16, nc17, nc18, nc19, nc20, nc21, fnC_inc, fnC_up]
          refine A_aload_n dX11_part_176 rfl 4 rfl ?_
          refine A_getr fl_X11_42 lk_84 rfl dX11_part_177 ?_
          refine A_iload dX11_part_180 0 rfl ?_
          refine J_iald lk_94 (by first | exact hfi | exact i32_eq (by assumption) | exact i32_eq ⟨by omega, by omega⟩ | with_reducible exact i32_i32 _ | with_reducible exact i32_eq (b2i_inr _) | rfl) (by omega) (by omega) (by decide) dX11_part_182 ?_
          try simp (disch := omega) only [up_k, up_j, up_s, incS_s, incS_k, incS_j, thC_keep, ad11, ad21, ad31, ad41, ad12, nc0, nc1, nc2, nc3, nc4, nc5, nc6, nc7, nc8, nc9, nc10, nc11, nc12, nc13, nc14, nc15, nc16, nc17, nc18, nc19, nc20, nc21, fnC_inc, fnC_up]
          refine J_i2l dX11_part_183 (by first | exact hfi | exact i32_eq (by assumption) | exact i32_eq ⟨by omega, by omega⟩ | with_reducible exact i32_i32 _ | with_reducible exact i32_eq (b2i_inr _) | rfl) ?_
          refine J_ldiv dX11_part_184 (by first | exact i64_eq ⟨by omega, by omega⟩ | rfl) (by first | exact i64_eq ⟨by omega, by omega⟩ | rfl) (by omega) ?_
          refine A_lmul dX11_part_185 ?_
          refine A_ladd dX11_part_186 ?_
          refine J_last lk_95 (by first | exact hfi | exact i32_eq (by assumption) | exact i32_eq ⟨by omega, by omega⟩ | with_reducible exact i32_i32 _ | with_reducible exact i32_eq (b2i_inr _) | rfl) (by omega) (by omega) (by decide) dX11_part_187 ?_
          refine A_aload_n dX11_part_188 rfl 4 rfl ?_
          refine A_getr fl_X11_48 lk_84 rfl dX11_part_189 ?_
          refine A_iload_n dX11_part_192 rfl 3 rfl ?_
          refine A_dup2 dX11_part_193 rfl rfl ?_
          refine J_lald lk_96 (by first | exact hfi | exact i32_eq (by assumption) | exact i32_eq ⟨by omega, by omega⟩ | with_reducible exact i32_i32 _ | with_reducible exact i32_eq (b2i_inr _) | rfl) (by omega) (by omega) (by decide) dX11_part_194 ?_
          try simp (disch := omega) only [up_k, up_j, up_s, incS_s, incS_k, incS_j, thC_keep, ad11, ad21, ad31, ad41, ad12, nc0, nc1, nc2, nc3, nc4, nc5, nc6, nc7, nc8, nc9, nc10, nc11, nc12, nc13, nc14, nc15, nc16, nc17, nc18, nc19, nc20, nc21, fnC_inc, fnC_up]
          refine A_iload_n dX11_part_195 rfl 2 rfl ?_
          refine J_i2l dX11_part_196 (by first | exact hfi | exact i32_eq (by assumption) | exact i32_eq ⟨by omega, by omega⟩ | with_reducible exact i32_i32 _ | with_reducible exact i32_eq (b2i_inr _) | rfl) ?_
          refine A_aload_n dX11_part_197 rfl 4 rfl ?_
          refine A_getr fl_X11_48 lk_84 rfl dX11_part_198 ?_
          refine A_iload dX11_part_201 0 rfl ?_
          refine J_lald lk_96 (by first | exact hfi | exact i32_eq (by assumption) | exact i32_eq ⟨by omega, by omega⟩ | with_reducible exact i32_i32 _ | with_reducible exact i32_eq (b2i_inr _) | rfl) (by omega) (by omega) (by decide) dX11_part_203 ?_
          try simp (disch := omega) only [up_k, up_j, up_s, incS_s, incS_k, incS_j, thC_keep, ad11, ad21, ad31, ad41, ad12, nc0, nc1, nc2, nc3, nc4, nc5, nc6, nc7, nc8, nc9, nc10, nc11, nc12, nc13, nc14, nc15, nc16, nc17, nc18, nc19, nc20, nc21, fnC_inc, fnC_up]
          refine A_aload_n dX11_part_204 rfl 4 rfl ?_
          refine A_getr fl_X11_42 lk_84 rfl dX11_part_205 ?_
          refine A_iload dX11_part_208 0 rfl ?_
          refine J_iald lk_94 (by first | exact hfi | exact i32_eq (by assumption) | exact i32_eq ⟨by omega, by omega⟩ | with_reducible exact i32_i32 _ | with_reducible exact i32_eq (b2i_inr _) | rfl) (by omega) (by omega) (by decide) dX11_part_210 ?_
          try simp (disch := omega) only [up_k, up_j, up_s, incS_s, incS_k, incS_j, thC_keep, ad11, ad21, ad31, ad41, ad12, nc0, nc1, nc2, nc3, nc4, nc5, nc6, nc7, nc8, nc9, nc10, nc11, nc12, nc13, nc14, nc15, nc16, nc17, nc18, nc19, nc20, nc21, fnC_inc, fnC_up]
          refine J_i2l dX11_part_211 (by first | exact hfi | exact i32_eq (by assumption) | exact i32_eq ⟨by omega, by omega⟩ | with_reducible exact i32_i32 _ | with_reducible exact i32_eq (b2i_inr _) | rfl) ?_
          refine J_ldiv dX11_part_212 (by first | exact i64_eq ⟨by omega, by omega⟩ | rfl) (by first | exact i64_eq ⟨by omega, by omega⟩ | rfl) (by omega) ?_
          refine A_lmul dX11_part_213 ?_
          refine A_ladd dX11_part_214 ?_
          refine J_last lk_96 (by first | exact hfi | exact i32_eq (by assumption) | exact i32_eq ⟨by omega, by omega⟩ | with_reducible exact i32_i32 _ | with_reducible exact i32_eq (b2i_inr _) | rfl) (by omega) (by omega) (by decide) dX11_part_215 ?_
          refine A_aload_n dX11_part_216 rfl 4 rfl ?_
          refine A_getr fl_X11_51 lk_84 rfl dX11_part_217 ?_
          refine A_iload_n dX11_part_220 rfl 3 rfl ?_
          refine A_dup2 dX11_part_221 rfl rfl ?_
          refine J_iald lk_97 (by first | exact hfi | exact i32_eq (by assumption) | exact i32_eq ⟨by omega, by omega⟩ | with_reducible exact i32_i32 _ | with_reducible exact i32_eq (b2i_inr _) | rfl) (by omega) (by omega) (by decide) dX11_part_222 ?_
          try simp (disch := omega) only [up_k, up_j, up_s, incS_s, incS_k, incS_j, thC_keep, ad11, ad21, ad31, ad41, ad12, nc0, nc1, nc2, nc3, nc4, nc5, nc6, nc7, nc8, nc9, nc10, nc11, nc12, nc13, nc14, nc15, nc16, nc17, nc18, nc19, nc20, nc21, fnC_inc, fnC_up]
          refine A_aload_n dX11_part_223 rfl 4 rfl ?_
          refine A_getr fl_X11_51 lk_84 rfl dX11_part_224 ?_
          refine A_iload dX11_part_227 0 rfl ?_
          refine J_iald lk_97 (by first | exact hfi | exact i32_eq (by assumption) | exact i32_eq ⟨by omega, by omega⟩ | with_reducible exact i32_i32 _ | with_reducible exact i32_eq (b2i_inr _) | rfl) (by omega) (by omega) (by decide) dX11_part_229 ?_
          try simp (disch := omega) only [up_k, up_j, up_s, incS_s, incS_k, incS_j, thC_keep, ad11, ad21, ad31, ad41, ad12, nc0, nc1, nc2, nc3, nc4, nc5, nc6, nc7, nc8, nc9, nc10, nc11, nc12, nc13, nc14, nc15, nc16, nc17, nc18, nc19, nc20, nc21, fnC_inc, fnC_up]
          refine A_ior dX11_part_230 ?_
          refine J_iast lk_97 (by first | exact hfi | exact i32_eq (by assumption) | exact i32_eq ⟨by omega, by omega⟩ | with_reducible exact i32_i32 _ | with_reducible exact i32_eq (b2i_inr _) | rfl) (by omega) (by omega) (by decide) dX11_part_231 ?_
          refine A_iconst dX11_part_232 ?_
          refine A_istore (lv2 := [(5, _), (4, _), (3, _), (2, _), (1, _), (0, _)]) dX11_part_233 (by decide) rfl ?_
          refine A_lv [0, 5, 4, 3, 1] rfl ?_
          refine w_X11_part (σ 84 15) (fnC σ 93 (σ 84 15) (V (σ 84 8 + 2))) (N (σ 84 8)) (by omega) (by omega) hN1 (by omega) 16 0 _ (by omega) ⟨by omega, by omega⟩ (by omega) (by simp (disch := omega) only [up_k, up_j, up_s, incS_s, incS_k, incS_j, thC_keep, ad11, ad21, ad31, ad41, ad12, nc0, nc1, nc2, nc3, nc4, nc5, nc6, nc7, nc8, nc9, nc10, nc11, nc12, nc13, nc14, nc15, nc16, nc17, nc18, nc19, nc20, nc21, fnC_inc, fnC_up]; omega) (by simp (disch := omega) only [up_k, up_j, up_s, incS_s, incS_k, incS_j, thC_keep, ad11, ad21, ad31, ad41, ad12, nc0, nc1, nc2, nc3, nc4, nc5, nc6, nc7, nc8, nc9, nc10, nc11, nc12, nc13, nc14, nc15, nc16, nc17, nc18, nc19, nc20, nc21, fnC_inc, fnC_up]; omega) ?_
          refine A_goto (tgt := 368) dX11_part_288 (by decide) ?_
          refine A_iconst dX11_part_368 ?_
          exact A_iret dX11_part_369 (by simp only [ptM]; first | (rw [if_pos h13]; done) | (rw [if_neg h13, if_neg (of_decide_eq_false h43)]; done) | (rw [if_neg h13, if_pos (of_decide_eq_true h43), if_pos hk4]; unfold ptX; first | (rw [if_pos h123]; done) | (rw [if_neg h123]; done) | (rw [if_neg h123]; rfl)) | (rw [if_neg h13, if_pos (of_decide_eq_true h43), if_neg hk4]; unfold ptX; first | (rw [if_pos h123]; done) | (rw [if_neg h123]; done) | (rw [if_neg h123]; rfl))) (by simp only [ptM]; first | (rw [if_pos h13]; done) | (rw [if_neg h13, if_neg (of_decide_eq_false h43)]; done) | (rw [if_neg h13, if_pos (of_decide_eq_true h43), if_pos hk4]; unfold ptX; first | (rw [if_pos h123]; done) | (rw [if_neg h123]; done) | (rw [if_neg h123]; rfl)) | (rw [if_neg h13, if_pos (of_decide_eq_true h43), if_neg hk4]; unfold ptX; first | (rw [if_pos h123]; done) | (rw [if_neg h123]; done) | (rw [if_neg h123]; rfl)))
        · refine A_aload_n dX11_part_126 rfl 4 rfl ?_
          refine A_iconst dX11_part_127 ?_
          refine A_aload_n dX11_part_128 rfl 4 rfl ?_
          refine A_geti fl_X11_144 lk_84 rfl dX11_part_129 ?_
          try simp (disch := omega) only [up_k, up_j, up_s, incS_s, incS_k, incS_j, thC_keep, ad11, ad21, ad31, ad41, ad12, nc0, nc1, nc2, nc3, nc4, nc5, nc6, nc7, nc8, nc9, nc10, nc11, nc12, nc13, nc14, nc15, nc16, nc17, nc18, nc19, nc20, nc21, fnC_inc, fnC_up]
          refine A_Va2 mv_X11_261 lk_84 rfl rfl (c_wrongT (by repeat (first | exact hT | refine Tk.i (by decide) ?_ | refine Tk.tC ?_ _ | refine Tk.x (by decide) ?_ | refine Tk.o (by decide) ?_)) _ _ ⟨by omega, by omega⟩) (Nat.le_of_ble_eq_true rfl) (by omega) (by omega) dX11_part_132 ?_
          try simp (disch := omega) only [incS_s, incS_k, incS_j, thC_keep, ad11, ad21, ad31, ad41, ad12, nc0, nc1, nc2, nc3, nc4, nc5, nc6, nc7, nc8, nc9, nc10, nc11, nc12, nc13, nc14, nc15, nc16, nc17, nc18, nc19, nc20, nc21, fnC_inc, fnC_up]
          exact A_iret dX11_part_135 (by simp only [ptM]; first | (rw [if_pos h13]; done) | (rw [if_neg h13, if_neg (of_decide_eq_false h43)]; done) | (rw [if_neg h13, if_pos (of_decide_eq_true h43), if_pos hk4]; unfold ptX; first | (rw [if_pos h123]; done) | (rw [if_neg h123]; done) | (rw [if_neg h123]; rfl)) | (rw [if_neg h13, if_pos (of_decide_eq_true h43), if_neg hk4]; unfold ptX; first | (rw [if_pos h123]; done) | (rw [if_neg h123]; done) | (rw [if_neg h123]; rfl))) (by simp only [ptM]; first | (rw [if_pos h13]; done) | (rw [if_neg h13, if_neg (of_decide_eq_false h43)]; done) | (rw [if_neg h13, if_pos (of_decide_eq_true h43), if_pos hk4]; unfold ptX; first | (rw [if_pos h123]; done) | (rw [if_neg h123]; done) | (rw [if_neg h123]; rfl)) | (rw [if_neg h13, if_pos (of_decide_eq_true h43), if_neg hk4]; unfold ptX; first | (rw [if_pos h123]; done) | (rw [if_neg h123]; done) | (rw [if_neg h123]; rfl)))
    · refine A_aload_n dX11_part_46 rfl 2 rfl ?_
      refine A_iconst dX11_part_47 ?_
      refine A_aload_n dX11_part_48 rfl 2 rfl ?_
      refine A_geti fl_X11_144 lk_84 rfl dX11_part_49 ?_
      try simp (disch := omega) only [up_k, up_j, up_s, incS_s, incS_k, incS_j, thC_keep, ad11, ad21, ad31, ad41, ad12, nc0, nc1, nc2, nc3, nc4, nc5, nc6, nc7, nc8, nc9, nc10, nc11, nc12, nc13, nc14, nc15, nc16, nc17, nc18, nc19, nc20, nc21, fnC_inc, fnC_up]
      refine A_Va2 mv_X11_261 lk_84 rfl rfl (c_wrongT hT _ _ ⟨by omega, by omega⟩) (Nat.le_of_ble_eq_true rfl) (by omega) (by omega) dX11_part_52 ?_
      try simp (disch := omega) only [incS_s, incS_k, incS_j, thC_keep, ad11, ad21, ad31, ad41, ad12, nc0, nc1, nc2, nc3, nc4, nc5, nc6, nc7, nc8, nc9, nc10, nc11, nc12, nc13, nc14, nc15, nc16, nc17, nc18, nc19, nc20, nc21, fnC_inc, fnC_up]
      exact A_iret dX11_part_55 (by simp only [ptM]; first | (rw [if_pos h13]; done) | (rw [if_neg h13, if_neg (of_decide_eq_false h43)]; done) | (rw [if_neg h13, if_pos (of_decide_eq_true h43), if_pos hk4]; unfold ptX; first | (rw [if_pos h123]; done) | (rw [if_neg h123]; done) | (rw [if_neg h123]; rfl)) | (rw [if_neg h13, if_pos (of_decide_eq_true h43), if_neg hk4]; unfold ptX; first | (rw [if_pos h123]; done) | (rw [if_neg h123]; done) | (rw [if_neg h123]; rfl))) (by simp only [ptM]; first | (rw [if_pos h13]; done) | (rw [if_neg h13, if_neg (of_decide_eq_false h43)]; done) | (rw [if_neg h13, if_pos (of_decide_eq_true h43), if_pos hk4]; unfold ptX; first | (rw [if_pos h123]; done) | (rw [if_neg h123]; done) | (rw [if_neg h123]; rfl)) | (rw [if_neg h13, if_pos (of_decide_eq_true h43), if_neg hk4]; unfold ptX; first | (rw [if_pos h123]; done) | (rw [if_neg h123]; done) | (rw [if_neg h123]; rfl)))
  · refine A_aload_n dX11_part_16 rfl 1 rfl ?_
    refine A_iconst dX11_part_17 ?_
    refine A_aload_n dX11_part_18 rfl 1 rfl ?_
    refine A_geti fl_X11_144 lk_84 rfl dX11_part_19 ?_
    try simp (disch := omega) only [up_k, up_j, up_s, incS_s, incS_k, incS_j, thC_keep, ad11, ad21, ad31, ad41, ad12, nc0, nc1, nc2, nc3, nc4, nc5, nc6, nc7, nc8, nc9, nc10, nc11, nc12, nc13, nc14, nc15, nc16, nc17, nc18, nc19, nc20, nc21, fnC_inc, fnC_up]
    refine A_Va2 mv_X11_261 lk_84 rfl rfl (c_wrongT hT _ _ ⟨by omega, by omega⟩) (Nat.le_of_ble_eq_true rfl) (by omega) (by omega) dX11_part_22 ?_
    try simp (disch := omega) only [incS_s, incS_k, incS_j, thC_keep, ad11, ad21, ad31, ad41, ad12, nc0, nc1, nc2, nc3, nc4, nc5, nc6, nc7, nc8, nc9, nc10, nc11, nc12, nc13, nc14, nc15, nc16, nc17, nc18, nc19, nc20, nc21, fnC_inc, fnC_up]
    exact A_iret dX11_part_25 (by simp only [ptM]; first | (rw [if_pos h13]; done) | (rw [if_neg h13, if_neg (of_decide_eq_false h43)]; done) | (rw [if_neg h13, if_pos (of_decide_eq_true h43), if_pos hk4]; unfold ptX; first | (rw [if_pos h123]; done) | (rw [if_neg h123]; done) | (rw [if_neg h123]; rfl)) | (rw [if_neg h13, if_pos (of_decide_eq_true h43), if_neg hk4]; unfold ptX; first | (rw [if_pos h123]; done) | (rw [if_neg h123]; done) | (rw [if_neg h123]; rfl))) (by simp only [ptM]; first | (rw [if_pos h13]; done) | (rw [if_neg h13, if_neg (of_decide_eq_false h43)]; done) | (rw [if_neg h13, if_pos (of_decide_eq_true h43), if_pos hk4]; unfold ptX; first | (rw [if_pos h123]; done) | (rw [if_neg h123]; done) | (rw [if_neg h123]; rfl)) | (rw [if_neg h13, if_pos (of_decide_eq_true h43), if_neg hk4]; unfold ptX; first | (rw [if_pos h123]; done) | (rw [if_neg h123]; done) | (rw [if_neg h123]; rfl)))
end S37
