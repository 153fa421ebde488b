/-! the law's menu, whole -/
section S79k
variable {l : Launch} {G : Gx} {σ τ : Sg} {bA L : Nat} {X : Nat → Int32}
theorem okx_by {x : Lx} (h : okx x) : ∀ b ∈ x.2, 0 ≤ b ∧ b < 128 := by
  intro b hb
  rcases h with ⟨-, h⟩ | ⟨-, -, h, -⟩ | ⟨-, -, h, -⟩ | ⟨-, h | h | h⟩
  · rw [h] at hb
    simp only [List.mem_cons, List.not_mem_nil, or_false] at hb
    omega
  · have := h b hb; omega
  · have := h b hb; omega
  · rw [h] at hb
    simp only [List.mem_cons, List.not_mem_nil, or_false] at hb
    omega
  · rw [h] at hb
    simp only [List.mem_cons, List.not_mem_nil, or_false] at hb
    omega
  · rw [h] at hb
    simp only [List.mem_cons, List.not_mem_nil, or_false] at hb
    omega
theorem wf_by : ∀ (a : List Lx), WfL a → ∀ b ∈ byL a, 0 ≤ b ∧ b < 128
  | [], _, b, hb => by cases hb
  | x :: a, h, b, hb => by
    have hb : b ∈ x.2 ++ byL a := hb
    rcases List.mem_append.mp hb with hb | hb
    · exact okx_by h.1 b hb
    · exact wf_by a h.2.2 b hb
theorem gd_mem {a : List Int} {j : Nat} (h : j < a.length) : a.getD j 0 ∈ a := by
  rw [List.getD_eq_getElem?_getD, List.getElem?_eq_getElem h]
  exact List.getElem_mem h
/-- what the menu leaves -/
def MP (L : Nat) (X : Nat → Int32) (D many : Nat) (σ : Sg) : Prop := (∃ y, Rel σ y) ∧ σ 12 2 = (D : Int) ∧ σ 9 16 = 2 ∧ σ 18 4 = (many : Int) ∧ (∀ i : Nat, i < many → σ 19 i = blV (clV L X (4 + (i : Int))) 4) ∧ σ 0 8 = -1 ∧ σ 0 9 = 0 ∧ ∀ i : Nat, i < many → σ 85 (4 * i) = blV (clV L X (4 + (i : Int))) 4
def mnV (L : Nat) (X : Nat → Int32) : Nat := (1 + blV (clV L X 3) 5).toNat
theorem mnV_e (L : Nat) (X : Nat → Int32) : (mnV L X : Int) = 1 + blV (clV L X 3) 5 ∧ mnV L X ≤ 5 ∧ 1 ≤ mnV L X := by
  have := blV_bd (clV L X 3) (n := 5) (by decide)
  unfold mnV
  omega
set_option maxRecDepth 100000 in
set_option maxHeartbeats 4000000 in
theorem c_L_menu (hlt : l.stackTraces = false) (hL : L ≤ 2147483647) {D : Nat} (hD : 2 ≤ D ∧ D ≤ 6) (hG : GOk G) (hlen : (lkG G).length = 86) (h84 : (lkG G)[84]? = some (.inr (1, 6, 0))) (h85 : (lkG G)[85]? = some (.inr (1, 24, 0))) (hRel : Rel σ τ) (hz : σ 1 1 = 0) : CtE l G yL_menu cL_menu 16 (some .int) 26 210 2600 bA L X (G.2.2.2.1 25) (G.2.2.2.2.1 25) [.ref (lay G 0), .ref bA, .int (I32 (D : Int)), .ref (lay G 84), .ref (lay G 85)] σ (some (.int (I32 (mnV L X : Int)))) (MP L X D (mnV L X)) := by
  refine CtE.of (by decide +kernel) (Nat.le_of_ble_eq_true rfl) (fun f hX => ?_)
  show AW _ _ _ _ _ _ _ _ _ _ [(0, _), (1, _), (2, _), (3, _), (4, _)] _ _
  obtain ⟨m1, m2, m3⟩ := mnV_e L X
  refine A_sipush dL_menu_0 (by decide +kernel) ?_
  refine A_newG (N := 1400) hG (by decide) (by decide) (by decide) ⟨by decide, by decide⟩ dL_menu_3 (fun a => ?_)
  rw [hlen]
  have e0 : lay G 0 = lay (Gn G a 1400) 0 := (lay_n (by omega)).symm
  have e84 : lay G 84 = lay (Gn G a 1400) 84 := (lay_n (by omega)).symm
  have e85 : lay G 85 = lay (Gn G a 1400) 85 := (lay_n (by omega)).symm
  have e86 : a = lay (Gn G a 1400) 86 := by rw [← hlen, lay_e]
  have k84 : (lkG (Gn G a 1400))[84]? = some (.inr (1, 6, 0)) := lk_n h84
  have k85 : (lkG (Gn G a 1400))[85]? = some (.inr (1, 24, 0)) := lk_n h85
  have k86 : (lkG (Gn G a 1400))[86]? = some (.inr (1, 1400, 0)) := by
    have := lk_e (G := G) (a := a) (N := 1400)
    rw [hlen] at this
    exact this
  refine A_astore (lv2 := [(5, _), (0, _), (1, _), (2, _), (3, _), (4, _)]) dL_menu_5 (by decide) rfl ?_
  refine A_iconst dL_menu_7 ?_
  refine A_istore (lv2 := [(6, _), (5, _), (0, _), (1, _), (2, _), (3, _), (4, _)]) dL_menu_8 (by decide) rfl ?_
  refine A_iconst dL_menu_10 ?_
  refine A_istore (lv2 := [(7, _), (6, _), (5, _), (0, _), (1, _), (2, _), (3, _), (4, _)]) dL_menu_11 (by decide) rfl ?_
  refine A_lv [0, 1, 3, 4, 5, 6, 7, 2] rfl ?_
  rw [e0, e84, e85]
  have hX2 : Scr f bA L X ((Gn G a 1400).2.2.2.1 25) ((Gn G a 1400).2.2.2.2.1 25) := hX
  generalize hG2 : Gn G a 1400 = G2 at e86 k84 k85 k86 hX2 ⊢
  rw [show Value.ref a = .ref (lay G2 86) from congrArg Value.ref e86]
  refine w_menu_A hX2 hL k84 k85 k86 hD D 0 (up0 σ 86) [] 1 _ _ (Nat.zero_add D) ⟨up0_s, fun j hj => absurd hj (Nat.not_lt_zero j)⟩ (by show 0 + 41 * D ≤ 300; omega) (by omega) (by omega) (fun σ1 tx1 tg1 r1 t1 n1 q1 => ?_)
  have n1 : tx1.length ≤ 246 := by
    have : ([] : List Int).length = 0 := rfl
    omega
  refine A_aload dL_menu_190 6 rfl ?_
  refine A_ldcs (i := 31) (by decide +kernel) dL_menu_192 ?_
  refine A_putk (m := 27) (oi_c ⟨by decide, by decide⟩) k86 r1 (by decide +kernel) (by omega) (Nat.le_of_ble_eq_true rfl) (by omega) (by omega) dL_menu_194 (fun σ2 tx2 r2 t2 n2 q2 => ?_)
  refine A_iconst dL_menu_197 ?_
  refine A_aload_n dL_menu_198 rfl 2 rfl ?_
  refine A_iconst dL_menu_199 ?_
  refine A_cell hX2 hL ⟨by omega, by omega⟩ (Nat.le_of_ble_eq_true rfl) (by omega) (by omega) dL_menu_200 ?_
  refine A_iconst dL_menu_203 ?_
  refine A_below (by omega) (Nat.le_of_ble_eq_true rfl) (by omega) (by omega) dL_menu_204 ?_
  refine A_iadd dL_menu_207 ?_
  rw [← m1]
  refine A_istore (lv2 := [(7, _), (6, _), (0, _), (1, _), (2, _), (3, _), (4, _), (5, _)]) dL_menu_208 (by decide) rfl ?_
  refine A_iconst dL_menu_210 ?_
  refine A_istore (lv2 := [(8, _), (7, _), (6, _), (0, _), (1, _), (2, _), (3, _), (4, _), (5, _)]) dL_menu_211 (by decide) rfl ?_
  refine w_menu_C hX2 hL k84 k85 k86 hD m2 tg1 (mnV L X) 0 σ2 tx2 _ _ (Nat.zero_add _) r2 (by omega) (by omega) (by omega) (fun i hi => absurd hi (Nat.not_lt_zero i)) (fun σ3 tx3 r3 t3 n3 q3 s3 => ?_)
  have hp : PgOk D (eV L X) (tV L X) (rlF L X D 0 (mnV L X)) := ⟨hD, fun k _ => ⟨(eV_bd L X k).1, by have := (eV_bd L X k).2; omega⟩, decide_eq_true (Or.inl rfl), by rw [rlF_len]; exact m2, rlF_ok hD _ 0⟩
  have htx : tx3 = byL (flat (prog D (eV L X) (tV L X) (rlF L X D 0 (mnV L X)))) := by
    rw [t3, t2, t1, t31]
    unfold prog
    rw [fl_app, by_app]
    show _ = _ ++ byL (mealL ++ flat _)
    rw [by_app, List.nil_append, List.append_assoc]
  have hlt3 : tx3.length ≤ 1399 := by omega
  have hq3 : ∀ q, q < 84 → σ3 q = σ q := fun q hq => by rw [q3 q ⟨by omega, by omega⟩, q2 q (by omega), q1 q ⟨by omega, by omega⟩]; exact up0_k (by omega)
  have hRel3 : Rel σ3 τ := hRel.cg1 (fun q hq => hq3 q hq)
  have hwf : WfL (flat (prog D (eV L X) (tV L X) (rlF L X D 0 (mnV L X)))) := (flt_ok (pg_if hp).1).1
  obtain ⟨σ4, hct, ⟨y, hy⟩, h11, hby, hq4⟩ := c_L_lay (G := G2) hlt k86 hRel3 (by rw [hq3 1 (by decide)]; exact hz) r3 hlt3 (fun j hj => by
    have h := gd_mem hj
    rw [htx] at h ⊢
    exact wf_by _ hwf _ h)
  obtain ⟨c1, c2, c3, c4, c5, c6, c7⟩ := comp_ok hy hp (by rw [h11, htx]) (by rw [← htx]; omega) (fun j hj => by
    rw [← htx] at hj ⊢
    exact hby j hj)
  refine A_aload_n dL_menu_573 rfl 1 rfl ?_
  refine A_aload dL_menu_574 6 rfl ?_
  refine A_callS (As := [.ref (lay G2 0), .ref (lay G2 86)]) ms_L_85 hct rfl (Nat.le_of_ble_eq_true rfl) (by omega) (by omega) dL_menu_576 ?_
  refine A_if_eq (tgt := 594) dL_menu_579 (by decide) ⟨by decide, by decide⟩ (fun h => absurd h (by decide)) (fun _ => ?_)
  refine A_aload_n dL_menu_582 rfl 1 rfl ?_
  refine A_Va0 mv_L_89 lk_0 rfl rfl (c_X10_compile σ4 (by rw [h11, i32_n _ (by omega)]; omega)) (Nat.le_of_ble_eq_true rfl) (by omega) (by omega) dL_menu_583 ?_
  rw [c1]
  refine A_if_ne (tgt := 594) dL_menu_586 (by decide) ⟨by decide, by decide⟩ (fun h => absurd rfl h) (fun _ => ?_)
  refine A_iload dL_menu_589 0 rfl ?_
  refine A_goto (tgt := 595) dL_menu_591 (by decide) ?_
  refine A_wid (k2 := 210) (n2 := 2600) (by omega) (by omega) ?_
  subst hG2
  refine A_iretE hG dL_menu_595 rfl ⟨⟨_, hy.compile.2⟩, c2, c3, ?_, fun i hi => ?_, c6, c7, fun i hi => ?_⟩
  · rw [c4, rlF_len]
  · rw [c5 i (by rw [rlF_len]; exact hi), rlF_at L X D _ 0 i hi]
    have := blV_bd (clV L X (4 + (i : Int))) (n := 4) (by decide)
    show ((blV (clV L X (4 + ((0 + i : Nat) : Int))) 4).toNat : Int) = _
    rw [Nat.zero_add]
    omega
  · rw [hy.compile_c (by decide), hq4 85 (by decide)]
    exact s3 i hi
end S79k
