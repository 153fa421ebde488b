/-! the law: the script, small numbers, writing to the row -/
section S79
variable {l : Launch} {G : Gx} {f : Fm} {own : String} {cc : ByteArray} {nL : Nat} {rt : Option FieldType} {b : Nat × Nat × Nat} {dd rc rs : Nat} {Q : State → Prop} {xs : va_W} {k n pc : Nat} {lv : List (Nat × Value)} {rest : List Value} {σ σ1 : Sg} {r : Option Value} {y : MethodName} {idx : Nat} {c2 : ByteArray} {nL2 : Nat} {rt2 : Option FieldType} {na d mc ms : Nat} {As : List Value}
/-- what the start says of the text of letters, beside its bytes -/
def XQ (a d : Nat) (U : State) : Prop := ∃ (cs arr : Cell) (k : Class), U.heap[a]? = some cs ∧ cs.vm.isStatics = false ∧ U.vm.classes[cs.cls]? = some k ∧ (k.kind = .ordinary → cs.slots.size = k.instanceTypes.size) ∧ U.vm.findClass "java/lang/String" = some cs.cls ∧ U.fieldOf? a "java/lang/String" "value" "[B" = some (.ref d) ∧ U.fieldOf? a "java/lang/String" "coder" "B" = some (.int 0) ∧ U.heap[d]? = some arr ∧ arr.slots.size = 6
theorem XQ.moved {a d : Nat} {s U : State} (hA : s.vm.Alike U.vm) (ha : U.heap[a]? = s.heap[a]?) (hd : U.heap[d]? = s.heap[d]?) (h : XQ a d s) : XQ a d U := by
  obtain ⟨cs, arr, k, h1, h2, h3, h4, h5, h6, h7, h8, h9⟩ := h
  obtain ⟨k', hk', he⟩ := hA.2.2 _ _ h3
  have hf : ∀ n d', U.fieldOf? a "java/lang/String" n d' = s.fieldOf? a "java/lang/String" n d' := fun n d' => by
    rw [← State.fieldOf?_setVm hA a]
    unfold State.fieldOf?
    rw [ha]
    rfl
  refine ⟨cs, arr, k', by rw [ha]; exact h1, h2, hk', fun w => ?_, by rw [hA.findClass]; exact h5, by rw [hf]; exact h6, by rw [hf]; exact h7, by rw [hd]; exact h8, h9⟩
  have e1 : k'.kind = k.kind := by rw [he]
  have e2 : k'.instanceTypes = k.instanceTypes := by rw [he]
  rw [e2]
  exact h4 (e1 ▸ w)
/-- the script: where it lies, its length, its ints; and the text of letters -/
def Scr (f : Fm) (bA L : Nat) (X : Nat → Int32) (aK aV : Nat) : Prop := va_X bA L X (fs f) (fs f).heap ∧ bA < (fs f).heap.size ∧ ¬ fA f bA ∧ XQ aK aV (fs f) ∧ ¬ fA f aK ∧ ¬ fA f aV ∧ va_AO "java/lang/String" (fs f)
theorem A_sld {bA L aK aV : Nat} {X : Nat → Int32} {j : Int} (h : Scr f bA L X aK aV) (h0 : 0 ≤ j) (h1 : j < L) (hL : L ≤ 2147483647) (d : decode cc pc = .ok (.iaload, 1)) (g : AW l G f (own, cc, nL, rt) b Q xs k n (pc + 1) lv (.int (I32 (X j.toNat).toInt) :: rest) σ) : AW l G f (own, cc, nL, rt) b Q xs k n pc lv (.int (I32 j) :: .ref bA :: rest) σ := fun ok H locs ls hl hP hD hS => by
  obtain ⟨c1, c2⟩ := I32_clamp h0 h1 hL
  refine va_sld ok.1 ok.2.1 h.1 h.2.1 h.2.2.1 hS c1 d ?_
  rw [c2, ← I32_of (X j.toNat)]
  exact g ok H locs ls hl hP hD hS
theorem A_slen {bA L aK aV : Nat} {X : Nat → Int32} (h : Scr f bA L X aK aV) (d : decode cc pc = .ok (.arraylength, 1)) (g : AW l G f (own, cc, nL, rt) b Q xs k n (pc + 1) lv (.int (I32 (L : Int)) :: rest) σ) : AW l G f (own, cc, nL, rt) b Q xs k n pc lv (.ref bA :: rest) σ := fun ok H locs ls hl hP hD hS => by
  refine va_slen ok.1 ok.2.1 h.1 h.2.1 h.2.2.1 hS d ?_
  exact g ok H locs ls hl hP hD hS
/-- a contract of a method that reads the script -/
def CtS (l : Launch) (G : Gx) (y : MethodName) (cc : ByteArray) (nL : Nat) (rt : Option FieldType) (d mc ms : Nat) (bA L : Nat) (X : Nat → Int32) (aK aV : Nat) (av : List Value) (σ : Sg) (r : Option Value) (σ' : Sg) : Prop :=
  ∀ sz : Nat, Met l y (.code y cc nL rt :: lw_all) (rmD d mc ms) (va_Pc av (fun U => (U.heap.size = sz ∧ va_P G.1 vwCl (wld G σ) U.heap ∧ va_K G.1 vwCl (tysG G) U ∧ va_D (fun _ => True) (wld G σ) ∧ ST G (va_A (wld G σ) sz) U U.heap) ∧ va_X bA L X U U.heap ∧ ¬ va_A (wld G σ) sz bA ∧ XQ aK aV U ∧ ¬ va_A (wld G σ) sz aK ∧ ¬ va_A (wld G σ) sz aV ∧ va_AO "java/lang/String" U))
    (fun _ st oc t => (oc = .returned r ∧ va_P G.1 vwCl (wld G σ') t.heap) ∧ va_F (va_A (wld G σ) sz) st t) mc ms (va_A (wld G σ) sz)
theorem CtS.of {bA L aK aV : Nat} {X : Nat → Int32} {av : List Value} {σ' : Sg} (hy : plainName y.cls = true) (hlen : (lg_sl av).length ≤ nL)
    (body : ∀ f : Fm, Scr f bA L X aK aV → AW l G f (y.cls, cc, nL, rt) (d, mc, ms) (QT G f mc ms r σ') [] 0 0 0 (lv_args 0 av) [] σ) : CtS l G y cc nL rt d mc ms bA L X aK aV av σ r σ' := by
  intro sz
  refine Met.ofW (cc := cc) (maxL := nL) (ret := rt) hy rfl ?_
  intro p e s m args below meth c s₁ B hml hv
  obtain ⟨rfl, ⟨hsz, hP, hK, hD0, hT⟩, hX, hbA, hXQ, hxa, hxd, hao⟩ := hv
  have hts := atoms_spec (ws := .code y cc nL rt :: lw_all) B.pre
  have hl := lv_entry av (n := nL) hlen
  rw [lg_entry_eq]
  generalize (lg_sl av ++ List.replicate (nL - (lg_sl av).length) Slot.unset).toArray = ls at hl ⊢
  subst hsz
  have hD := hD0.self (sz := s.heap.size)
  have h := body (p, e, (headSpec (.code y cc nL rt :: lw_all) (rmD d mc ms)).room, s, m, av.toArray, below, meth, c, va_A (wld G σ) s.heap.size) ⟨hX, Nat.lt_of_not_le (fun z => hbA (Or.inr z)), hbA, hXQ, hxa, hxd, hao⟩
  exact h ⟨B.exec, B.bytes, hml, findClass_of_methodNamed B.named, fun w hw => hts w (List.mem_cons_of_mem _ hw), hK, fun q hq => Or.inr hq, hT, B.returns, B.notSynchronized, Nat.le_refl _, Nat.le_refl _, Nat.le_refl _, Nat.le_refl _⟩
    s.heap [] ls hl (by rw [List.append_nil]; exact hP) (by rw [List.append_nil]; exact hD) va_S.rf
theorem CtS_blind {bA L aK aV : Nat} {X : Nat → Int32} {av : List Value} {sz : Nat} : FrameBlind (va_Pc av (fun U => (U.heap.size = sz ∧ va_P G.1 vwCl (wld G σ) U.heap ∧ va_K G.1 vwCl (tysG G) U ∧ va_D (fun _ => True) (wld G σ) ∧ ST G (va_A (wld G σ) sz) U U.heap) ∧ va_X bA L X U U.heap ∧ ¬ va_A (wld G σ) sz bA ∧ XQ aK aV U ∧ ¬ va_A (wld G σ) sz aK ∧ ¬ va_A (wld G σ) sz aV ∧ va_AO "java/lang/String" U)) := by
  rintro a U g mk ⟨h1, ⟨h2, h3, h4, h5, h6⟩, h7, h8, h9, h10, h11, h12⟩
  exact ⟨h1, ⟨h2, h3, va_K.moved (u := U) (U := U.calling g mk a) (Vm.Alike.refl U.vm) h4, h5, h6.call g mk a⟩, va_X.moved (u := U) (U := U.calling g mk a) (Vm.Alike.refl U.vm) h7, h8, XQ.moved (s := U) (U := U.calling g mk a) (Vm.Alike.refl U.vm) rfl rfl h9, h10, h11, va_AO.moved (u := U) (U := U.calling g mk a) (Vm.Alike.refl U.vm) h12⟩
theorem Scr_at {bA L aK aV : Nat} {X : Nat → Int32} {H : Heap} {locs : List Loc} (hX : Scr f bA L X aK aV) (ok : FxOk G f (own, cc, nL, rt) (dd, rc, rs)) (hD : va_D (fA f) (wld G σ ++ xs)) (hS : va_S (fA f) (fs f).heap H locs) : ∀ q, ¬ fA f q → ¬ va_A (wld G σ) H.size q := by
  intro q hq h
  rcases h with ⟨j, e, hj⟩ | hs
  · exact hq ((wld_D0 hD).2 j _ hj)
  · exact hq (ok.2.2.2.2.2.2.1 q (Nat.le_trans hS.1 hs))
theorem XQ.at {aK aV : Nat} {U : State} {H : Heap} {locs : List Loc} (hX : XQ aK aV (fs f)) (n1 : ¬ fA f aK) (n2 : ¬ fA f aV) (hS : va_S (fA f) (fs f).heap H locs) (hU : U.heap = H) (hW : (fs f).WarmedH U.vm) : XQ aK aV U := by
  have h1 : aK < (fs f).heap.size := by
    obtain ⟨cs, arr, k, e1, -⟩ := hX
    exact (Array.getElem?_eq_some_iff.mp e1).1
  have h2 : aV < (fs f).heap.size := by
    obtain ⟨cs, arr, k, -, -, -, -, -, -, -, e1, -⟩ := hX
    exact (Array.getElem?_eq_some_iff.mp e1).1
  exact hX.moved hW.alike (by rw [hU]; exact hS.2.1 aK h1 n1) (by rw [hU]; exact hS.2.1 aV h2 n2)
theorem CtS_pre {bA L aK aV : Nat} {X : Nat → Int32} {U : State} {H : Heap} {locs : List Loc} (hX : Scr f bA L X aK aV) (ok : FxOk G f (own, cc, nL, rt) (dd, rc, rs)) (hP : va_P G.1 vwCl (wld G σ ++ xs) H) (hD : va_D (fA f) (wld G σ ++ xs)) (hS : va_S (fA f) (fs f).heap H locs) (hU : U.heap = H) (hW : (fs f).WarmedH U.vm) : (U.heap.size = H.size ∧ va_P G.1 vwCl (wld G σ) U.heap ∧ va_K G.1 vwCl (tysG G) U ∧ va_D (fun _ => True) (wld G σ) ∧ ST G (va_A (wld G σ) H.size) U U.heap) ∧ va_X bA L X U U.heap ∧ ¬ va_A (wld G σ) H.size bA ∧ XQ aK aV U ∧ ¬ va_A (wld G σ) H.size aK ∧ ¬ va_A (wld G σ) H.size aV ∧ va_AO "java/lang/String" U := by
  have hn := Scr_at hX ok hD hS
  refine ⟨Ct_pre ok hP hD hS hU hW, ?_, hn bA hX.2.2.1, XQ.at hX.2.2.2.1 hX.2.2.2.2.1 hX.2.2.2.2.2.1 hS hU hW, hn aK hX.2.2.2.2.1, hn aV hX.2.2.2.2.2.1, va_AO.moved hW.alike hX.2.2.2.2.2.2⟩
  rw [hU]
  exact (va_X.moved hW.alike hX.1).kept (hS.2.1 bA hX.2.1 hX.2.2.1)
theorem A_callSs {bA L aK aV : Nat} {X : Nat → Int32} (hX : Scr f bA L X aK aV) (ml : MLS own idx y c2 nL2 rt2 na) (hct : CtS l G y c2 nL2 rt2 d mc ms bA L X aK aV As σ r σ1) (hn : As.length = na) (hroom : (rest.map fun v => v.category).sum ≤ 8) (hd : d + 1 ≤ dd) (hm : k + mc ≤ rc ∧ n + ms ≤ rs) (dec : decode cc pc = .ok (.invokestatic idx, 3))
    (g : AW l G f (own, cc, nL, rt) (dd, rc, rs) Q xs (k + mc) (n + ms) (pc + 3) lv (r.toList ++ rest) σ1) : AW l G f (own, cc, nL, rt) (dd, rc, rs) Q xs k n pc lv (As.reverse ++ rest) σ := by
  refine A_back (mc := mc) (ms := ms) (fun ok H locs ls hl hP hD hS => ?_) g
  obtain ⟨m1, m2, m4, m5, m6, m7⟩ := ml
  exact va_runS (Ts := lw_all) (own := own) (As := As) (rest := rest) (nL := nL) ⟨ok.1, ok.2.1, ok.2.2.1, ok.2.2.2.1, ok.2.2.2.2.1⟩ (hct H.size) (cwS na ok.2.2.2.2.1 (good_wsS m1 m2 m4 (good_cons m5)) rfl rfl rfl m6 ⟨Nat.le_trans hd ok.2.2.2.2.2.2.2.2.2.2.1, by have := ok.2.2.2.2.2.2.2.2.2.2.2.1; show 8 + (nL2 + 11) + 40 * d ≤ _; omega⟩)
    ⟨CtS_blind, fun U hU hW => ⟨rfl, CtS_pre hX ok hP hD hS hU hW⟩⟩ rfl hn hl.1 rfl (lv_room hroom) dec ⟨Nat.le_trans hm.1 ok.2.2.2.2.2.2.2.2.2.2.2.2.1, Nat.le_trans hm.2 ok.2.2.2.2.2.2.2.2.2.2.2.2.2⟩
/-- a number below n -/
def blV (v n : Int) : Int := iand v 2147483647 - (iand v 2147483647).tdiv n * n
theorem iand_m (v : Int) : 0 ≤ iand v 2147483647 := by
  unfold iand
  show 0 ≤ ((I32 v).toBitVec &&& 2147483647#32).toInt
  have h : ((I32 v).toBitVec &&& 2147483647#32).toNat ≤ 2147483647 := by
    rw [BitVec.toNat_and]
    exact Nat.and_le_right
  rw [BitVec.toInt_eq_toNat_of_lt (by omega)]
  omega
theorem blV_bd (v : Int) {n : Int} (hn : 1 ≤ n) : 0 ≤ blV v n ∧ blV v n < n := by
  have h0 := iand_m v
  have e : blV v n = iand v 2147483647 % n := by
    unfold blV
    rw [Int.tdiv_eq_ediv_of_nonneg h0, Int.emod_def, Int.mul_comm]
  rw [e]
  exact ⟨Int.emod_nonneg _ (by omega), Int.emod_lt_of_pos _ (by omega)⟩
/-- the script's int k, or one in its place -/
def clV (L : Nat) (X : Nat → Int32) (k : Int) : Int := if k < L then (X k.toNat).toInt else i32 (790386105 * (k + 3))
set_option maxRecDepth 100000 in
set_option maxHeartbeats 4000000 in
theorem c_L_below (σ : Sg) (v n : Int) (hn : 1 ≤ n ∧ n ≤ 1000) : Ct l G yL_below cL_below 2 (some .int) 0 0 0 [.int (I32 v), .int (I32 n)] σ (some (.int (I32 (blV v n)))) σ := by
  refine Ct.of (by decide +kernel) (Nat.le_of_ble_eq_true rfl) (fun f => ?_)
  show AW _ _ _ _ _ _ _ _ _ _ [(0, _), (1, _)] _ _
  refine A_iload_n dL_below_0 rfl 0 rfl ?_
  refine A_ldc kc_L_7 dL_below_1 ?_
  refine A_iand dL_below_3 ?_
  refine A_iload_n dL_below_4 rfl 1 rfl ?_
  refine J_irem dL_below_5 (i32_eq (I32_inr _)) (i32_n _ (by omega)) (by omega) ?_
  exact A_iret dL_below_6 rfl rfl
set_option maxRecDepth 100000 in
set_option maxHeartbeats 4000000 in
theorem c_L_cell (σ : Sg) {bA L aK aV : Nat} {X : Nat → Int32} (hL : L ≤ 2147483647) (k : Int) (hk : 0 ≤ k ∧ k ≤ 100) : CtS l G yL_cell cL_cell 2 (some .int) 0 0 0 bA L X aK aV [.ref bA, .int (I32 k)] σ (some (.int (I32 (clV L X k)))) σ := by
  refine CtS.of (by decide +kernel) (Nat.le_of_ble_eq_true rfl) (fun f hX => ?_)
  show AW _ _ _ _ _ _ _ _ _ _ [(0, _), (1, _)] _ _
  refine A_iload_n dL_cell_0 rfl 1 rfl ?_
  refine A_aload_n dL_cell_1 rfl 0 rfl ?_
  refine A_slen hX dL_cell_2 ?_
  refine J_icmp_ge (tgt := 12) dL_cell_3 (by decide) (i32_eq ⟨by omega, by omega⟩) (i32_eq ⟨by omega, by omega⟩) (fun h3 => ?_) (fun h3 => ?_)
  · refine A_ldc kc_L_8 dL_cell_12 ?_
    refine A_iload_n dL_cell_14 rfl 1 rfl ?_
    refine A_iconst dL_cell_15 ?_
    refine A_iadd dL_cell_16 ?_
    refine A_imul dL_cell_17 ?_
    exact A_iret dL_cell_18 (by unfold clV; rw [if_neg (by omega), I32_i32]) rfl
  · refine A_aload_n dL_cell_6 rfl 0 rfl ?_
    refine A_iload_n dL_cell_7 rfl 1 rfl ?_
    refine A_sld hX hk.1 (by omega) hL dL_cell_8 ?_
    refine A_goto (tgt := 18) dL_cell_9 (by decide) ?_
    exact A_iret dL_cell_18 (by unfold clV; rw [if_pos (by omega)]) rfl
/-! the row: how many bytes, and they -/
def Row (σ : Sg) (tx : List Int) : Prop := σ 86 0 = (tx.length : Int) ∧ ∀ j, j < tx.length → σ 86 (1 + j) = tx.getD j 0
def txL (i : Nat) : List Int := (bytS.getD i []).map Int32.toInt
theorem tl_g (i : Nat) : ((bytS.getD i []).length : Int) = (((bytS.map List.length).getD i 0 : Nat) : Int) := by
  rw [List.getD_eq_getElem?_getD, List.getD_eq_getElem?_getD, List.getElem?_map]
  cases bytS[i]? <;> rfl
theorem txL_len (i : Nat) : ((txL i).length : Int) = kl i := by unfold txL kl lenS; rw [List.length_map]; exact tl_g i
def ptE (i : Nat) (len : Int) : Nat → Nat → Sg → Sg
  | 0, _, σ => up σ 86 0 (σ 86 0 + kl i)
  | n + 1, k, σ => ptE i len n (k + 1) (up σ 86 (1 + len + k).toNat (kb i k))
set_option maxRecDepth 100000 in
set_option maxHeartbeats 4000000 in
theorem w_L_put {f : Fm} {i : Nat} (hi : oi G i) (hk : (lkG G)[86]? = some (.inr (1, 1400, 0))) {len : Int} (hl : 0 ≤ len ∧ len + kl i ≤ 1399) : ∀ (n k : Nat) (σ : Sg), (k : Int) + n = kl i → σ 86 0 = len → AW l G f (RL, cL_put, 3, none) (4, 0, 0) (QT G f 0 0 none (ptE i len n k σ)) [] 0 0 2 [(2, .int (I32 (k : Int))), (0, .ref (lay G 86)), (1, .ref (G.2.2.2.1 i))] [] σ := by
  intro n
  have hkl := klL_0 i hi.lt
  induction n using Nat.strongRecOn with | _ n ih =>
  intro k σ hn hσ
  refine A_iload_n dL_put_2 rfl 0 rfl ?_
  refine A_aload_n dL_put_3 rfl 2 rfl ?_
  refine A_Ka0 hi mv_L_9 rfl (c_J0_length_8abf5 _ _ hi) (Nat.le_of_ble_eq_true rfl) (by omega) (by omega) dL_put_4 ?_
  refine J_icmp_ge (tgt := 30) dL_put_7 (by decide) (by first | exact i32_eq (by assumption) | exact i32_eq ⟨by omega, by omega⟩ | with_reducible exact i32_i32 _ | with_reducible exact i32_eq (b2i_inr _) | rfl) (by first | exact i32_eq (by assumption) | exact i32_eq ⟨by omega, by omega⟩ | with_reducible exact i32_i32 _ | with_reducible exact i32_eq (b2i_inr _) | rfl) (fun h7 => ?_) (fun h7 => ?_)
  · refine A_aload_n dL_put_30 rfl 1 rfl ?_
    refine A_iconst dL_put_31 ?_
    refine A_dup2 dL_put_32 rfl rfl ?_
    refine J_iald hk (by first | exact i32_eq (by assumption) | exact i32_eq ⟨by omega, by omega⟩ | with_reducible exact i32_i32 _ | with_reducible exact i32_eq (b2i_inr _) | rfl) (by omega) (by omega) (by decide) dL_put_33 ?_
    try simp (disch := omega) only [up_k, up_j, up_s]
    refine A_aload_n dL_put_34 rfl 2 rfl ?_
    refine A_Ka0 hi mv_L_9 rfl (c_J0_length_8abf5 _ _ hi) (Nat.le_of_ble_eq_true rfl) (by omega) (by omega) dL_put_35 ?_
    refine A_iadd dL_put_38 ?_
    refine J_iast hk (by first | exact i32_eq (by assumption) | exact i32_eq ⟨by omega, by omega⟩ | with_reducible exact i32_i32 _ | with_reducible exact i32_eq (b2i_inr _) | rfl) (by omega) (by omega) (by decide) dL_put_39 ?_
    exact A_vret dL_put_40 rfl (by rw [show n = 0 by omega]; rfl)
  · refine A_aload_n dL_put_10 rfl 1 rfl ?_
    refine A_iconst dL_put_11 ?_
    refine A_aload_n dL_put_12 rfl 1 rfl ?_
    refine A_iconst dL_put_13 ?_
    refine J_iald hk (by first | exact i32_eq (by assumption) | exact i32_eq ⟨by omega, by omega⟩ | with_reducible exact i32_i32 _ | with_reducible exact i32_eq (b2i_inr _) | rfl) (by omega) (by omega) (by decide) dL_put_14 ?_
    try simp (disch := omega) only [up_k, up_j, up_s]
    rw [show σ 86 (Int.toNat 0) = len from hσ]
    refine A_iadd dL_put_15 ?_
    refine A_iload_n dL_put_16 rfl 0 rfl ?_
    refine A_iadd dL_put_17 ?_
    refine A_aload_n dL_put_18 rfl 2 rfl ?_
    refine A_iload_n dL_put_19 rfl 0 rfl ?_
    refine A_Ka1 hi mv_L_15 rfl (c_J0_charAt_5068e _ i _ hi (by rw [i32_n _ (by omega)]; omega)) (Nat.le_of_ble_eq_true rfl) (by omega) (by omega) dL_put_20 ?_
    rw [show (i32 (k : Int)).toNat = k from by rw [i32_n _ (by omega)]; omega]
    refine J_iast hk (by first | exact i32_eq (by assumption) | exact i32_eq ⟨by omega, by omega⟩ | with_reducible exact i32_i32 _ | with_reducible exact i32_eq (b2i_inr _) | rfl) (by omega) (by omega) (by decide) dL_put_23 ?_
    refine A_iinc (lv2 := [(2, _), (0, _), (1, _)]) dL_put_24 0 rfl (by decide) rfl ?_
    refine A_goto (tgt := 2) dL_put_27 (by decide) ?_
    refine A_lv [0, 1, 2] rfl ?_
    obtain ⟨n, rfl⟩ : ∃ q, n = q + 1 := ⟨n - 1, by omega⟩
    rw [show ((k : Int) + 1) = ((k + 1 : Nat) : Int) from by omega]
    exact ih n (by omega) (k + 1) _ (by omega) (by rw [up_j _ _ (by omega)]; exact hσ)
set_option maxRecDepth 100000 in
set_option maxHeartbeats 4000000 in
theorem c_L_put (σ : Sg) {i : Nat} (hi : oi G i) (hk : (lkG G)[86]? = some (.inr (1, 1400, 0))) {len : Int} (hl : 0 ≤ len ∧ len + kl i ≤ 1399) (hσ : σ 86 0 = len)  : Ct l G yL_put cL_put 3 none 4 0 0 [.ref (lay G 86), .ref (G.2.2.2.1 i)] σ (none) (ptE i len (kl i).toNat 0 σ) := by
  refine Ct.of (by decide +kernel) (Nat.le_of_ble_eq_true rfl) (fun f => ?_)
  show AW _ _ _ _ _ _ _ _ _ _ [(0, _), (1, _)] _ _
  refine A_iconst dL_put_0 ?_
  refine A_istore_n (lv2 := [(2, _), (0, _), (1, _)]) dL_put_1 rfl (by decide) rfl ?_
  refine A_lv [0, 1, 2] rfl ?_
  have hkl := klL_0 i hi.lt
  exact w_L_put hi hk hl (kl i).toNat 0 σ (by omega) hσ
theorem pt_at {i : Nat} {len : Int} (h0 : 0 ≤ len) : ∀ (n k : Nat) (σ : Sg), ptE i len n k σ 86 0 = σ 86 0 + kl i ∧ (∀ j : Nat, 1 ≤ j → ptE i len n k σ 86 j = if 1 + len + k ≤ j ∧ (j : Int) < 1 + len + k + n then kb i (j - 1 - len.toNat) else σ 86 j) ∧ ∀ q, q ≠ 86 → ptE i len n k σ q = σ q
  | 0, k, σ => ⟨up_s _ _ _ _, fun j hj => by
      rw [if_neg (by omega)]
      exact up_j _ _ (by omega), fun q hq => up_r _ _ _ hq⟩
  | n + 1, k, σ => by
    obtain ⟨a1, a2, a3⟩ := pt_at (i := i) h0 n (k + 1) (up σ 86 (1 + len + k).toNat (kb i k))
    refine ⟨?_, fun j hj => ?_, fun q hq => ?_⟩
    · show ptE i len n (k + 1) _ 86 0 = _
      rw [a1, up_j _ _ (by omega)]
    · show ptE i len n (k + 1) _ 86 j = _
      rw [a2 j hj, up_at]
      by_cases c : (j : Int) = 1 + len + k
      · rw [if_neg (by omega), if_pos (by omega), if_pos (by omega), show j - 1 - len.toNat = k from by omega]
      · by_cases c2 : 1 + len + k ≤ j ∧ (j : Int) < 1 + len + k + ((n + 1 : Nat) : Int)
        · rw [if_pos (by omega), if_pos c2]
        · rw [if_neg (by omega), if_neg (by omega), if_neg c2]
    · show ptE i len n (k + 1) _ q = _
      rw [a3 q hq, up_r _ _ _ hq]
theorem gd_app (a b : List Int) (j : Nat) : (a ++ b).getD j 0 = if j < a.length then a.getD j 0 else b.getD (j - a.length) 0 := by
  rw [List.getD_eq_getElem?_getD, List.getElem?_append]
  split
  · rw [List.getD_eq_getElem?_getD]
  · rw [List.getD_eq_getElem?_getD]
theorem kb_tx (i j : Nat) : kb i j = (txL i).getD j 0 := by
  unfold kb txL
  rw [List.getD_eq_getElem?_getD, List.getD_eq_getElem?_getD (l := List.map _ _), List.getElem?_map]
  cases (bytS.getD i [])[j]? <;> rfl
theorem pt_row {i : Nat} {tx : List Int} (h : Row σ tx) : Row (ptE i (tx.length : Int) (kl i).toNat 0 σ) (tx ++ txL i) := by
  obtain ⟨a1, a2, a3⟩ := pt_at (i := i) (len := (tx.length : Int)) (by omega) (kl i).toNat 0 σ
  have e := txL_len i
  refine ⟨by rw [a1, h.1, List.length_append]; omega, fun j hj => ?_⟩
  rw [List.length_append] at hj
  rw [a2 _ (by omega), gd_app]
  by_cases c : j < tx.length
  · rw [if_neg (by omega), if_pos c]; exact h.2 j c
  · rw [if_pos (by omega), if_neg c, kb_tx, show 1 + j - 1 - (tx.length : Int).toNat = j - tx.length from by omega]
theorem pt_r {i : Nat} {len : Int} (h0 : 0 ≤ len) {n k q : Nat} (hq : q ≠ 86) : ptE i len n k σ q = σ q := (pt_at h0 n k σ).2.2 q hq
/-- writing a number -/
def pnS : Nat → Int → Sg → Sg
  | 0, _, σ => σ
  | f + 1, n, σ => up (up (if 9 < n then pnS f (n / 10) σ else σ) 86 (1 + (if 9 < n then pnS f (n / 10) σ else σ) 86 0).toNat (48 + n % 10)) 86 0 ((if 9 < n then pnS f (n / 10) σ else σ) 86 0 + 1)
theorem dsF_len : ∀ (f : Nat) (n : Int), (dsF f n).length ≤ f
  | 0, _ => Nat.le_refl _
  | f + 1, n => by
    have := dsF_len f (n / 10)
    show ((if 9 < n then dsF f (n / 10) else []) ++ [48 + n % 10]).length ≤ _
    rw [List.length_append]
    split
    · show _ + 1 ≤ _; omega
    · show 0 + 1 ≤ _; omega
theorem row_1 {tx : List Int} {x : Int} (h : Row σ tx) : Row (up (up σ 86 (1 + σ 86 0).toNat x) 86 0 (σ 86 0 + 1)) (tx ++ [x]) := by
  refine ⟨by rw [up_s, h.1, List.length_append]; rfl, fun j hj => ?_⟩
  have hl : (tx ++ [x]).length = tx.length + 1 := by rw [List.length_append]; rfl
  rw [hl] at hj
  rw [up_j _ _ (by omega), up_at, h.1, gd_app]
  by_cases c : j < tx.length
  · rw [if_neg (by omega), if_pos c]; exact h.2 j c
  · rw [if_pos (by omega), if_neg c, show j - tx.length = 0 from by omega]; rfl
theorem pn_row : ∀ (f : Nat) (n : Int) (tx : List Int) (σ : Sg), Row σ tx → Row (pnS f n σ) (tx ++ dsF f n)
  | 0, n, tx, σ, h => by show Row σ (tx ++ []); rw [List.append_nil]; exact h
  | f + 1, n, tx, σ, h => by
    show Row (up (up (if 9 < n then pnS f (n / 10) σ else σ) 86 (1 + (if 9 < n then pnS f (n / 10) σ else σ) 86 0).toNat (48 + n % 10)) 86 0 ((if 9 < n then pnS f (n / 10) σ else σ) 86 0 + 1)) (tx ++ ((if 9 < n then dsF f (n / 10) else []) ++ [48 + n % 10]))
    rw [← List.append_assoc]
    by_cases c : 9 < n
    · rw [if_pos c, if_pos c]; exact row_1 (pn_row f (n / 10) tx σ h)
    · rw [if_neg c, if_neg c, List.append_nil]; exact row_1 h
theorem pn_r {q : Nat} (hq : q ≠ 86) : ∀ (f : Nat) (n : Int) (σ : Sg), pnS f n σ q = σ q
  | 0, _, _ => rfl
  | f + 1, n, σ => by
    show up (up _ 86 _ _) 86 0 _ q = _
    rw [up_r _ _ _ hq, up_r _ _ _ hq]
    split
    · exact pn_r hq f (n / 10) σ
    · rfl
set_option maxRecDepth 100000 in
set_option maxHeartbeats 4000000 in
theorem c_L_put_ (hk : (lkG G)[86]? = some (.inr (1, 1400, 0))) : ∀ (q : Nat) (n : Int) (σ : Sg) (tx : List Int), Row σ tx → tx.length + q + 1 ≤ 1399 → q ≤ 3 → (0 ≤ n ∧ n < (10 : Int) ^ q * 10) → Ct l G yL_put_ cL_put_ 2 none q 0 0 [.ref (lay G 86), .int (I32 n)] σ none (pnS (q + 1) n σ) := by
  intro q
  induction q using Nat.strongRecOn with | _ q ih =>
  intro n σ tx hR hl hq hn
  have hn4 : n < 10000 := by
    have e : (10 : Int) ^ q * 10 ≤ 10000 := by
      have cs : q = 0 ∨ q = 1 ∨ q = 2 ∨ q = 3 := by omega
      rcases cs with rfl | rfl | rfl | rfl <;> decide
    omega
  refine Ct.of (by decide +kernel) (Nat.le_of_ble_eq_true rfl) (fun f => ?_)
  show AW _ _ _ _ _ _ _ _ _ _ [(0, _), (1, _)] _ _
  refine A_iload_n dL_put__0 rfl 1 rfl ?_
  refine A_bipush dL_put__1 (by decide +kernel) ?_
  refine J_icmp_le (tgt := 14) dL_put__3 (by decide) (by first | exact i32_eq (by assumption) | exact i32_eq ⟨by omega, by omega⟩ | with_reducible exact i32_i32 _ | with_reducible exact i32_eq (b2i_inr _) | rfl) (by first | exact i32_eq (by assumption) | exact i32_eq ⟨by omega, by omega⟩ | with_reducible exact i32_i32 _ | with_reducible exact i32_eq (b2i_inr _) | rfl) (fun h3 => ?_) (fun h3 => ?_)
  · have hz0 := hR.1
    refine A_aload_n dL_put__14 rfl 0 rfl ?_
    refine A_iconst dL_put__15 ?_
    refine A_aload_n dL_put__16 rfl 0 rfl ?_
    refine A_iconst dL_put__17 ?_
    refine J_iald hk (by first | exact i32_eq (by assumption) | exact i32_eq ⟨by omega, by omega⟩ | with_reducible exact i32_i32 _ | with_reducible exact i32_eq (b2i_inr _) | rfl) (by omega) (by omega) (by decide) dL_put__18 ?_
    try rw [show Int.toNat 0 = 0 from rfl]
    refine A_iadd dL_put__19 ?_
    refine A_bipush dL_put__20 (by decide +kernel) ?_
    refine A_iload_n dL_put__22 rfl 1 rfl ?_
    refine A_bipush dL_put__23 (by decide +kernel) ?_
    refine J_irem dL_put__25 (by first | exact i32_eq (by assumption) | exact i32_eq ⟨by omega, by omega⟩ | with_reducible exact i32_i32 _ | with_reducible exact i32_eq (b2i_inr _) | rfl) (by first | exact i32_eq (by assumption) | exact i32_eq ⟨by omega, by omega⟩ | with_reducible exact i32_i32 _ | with_reducible exact i32_eq (b2i_inr _) | rfl) (by omega) ?_
    rw [show n - n.tdiv 10 * 10 = n % 10 from by rw [Int.tdiv_eq_ediv_of_nonneg hn.1]; omega]
    refine A_iadd dL_put__26 ?_
    refine J_iast hk (by first | exact i32_eq (by assumption) | exact i32_eq ⟨by omega, by omega⟩ | with_reducible exact i32_i32 _ | with_reducible exact i32_eq (b2i_inr _) | rfl) (by omega) (by omega) (by decide) dL_put__27 ?_
    refine A_aload_n dL_put__28 rfl 0 rfl ?_
    refine A_iconst dL_put__29 ?_
    refine A_dup2 dL_put__30 rfl rfl ?_
    refine J_iald hk (by first | exact i32_eq (by assumption) | exact i32_eq ⟨by omega, by omega⟩ | with_reducible exact i32_i32 _ | with_reducible exact i32_eq (b2i_inr _) | rfl) (by omega) (by omega) (by decide) dL_put__31 ?_
    try simp (disch := omega) only [up_k, up_j, up_s]
    refine A_iconst dL_put__32 ?_
    refine A_iadd dL_put__33 ?_
    try rw [show Int.toNat 0 = 0 from rfl]
    refine J_iast hk (by first | exact i32_eq (by assumption) | exact i32_eq ⟨by omega, by omega⟩ | with_reducible exact i32_i32 _ | with_reducible exact i32_eq (b2i_inr _) | rfl) (by omega) (by omega) (by decide) dL_put__34 ?_
    exact A_vret dL_put__35 rfl (by show up (up (if 9 < n then pnS _ (n / 10) σ else σ) 86 (1 + (if 9 < n then pnS _ (n / 10) σ else σ) 86 0).toNat (48 + n % 10)) 86 0 ((if 9 < n then pnS _ (n / 10) σ else σ) 86 0 + 1) = _; first | (rw [if_pos (by omega), hzz]; rfl) | (rw [if_neg (by omega)]; rfl))
  · obtain ⟨p, rfl⟩ : ∃ p, q = p + 1 := by
      cases q with
      | zero => exact absurd hn.2 (by omega)
      | succ p => exact ⟨p, rfl⟩
    rw [Int.pow_succ] at hn
    refine A_aload_n dL_put__6 rfl 0 rfl ?_
    refine A_iload_n dL_put__7 rfl 1 rfl ?_
    refine A_bipush dL_put__8 (by decide +kernel) ?_
    refine J_idiv dL_put__10 (by first | exact i32_eq (by assumption) | exact i32_eq ⟨by omega, by omega⟩ | with_reducible exact i32_i32 _ | with_reducible exact i32_eq (b2i_inr _) | rfl) (by first | exact i32_eq (by assumption) | exact i32_eq ⟨by omega, by omega⟩ | with_reducible exact i32_i32 _ | with_reducible exact i32_eq (b2i_inr _) | rfl) (by omega) ?_
    rw [Int.tdiv_eq_ediv_of_nonneg hn.1]
    refine A_Sv2 ms_L_19 (ih p (by omega) (n / 10) σ tx hR (by omega) (by omega) ⟨by omega, by omega⟩) (Nat.le_of_ble_eq_true rfl) (by omega) (by omega) dL_put__11 ?_
    have hz := pn_row (p + 1) (n / 10) tx σ hR
    have hdl := dsF_len (p + 1) (n / 10)
    have hz0 := hz.1
    rw [List.length_append] at hz0
    generalize hzz : pnS (p + 1) (n / 10) σ = z at hz0 ⊢
    refine A_aload_n dL_put__14 rfl 0 rfl ?_
    refine A_iconst dL_put__15 ?_
    refine A_aload_n dL_put__16 rfl 0 rfl ?_
    refine A_iconst dL_put__17 ?_
    refine J_iald hk (by first | exact i32_eq (by assumption) | exact i32_eq ⟨by omega, by omega⟩ | with_reducible exact i32_i32 _ | with_reducible exact i32_eq (b2i_inr _) | rfl) (by omega) (by omega) (by decide) dL_put__18 ?_
    try simp (disch := omega) only [up_k, up_j, up_s]
    try rw [show Int.toNat 0 = 0 from rfl]
    refine A_iadd dL_put__19 ?_
    refine A_bipush dL_put__20 (by decide +kernel) ?_
    refine A_iload_n dL_put__22 rfl 1 rfl ?_
    refine A_bipush dL_put__23 (by decide +kernel) ?_
    refine J_irem dL_put__25 (by first | exact i32_eq (by assumption) | exact i32_eq ⟨by omega, by omega⟩ | with_reducible exact i32_i32 _ | with_reducible exact i32_eq (b2i_inr _) | rfl) (by first | exact i32_eq (by assumption) | exact i32_eq ⟨by omega, by omega⟩ | with_reducible exact i32_i32 _ | with_reducible exact i32_eq (b2i_inr _) | rfl) (by omega) ?_
    rw [show n - n.tdiv 10 * 10 = n % 10 from by rw [Int.tdiv_eq_ediv_of_nonneg hn.1]; omega]
    refine A_iadd dL_put__26 ?_
    refine J_iast hk (by first | exact i32_eq (by assumption) | exact i32_eq ⟨by omega, by omega⟩ | with_reducible exact i32_i32 _ | with_reducible exact i32_eq (b2i_inr _) | rfl) (by omega) (by omega) (by decide) dL_put__27 ?_
    refine A_aload_n dL_put__28 rfl 0 rfl ?_
    refine A_iconst dL_put__29 ?_
    refine A_dup2 dL_put__30 rfl rfl ?_
    refine J_iald hk (by first | exact i32_eq (by assumption) | exact i32_eq ⟨by omega, by omega⟩ | with_reducible exact i32_i32 _ | with_reducible exact i32_eq (b2i_inr _) | rfl) (by omega) (by omega) (by decide) dL_put__31 ?_
    try simp (disch := omega) only [up_k, up_j, up_s]
    refine A_iconst dL_put__32 ?_
    refine A_iadd dL_put__33 ?_
    try rw [show Int.toNat 0 = 0 from rfl]
    refine J_iast hk (by first | exact i32_eq (by assumption) | exact i32_eq ⟨by omega, by omega⟩ | with_reducible exact i32_i32 _ | with_reducible exact i32_eq (b2i_inr _) | rfl) (by omega) (by omega) (by decide) dL_put__34 ?_
    exact A_vret dL_put__35 rfl (by show up (up (if 9 < n then pnS _ (n / 10) σ else σ) 86 (1 + (if 9 < n then pnS _ (n / 10) σ else σ) 86 0).toNat (48 + n % 10)) 86 0 ((if 9 < n then pnS _ (n / 10) σ else σ) 86 0 + 1) = _; first | (rw [if_pos (by omega), hzz]; rfl) | (rw [if_neg (by omega)]; rfl))
end S79
