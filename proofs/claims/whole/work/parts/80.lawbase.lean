/-! methods with a table of handlers, and calls of methods that may throw -/
section S80a
theorem met_ofWH {l : Launch} {y : MethodName} {ws ws' : List Cond} {rm : Room} {Pc : Array Value → State → Prop} {Qc : Array Value → State → Outcome → State → Prop} {mc ms : Nat} {free : Addr → Prop} {cc : ByteArray} {maxL : Nat} {ret : Option FieldType} {hh : List (Nat × Nat × Nat × Nat)}
    (hy : plainName y.cls = true) (hw : ws = Cond.codeWith y cc maxL ret hh :: ws')
    (body : ∀ p e s m args below meth c s₁, BodyLoose p l y (headSpec ws rm) cc maxL ret e s m args below meth c s₁ → c.maxLocals = maxL → c.exceptionTable.toList = tableOf hh → Pc args s →
      W p l e (headSpec ws rm).room s m args below meth c s.heap [] 0 0 (MQ below Qc args s mc ms free) (entryFrame m args maxL)) : Met l y ws rm Pc Qc mc ms free := by
  refine MetFree.of_bodyS (code := cc) (maxLocals := maxL) (ret := ret) hy ?_ ?_
  · intro args s m h hn
    obtain ⟨m9, meth, c, hn9, h1, h2, h3, h4, -, h5, h6, -⟩ := Cond.codeWith_spec (atoms_spec (ws := ws) h _ (by rw [hw]; exact List.mem_cons_self))
    cases hn.symm.trans hn9
    exact ⟨meth, c, h1, h2, h3, h4, h5, h6⟩
  · intro p e s m args below meth c s₁ B hml hP _
    have hh0 : s₁.heap = s.heap := by rw [B.state]; rfl
    have ht := vx_table (x := y) B (atoms_spec (ws := ws) B.pre _ (by rw [hw]; exact List.mem_cons_self))
    obtain ⟨t, a1, o, b1, b2, b3⟩ := body p e s m args below meth c s₁ B hml ht hP s₁ hh0 (Stand.of_body B)
    exact ⟨t, o, a1, b1, b2, ⟨b3.1, b3.2⟩⟩
/-- a contract of a method with handlers -/
def CtH (l : Launch) (G : Gx) (y : MethodName) (cc : ByteArray) (nL : Nat) (rt : Option FieldType) (hh : List (Nat × Nat × Nat × Nat)) (d mc ms : Nat) (av : List Value) (σ : Sg) (r : Option Value) (σ' : Sg) : Prop :=
  ∀ sz : Nat, Met l y (.codeWith y cc nL rt hh :: lw_all) (rmD d mc ms) (va_Pc av (fun U => U.heap.size = sz ∧ va_P G.1 vwCl (wld G σ) U.heap ∧ va_K G.1 vwCl (tysG G) U ∧ va_D (fun _ => True) (wld G σ) ∧ ST G (va_A (wld G σ) sz) U U.heap))
    (fun _ st oc t => (oc = .returned r ∧ va_P G.1 vwCl (wld G σ') t.heap) ∧ va_F (va_A (wld G σ) sz) st t) mc ms (va_A (wld G σ) sz)
theorem CtH.of {l : Launch} {G : Gx} {y : MethodName} {cc : ByteArray} {nL : Nat} {rt : Option FieldType} {hh : List (Nat × Nat × Nat × Nat)} {d mc ms : Nat} {av : List Value} {σ : Sg} {r : Option Value} {σ' : Sg} (hy : plainName y.cls = true) (hlen : (lg_sl av).length ≤ nL)
    (body : ∀ f : Fm, (fc f).exceptionTable.toList = tableOf hh → AW l G f (y.cls, cc, nL, rt) (d, mc, ms) (QT G f mc ms r σ') [] 0 0 0 (lv_args 0 av) [] σ) : CtH l G y cc nL rt hh d mc ms av σ r σ' := by
  intro sz
  refine met_ofWH (cc := cc) (maxL := nL) (ret := rt) hy rfl ?_
  intro p e s m args below meth c s₁ B hml htab hv
  obtain ⟨rfl, hsz, hP, hK, hD0, hT⟩ := hv
  have hts := atoms_spec (ws := .codeWith y cc nL rt hh :: lw_all) B.pre
  have hl := lv_entry av (n := nL) hlen
  rw [lg_entry_eq]
  generalize (lg_sl av ++ List.replicate (nL - (lg_sl av).length) Slot.unset).toArray = ls at hl ⊢
  subst hsz
  have hD := hD0.self (sz := s.heap.size)
  have h := body (p, e, (headSpec (.codeWith y cc nL rt hh :: lw_all) (rmD d mc ms)).room, s, m, av.toArray, below, meth, c, va_A (wld G σ) s.heap.size) htab
  exact h ⟨B.exec, B.bytes, hml, findClass_of_methodNamed B.named, fun w hw => hts w (List.mem_cons_of_mem _ hw), hK, fun q hq => Or.inr hq, hT, B.returns, B.notSynchronized, Nat.le_refl _, Nat.le_refl _, Nat.le_refl _, Nat.le_refl _⟩
    s.heap [] ls hl (by rw [List.append_nil]; exact hP) (by rw [List.append_nil]; exact hD) va_S.rf
end S80a
section S80
variable {l : Launch} {G : Gx} {f : Fm} {own : String} {cc : ByteArray} {nL : Nat} {rt : Option FieldType} {dd rc rs : Nat} {Q : State → Prop} {xs : va_W} {k n pc : Nat} {lv : List (Nat × Value)} {rest : List Value} {σ σ1 : Sg} {r : Option Value} {y : MethodName} {idx : Nat} {c2 : ByteArray} {nL2 : Nat} {rt2 : Option FieldType} {na d mc ms : Nat} {As : List Value}
def MSH (own : String) (idx : Nat) (y : MethodName) (cc : ByteArray) (nL : Nat) (rt : Option FieldType) (hh : List (Nat × Nat × Nat × Nat)) (na : Nat) : Prop := Cond.methodLink own idx y ∈ lw_all ∧ Cond.static y ∈ lw_all ∧ Cond.initialized y.cls ∈ lw_all ∧ Cond.codeWith y cc nL rt hh ∈ lw_all ∧ (y.cls ≠ "java/lang/invoke/MethodHandle" ∧ y.cls ≠ "java/lang/invoke/VarHandle" ∧ (parseMethodDescriptor y.desc).map (fun d => d.parameters.length) = some na) ∧ nL ≤ 20
theorem A_callSH {hh : List (Nat × Nat × Nat × Nat)} (ml : MSH own idx y c2 nL2 rt2 hh na) (hct : CtH l G y c2 nL2 rt2 hh d mc ms As σ r σ1) (hn : As.length = na) (hroom : (rest.map fun v => v.category).sum ≤ 8) (hd : d + 1 ≤ dd) (hm : k + mc ≤ rc ∧ n + ms ≤ rs) (dec : decode cc pc = .ok (.invokestatic idx, 3))
    (g : AW l G f (own, cc, nL, rt) (dd, rc, rs) Q xs (k + mc) (n + ms) (pc + 3) lv (r.toList ++ rest) σ1) : AW l G f (own, cc, nL, rt) (dd, rc, rs) Q xs k n pc lv (As.reverse ++ rest) σ := by
  refine A_back (mc := mc) (ms := ms) (fun ok H locs ls hl hP hD hS => ?_) g
  obtain ⟨m1, m2, m4, m5, m6, m7⟩ := ml
  exact vx_runSW (Ts := lw_all) (own := own) (As := As) (rest := rest) (nL := nL) ⟨ok.1, ok.2.1, ok.2.2.1, ok.2.2.2.1, ok.2.2.2.2.1⟩ (hct H.size) (vx_cwSW na ok.2.2.2.2.1 (good_wsT m1 m2 m4 (good_cons m5)) rfl rfl rfl m6 ⟨Nat.le_trans hd ok.2.2.2.2.2.2.2.2.2.2.1, by have := ok.2.2.2.2.2.2.2.2.2.2.2.1; show 8 + (nL2 + 11) + 40 * d ≤ _; omega⟩)
    ⟨Ct_blind, fun U hU hW => ⟨rfl, Ct_pre ok hP hD hS hU hW⟩⟩ rfl hn hl.1 rfl (lv_room hroom) dec ⟨Nat.le_trans hm.1 ok.2.2.2.2.2.2.2.2.2.2.2.2.1, Nat.le_trans hm.2 ok.2.2.2.2.2.2.2.2.2.2.2.2.2⟩
/-- what a thrown E finds in the table: the row that takes it -/
def Caught (f : Fm) (own : String) (pc : Nat) (E : String) (h : Nat) : Prop := ∃ (pre : List ExceptionTableEntry) (x : ExceptionTableEntry) (suf : List ExceptionTableEntry), (fc f).exceptionTable.toList = pre ++ x :: suf ∧
  (∀ z ∈ pre, covers z pc = false ∨ (z.catchType ≠ 0 ∧ ∃ nm : String, Cond.classLink own z.catchType nm ∈ lw_all ∧ (E, nm) ∈ ncS)) ∧ covers x pc = true ∧ x.catchType ≠ 0 ∧ Cond.classLink own x.catchType E ∈ lw_all ∧ E ∈ exS ∧ x.handlerPc = h
theorem A_try {kk ci : Nat} {cs : List Nat} {C : String} {TT : u_T} {NN : Nat} {o : Rs} (ml : MLV own idx y c2 nL2 rt2 na) (hk : lkL[kk]? = some (.inl (ci, cs))) (hci : vwCl[ci]? = some (C, TT, NN)) (hC : y.cls = C) (hct : CtX l G y c2 nL2 rt2 d mc ms (.ref (lay G kk) :: As) σ o σ1) (hn : As.length = na) (hroom : (rest.map fun v => v.category).sum ≤ 8) (hd : d + 1 ≤ dd) (hm : k + mc ≤ rc ∧ n + ms ≤ rs) (dec : decode cc pc = .ok (.invokevirtual idx, 3))
    (gn : ∀ r, o = .inl r → AW l G f (own, cc, nL, rt) (dd, rc, rs) Q xs (k + mc) (n + ms) (pc + 3) lv (r.toList ++ rest) σ1)
    (gx : ∀ E, o = .inr E → ∃ h, Caught f own pc E h ∧ ∀ q, AW l G f (own, cc, nL, rt) (dd, rc, rs) Q xs (k + mc) (n + ms) h lv [.ref q] σ1) : AW l G f (own, cc, nL, rt) (dd, rc, rs) Q xs k n pc lv (As.reverse ++ .ref (lay G kk) :: rest) σ := by
  subst hC
  intro ok H locs ls hl hP hD hS T hT X
  obtain ⟨m1, m2, m3, m4, m5, m6, m7⟩ := ml
  have hrun : vx_Run (fp f) l (fe f) (fR f) (fs f) (fm f) (fa f) (fb f) (fme f) (fc f) H locs k n mc ms (F0 (fm f) pc ls (As.reverse ++ .ref (lay G kk) :: rest)) rest (fun st oc t => (∃ r, o = .inl r ∧ oc = .returned r ∧ va_P G.1 vwCl (wld G σ1) t.heap) ∧ va_F (va_A (wld G σ) H.size) st t) (fun E st t => (o = .inr E ∧ va_P G.1 vwCl (wld G σ1) t.heap) ∧ va_F (va_A (wld G σ) H.size) st t) (va_A (wld G σ) H.size) := vx_runV (Ts := lw_all) (own := own) (C := y.cls) (As := As) (rest := rest) (nL := nL) ⟨ok.1, ok.2.1, ok.2.2.1, ok.2.2.2.1, ok.2.2.2.2.1⟩ (hct H.size) (cwV na ok.2.2.2.2.1 (good_wsV m1 m2 m3 m4 (good_cons m5)) rfl rfl rfl ⟨rfl, m6⟩ ⟨Nat.le_trans hd ok.2.2.2.2.2.2.2.2.2.2.1, by have := ok.2.2.2.2.2.2.2.2.2.2.2.1; show 8 + (nL2 + 11) + 40 * d ≤ _; omega⟩)
    ⟨Ct_blind, va_recv ok.2.2.2.2.2.1 hP hci (wldx_at hk), fun U hU hW => ⟨rfl, Ct_pre ok hP hD hS hU hW⟩⟩ rfl hn hl.1 rfl (lv_room hroom) dec ⟨Nat.le_trans hm.1 ok.2.2.2.2.2.2.2.2.2.2.2.2.1, Nat.le_trans hm.2 ok.2.2.2.2.2.2.2.2.2.2.2.2.2⟩
  have hA : ∀ q, va_A (wld G σ) H.size q → fA f q := by
    rintro q (⟨j, e, hj⟩ | hs)
    · exact (wld_D0 hD).2 j _ hj
    · exact ok.2.2.2.2.2.2.1 q (Nat.le_trans hS.1 hs)
  have keep : ∀ (st₀ t T2 : State) (L : List Loc), st₀.heap = H → T2.heap = t.heap → va_F (va_A (wld G σ) H.size) st₀ t → (∀ q ∈ L, va_A (wld G σ) H.size q.base) → (∀ q : Nat, q < H.size → ¬ va_A (wld G σ) H.size q → T2.heap[q]? = H[q]?) ∧ va_S (fA f) (fs f).heap T2.heap (locs ++ L) := by
    intro st₀ t T2 L h0 e1 hF hL
    obtain ⟨hz, hk⟩ := hF
    rw [h0] at hz hk
    refine ⟨by rw [e1]; exact hk, Nat.le_trans hS.1 (by rw [e1]; exact hz), fun q h1 h2 => by rw [e1, hk q (Nat.lt_of_lt_of_le h1 hS.1) (fun z => h2 (hA q z))]; exact hS.2.1 q h1 h2, fun q hq => ?_⟩
    rcases List.mem_append.mp hq with h | h
    · exact hS.2.2 q h
    · exact hA _ (hL q h)
  rcases hrun T hT X with ⟨v, st₀, t, T2, L, h0, X2, hL, e1, e2, ⟨⟨r, ho, hv, hP1⟩, hF⟩, st⟩ | ⟨q, st₀, t, T2, L, E, ce, h0, X2, hL, e1, e2, ⟨⟨ho, hP1⟩, hF⟩, hce, hcv, hcl, st⟩
  · have hv : v = r := by cases hv; rfl
    subst hv
    obtain ⟨hk2, hS1⟩ := keep st₀ t T2 L h0 e1 hF hL
    rw [← e1] at hP1
    obtain ⟨t2, a1, b1⟩ := gn v ho ok T2.heap (locs ++ L) ls hl (wld_P1 hP hD hP1 hk2) (wldx_D hD) hS1 T2 rfl X2
    exact ⟨t2, st t2 a1, b1⟩
  · obtain ⟨hk2, hS1⟩ := keep st₀ t T2 L h0 e1 hF hL
    rw [← e1] at hP1
    obtain ⟨h, ⟨pre, x, suf, q1, q2, q3, q4, q5, q6, q7⟩, g⟩ := gx E ho
    subst q7
    have hT := ok.2.2.2.2.2.2.2.1
    obtain ⟨t1, t2, t3, t4, t5, t6, t7, t8, t9⟩ := hT
    have w5 := ok.2.2.2.2.1
    have hkk : W (fp f) l (fe f) (fR f) (fs f) (fm f) (fa f) (fb f) (fme f) (fc f) T2.heap (locs ++ L) (k + mc) (n + ms) Q (F0 (fm f) x.handlerPc ls [.ref q]) := g q ok T2.heap (locs ++ L) ls hl (wld_P1 hP hD hP1 hk2) (wldx_D hD) hS1
    have hw := vx_catch (rest := rest) (pc := pc) ok.2.2.2.1 pre x suf q1 (fun z hz => (q2 z hz).imp id (fun ⟨w1, nm, w2, w3⟩ => ⟨w1, nm, w5 _ w2, t9.2.2.1 _ w3⟩)) q3 q4 (w5 _ q5) (va_Nw.use rfl (t9.2.1 E q6)) (by rw [e1]; exact hce) hcv hcl hkk
    obtain ⟨t2, a1, b1⟩ := hw T2 rfl X2
    exact ⟨t2, st.trans a1, b1⟩
/-- what a wrapper of the law answers and leaves: 0 and the answer, or which throw it was -/
def wI (Es : List String) (O : Rs) (s1 : Sg) (kv : Int) (s2 : Sg) : Prop := (∃ x, O = .inl (some (.int (I32 x))) ∧ kv = 0 ∧ s2 = up s1 112 0 (i32 x)) ∨ (∃ (i : Nat) (E : String), Es[i]? = some E ∧ O = .inr E ∧ kv = i + 1 ∧ s2 = s1)
def wL (Es : List String) (O : Rs) (s1 : Sg) (kv : Int) (s2 : Sg) : Prop := (∃ x, O = .inl (some (.long (I64 x))) ∧ kv = 0 ∧ s2 = up s1 112 0 x) ∨ (∃ (i : Nat) (E : String), Es[i]? = some E ∧ O = .inr E ∧ kv = i + 1 ∧ s2 = s1)
end S80
