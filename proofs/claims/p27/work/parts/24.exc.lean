/-! methods that return or throw -/
abbrev Rs : Type := Option Value ⊕ String
def QX (G : Gx) (f : Fm) (mc ms : Nat) (o : Rs) (σ' : Sg) : State → Prop :=
  vx_MQ (fb f) (fun _ st oc t => (∃ r, o = .inl r ∧ oc = .returned r ∧ va_P G.1 vwCl (wld G σ') t.heap) ∧ va_F (fA f) st t) (fun E st t => (o = .inr E ∧ va_P G.1 vwCl (wld G σ') t.heap) ∧ va_F (fA f) st t) (fa f) (fs f) mc ms (fA f)
/-- a contract: from the cells σ the method answers, or throws, o, and leaves σ' -/
def CtX (l : Launch) (G : Gx) (y : MethodName) (cc : ByteArray) (nL : Nat) (rt : Option FieldType) (d mc ms : Nat) (av : List Value) (σ : Sg) (o : Rs) (σ' : Sg) : Prop :=
  ∀ sz : Nat, vx_Met l y (.code y cc nL rt :: lw_all) (rmD d mc ms) (va_Pc av (fun U => U.heap.size = sz ∧ va_P G.1 vwCl (wld G σ) U.heap ∧ va_K G.1 vwCl (tysG G) U ∧ va_D (fun _ => True) (wld G σ) ∧ ST G (va_A (wld G σ) sz) U U.heap))
    (fun _ st oc t => (∃ r, o = .inl r ∧ oc = .returned r ∧ va_P G.1 vwCl (wld G σ') t.heap) ∧ va_F (va_A (wld G σ) sz) st t) (fun E st t => (o = .inr E ∧ va_P G.1 vwCl (wld G σ') t.heap) ∧ va_F (va_A (wld G σ) sz) st t) mc ms (va_A (wld G σ) sz)
theorem CtX.of {l : Launch} {G : Gx} {y : MethodName} {cc : ByteArray} {nL : Nat} {rt : Option FieldType} {d mc ms : Nat} {av : List Value} {σ : Sg} {o : Rs} {σ' : Sg} (hy : plainName y.cls = true) (hlen : (lg_sl av).length ≤ nL)
    (body : ∀ f : Fm, (∀ x ∈ (fc f).exceptionTable.toList, False) → AW l G f (y.cls, cc, nL, rt) (d, mc, ms) (QX G f mc ms o σ') [] 0 0 0 (lv_args 0 av) [] σ) : CtX l G y cc nL rt d mc ms av σ o σ' := by
  intro sz
  refine vx_ofW (cc := cc) (maxL := nL) (ret := rt) hy rfl ?_
  intro p e s m args below meth c s₁ B hml htab hv
  obtain ⟨rfl, hsz, hP, hK, hD0, hT⟩ := hv
  have hts := atoms_spec (ws := .code y cc nL rt :: lw_all) B.pre
  have hl := lv_entry av (n := nL) hlen
  rw [lg_entry_eq]
  generalize (lg_sl av ++ List.replicate (nL - (lg_sl av).length) Slot.unset).toArray = ls at hl ⊢
  subst hsz
  have hD := hD0.self (sz := s.heap.size)
  have h := body (p, e, (headSpec (.code y cc nL rt :: lw_all) (rmD d mc ms)).room, s, m, av.toArray, below, meth, c, va_A (wld G σ) s.heap.size) htab
  exact h ⟨B.exec, B.bytes, hml, findClass_of_methodNamed B.named, fun w hw => hts w (List.mem_cons_of_mem _ hw), hK, fun q hq => Or.inr hq, hT, B.returns, B.notSynchronized, Nat.le_refl _, Nat.le_refl _, Nat.le_refl _, Nat.le_refl _⟩
    s.heap [] ls hl (by rw [List.append_nil]; exact hP) (by rw [List.append_nil]; exact hD) va_S.rf
section AX
variable {l : Launch} {G : Gx} {f : Fm} {own : String} {cc : ByteArray} {nL : Nat} {rt : Option FieldType} {b : Nat × Nat × Nat} {xs : va_W} {k n pc : Nat} {lv : List (Nat × Value)} {st : List Value} {σ σ1 : Sg} {r : Option Value} {o : Rs} {mc ms : Nat}
theorem AX_ret (hr : o = .inl r) (h1 : k ≤ mc) (h2 : n ≤ ms) (h : AW l G f (own, cc, nL, rt) b (QT G f mc ms r σ1) xs mc ms pc lv st σ) : AW l G f (own, cc, nL, rt) b (QX G f mc ms o σ1) xs k n pc lv st σ := by
  subst hr
  intro ok H locs ls hl hP hD hS T hT X
  obtain ⟨t, a1, oc, b1, b2, ⟨⟨rfl, b3⟩, b4⟩, b5⟩ := h ok H locs ls hl hP hD hS T hT (stand_widen X h1 h2)
  exact ⟨t, a1, _, b1, b2, Or.inl ⟨⟨⟨r, rfl, rfl, b3⟩, b4⟩, b5⟩⟩
def exN : List String := ["java/lang/RuntimeException", "java/lang/Exception"]
def exOk (own : String) (ik ic : Nat) (E : String) : Bool := decide (E ∈ exS) && Bundle.fit E && (Cond.classLink own ik E :: Cond.initialized E :: vx_atS own ic E exN).all (fun w => ((decide (w ∈ lw_tbl) && goodWord w) || decide (w ∈ dcS.map Cond.declares) || decide (w = .castable E E)) && vx_ot w) && decide (Cond.classLink own ik E ∈ lw_tbl) && goodWord (.classLink own ik E) && decide (Cond.initialized E ∈ lw_tbl) && goodWord (.initialized E)
theorem exw {E : String} {s : State} {args : Array Value} {w : Cond} (hg : ∀ w ∈ lw_all, w.before args s = true) (h2 : ST2 s) (hE : E ∈ exS) (h : ((decide (w ∈ lw_tbl) && goodWord w) || decide (w ∈ dcS.map Cond.declares) || decide (w = .castable E E)) = true) : w.before args s = true := by
  rcases (Bool.or_eq_true _ _).mp h with h | h
  · rcases (Bool.or_eq_true _ _).mp h with h | h
    · have h3 := (Bool.and_eq_true _ _).mp h
      exact hg w (List.mem_filter.mpr ⟨of_decide_eq_true h3.1, h3.2⟩)
    · obtain ⟨x, hx, rfl⟩ := List.mem_map.mp (of_decide_eq_true h)
      exact va_Nw.use rfl (h2.1 x hx)
  · have := of_decide_eq_true h
    subst this
    exact va_Nw.use rfl (h2.2.1 E hE)
theorem exN_fit : ∀ n ∈ exN, Bundle.fit n = true := by decide +kernel
theorem AX_throwE {E text : String} {ik is ic : Nat} (htab : ∀ x ∈ (fc f).exceptionTable.toList, False) (hlt : l.stackTraces = false) (hok : exOk own ik ic E = true) (hmsg : (own, is, text) ∈ msS) (hb : 6 ≤ b.1) (hb1 : k + 1 ≤ b.2.1) (hb2 : n + 6 ≤ b.2.2) (hm1 : k + 1 ≤ mc) (hm2 : n + 6 ≤ ms) (ho : o = .inr E) (hs : σ1 = σ)
    (d0 : decode cc pc = .ok (.new ik, 3)) (d3 : decode cc (pc + 3) = .ok (.dup, 1)) (d6 : decode cc (pc + 4) = .ok (.ldc is, 2) ∧ decode cc (pc + 6) = .ok (.invokespecial ic, 3) ∧ decode cc (pc + 9) = .ok (.athrow, 1) ∨ decode cc (pc + 4) = .ok (.ldc_w is, 3) ∧ decode cc (pc + 7) = .ok (.invokespecial ic, 3) ∧ decode cc (pc + 10) = .ok (.athrow, 1)) :
    AW l G f (own, cc, nL, rt) b (QX G f mc ms o σ1) xs k n pc lv [] σ := by
  subst ho; subst hs
  intro ok H locs ls hl hP hD hS
  simp only [exOk, Bool.and_eq_true, decide_eq_true_eq] at hok
  obtain ⟨⟨⟨⟨⟨⟨e1, e2⟩, e3⟩, e4⟩, e5⟩, e6⟩, e7⟩ := hok
  have hT := ok.2.2.2.2.2.2.2.1
  obtain ⟨t1, t2, t3, t4, t5, t6, t7, t8, t9⟩ := hT
  have hall : ∀ w ∈ Cond.classLink own ik E :: Cond.initialized E :: vx_atS own ic E exN, w.before (fa f) (fs f) = true := fun w hw => exw ok.2.2.2.2.1 t9 e1 (by have := List.all_eq_true.mp e3 w hw; exact ((Bool.and_eq_true _ _).mp this).1)
  have hgd : ∀ w ∈ Cond.classLink own ik E :: Cond.initialized E :: vx_atS own ic E exN, vx_ot w = true := fun w hw => by have := List.all_eq_true.mp e3 w hw; exact ((Bool.and_eq_true _ _).mp this).2
  obtain ⟨sa, hsa⟩ := t6 _ hmsg
  have hR := ok.2.2.2.2.2.2.2.2.2.2
  have hx : ∀ t : State, (fs f).vm.Alike t.vm → H.size ≤ t.heap.size → (∀ q : Nat, q < H.size → t.heap[q]? = H[q]?) → ((Sum.inr E : Rs) = .inr E ∧ va_P G.1 vwCl (wld G σ1) t.heap) ∧ va_F (fA f) (fs f) t := by
    intro t _ hz hq
    have hP1 : va_P G.1 vwCl (wld G σ1) H := wld_drop hP
    refine ⟨⟨rfl, hP1.kept (fun k q hk => hq _ (vx_lt hP1 hk))⟩, Nat.le_trans hS.1 hz, fun q h1 h2 => ?_⟩
    rw [hq q (Nat.lt_of_lt_of_le h1 hS.1)]
    exact hS.2.1 q h1 h2
  rcases d6 with ⟨d4, d6, d9⟩ | ⟨d4, d6, d9⟩
  · exact vx_throwS (own := own) (cls := E) (text := text) (names := exN) (sa := sa) ok.1 ok.2.1 hlt ok.2.2.2.1 e2 exN_fit (hall _ List.mem_cons_self) (hall _ (List.mem_cons_of_mem _ List.mem_cons_self)) hsa (fun w hw => hall w (List.mem_cons_of_mem _ (List.mem_cons_of_mem _ hw))) hgd t7 t8 hS (hl.1.trans ok.2.2.1.symm)
      d0 d3 d4 d6 d9 (fun x hx => absurd (htab x hx) id) (Nat.lt_of_lt_of_le (show exN.length + 3 < 6 by decide) (Nat.le_trans hb hR.1)) (Nat.le_trans (show (([] : List Value).map fun v => v.category).sum + (13 * (exN.length + 1) + 43) ≤ 240 by decide) (Nat.le_trans (by omega) hR.2.1)) (Nat.le_trans hb1 hR.2.2.1) (Nat.le_trans hb2 hR.2.2.2) ok.2.2.2.2.2.2.2.2.2.1 hx hS.2.2 hm1 hm2
  · exact vx_throwSW (own := own) (cls := E) (text := text) (names := exN) (sa := sa) ok.1 ok.2.1 hlt ok.2.2.2.1 e2 exN_fit (hall _ List.mem_cons_self) (hall _ (List.mem_cons_of_mem _ List.mem_cons_self)) hsa (fun w hw => hall w (List.mem_cons_of_mem _ (List.mem_cons_of_mem _ hw))) hgd t7 t8 hS (hl.1.trans ok.2.2.1.symm)
      d0 d3 d4 d6 d9 (fun x hx => absurd (htab x hx) id) (Nat.lt_of_lt_of_le (show exN.length + 3 < 6 by decide) (Nat.le_trans hb hR.1)) (Nat.le_trans (show (([] : List Value).map fun v => v.category).sum + (13 * (exN.length + 1) + 43) ≤ 240 by decide) (Nat.le_trans (by omega) hR.2.1)) (Nat.le_trans hb1 hR.2.2.1) (Nat.le_trans hb2 hR.2.2.2) ok.2.2.2.2.2.2.2.2.2.1 hx hS.2.2 hm1 hm2
end AX
