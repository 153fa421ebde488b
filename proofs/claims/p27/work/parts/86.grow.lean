/-! the beginning: a machine whose world grows -/
section S86a
def AO (U : State) : Prop := (Cond.arrayOver (.array .int)).before #[] U = true
theorem AO.moved {u U : State} (hal : u.vm.Alike U.vm) (h : AO u) : AO U := arrayOver_alikeB hal h
theorem AO.any {u : State} {args : Array Value} (h : AO u) : (Cond.arrayOver (.array .int)).before args u = true := arrayOver_alikeB (Vm.Alike.refl _) h
theorem AO.of {u : State} {args : Array Value} (h : (Cond.arrayOver (.array .int)).before args u = true) : AO u := arrayOver_alikeB (Vm.Alike.refl _) h
/-- the walk over the world xs alone -/
def BW (l : Launch) (G : Gx) (f : Fm) (o : Om) (b : Nat × Nat × Nat) (Q : State → Prop) (xs : va_W) (k n pc : Nat) (lv : List (Nat × Value)) (st : List Value) (_ : Sg) : Prop :=
  FxOk G f o b → ∀ (H : Heap) (locs : List Loc) (ls : Array Slot), lv_has ls o.2.2.1 lv → va_P G.1 vwCl xs H → va_D (fA f) xs → va_S (fA f) (fs f).heap H locs → WW l f H locs k n Q pc ls st
def QB (G : Gx) (f : Fm) (mc ms : Nat) (r : Option Value) (ws1 : (Nat → Nat) → va_W) : State → Prop :=
  MQ (fb f) (fun _ st oc t => (oc = .returned r ∧ ∃ a, va_P G.1 vwCl (ws1 a) t.heap ∧ va_D (fA f) (ws1 a)) ∧ va_F (fA f) st t) (fa f) (fs f) mc ms (fA f)
/-- a contract: from the world ws0 the method answers r and leaves ws1, at some addresses -/
def CB (l : Launch) (G : Gx) (y : MethodName) (cc : ByteArray) (nL : Nat) (rt : Option FieldType) (d mc ms : Nat) (av : List Value) (ws0 : va_W) (r : Option Value) (ws1 : (Nat → Nat) → va_W) : Prop :=
  ∀ sz : Nat, Met l y (.code y cc nL rt :: lw_all) (rmD d mc ms) (va_Pc av (fun U => U.heap.size = sz ∧ va_P G.1 vwCl ws0 U.heap ∧ va_K G.1 vwCl (tysG G) U ∧ va_D (fun _ => True) ws0 ∧ ST G (va_A ws0 sz) U U.heap ∧ AO U))
    (fun _ st oc t => (oc = .returned r ∧ ∃ a, va_P G.1 vwCl (ws1 a) t.heap ∧ va_D (va_A ws0 sz) (ws1 a)) ∧ va_F (va_A ws0 sz) st t) mc ms (va_A ws0 sz)
theorem CB.of {l : Launch} {G : Gx} {y : MethodName} {cc : ByteArray} {nL : Nat} {rt : Option FieldType} {d mc ms : Nat} {av : List Value} {ws0 : va_W} {r : Option Value} {ws1 : (Nat → Nat) → va_W} (hy : plainName y.cls = true) (hlen : (lg_sl av).length ≤ nL)
    (body : ∀ f : Fm, (fme f).name = y.name → AO (fs f) → BW l G f (y.cls, cc, nL, rt) (d, mc, ms) (QB G f mc ms r ws1) ws0 0 0 0 (lv_args 0 av) [] (fun _ _ => 0)) : CB l G y cc nL rt d mc ms av ws0 r ws1 := by
  intro sz
  refine Met.ofW (cc := cc) (maxL := nL) (ret := rt) hy rfl ?_
  intro p e s m args below meth c s₁ B hml hv
  obtain ⟨rfl, hsz, hP, hK, hD0, hT, hAO⟩ := hv
  have hts := atoms_spec (ws := .code y cc nL rt :: lw_all) B.pre
  have hl := lv_entry av (n := nL) hlen
  rw [lg_entry_eq]
  generalize (lg_sl av ++ List.replicate (nL - (lg_sl av).length) Slot.unset).toArray = ls at hl ⊢
  subst hsz
  have hD := hD0.self (sz := s.heap.size)
  have h := body (p, e, (headSpec (.code y cc nL rt :: lw_all) (rmD d mc ms)).room, s, m, av.toArray, below, meth, c, va_A ws0 s.heap.size) (name_of_methodNamed B.named B.method).1 hAO
  exact h ⟨B.exec, B.bytes, hml, findClass_of_methodNamed B.named, fun w hw => hts w (List.mem_cons_of_mem _ hw), hK, fun q hq => Or.inr hq, hT, B.returns, B.notSynchronized, Nat.le_refl _, Nat.le_refl _, Nat.le_refl _, Nat.le_refl _⟩
    s.heap [] ls hl hP hD va_S.rf
end S86a
section S86
variable {l : Launch} {G : Gx} {f : Fm} {own : String} {cc : ByteArray} {nL : Nat} {rt : Option FieldType} {b : Nat × Nat × Nat} {dd rc rs : Nat} {Q : State → Prop} {xs xs2 : va_W} {k n pc k2 n2 : Nat} {lv : List (Nat × Value)} {rest : List Value} {σ : Sg} {r : Option Value} {y : MethodName} {idx : Nat} {c2 : ByteArray} {nL2 : Nat} {rt2 : Option FieldType} {na d mc ms : Nat} {As : List Value}
abbrev eO (a ci : Nat) (vs : List Value) : Nat × va_E := (a, .inr (ci, vs))
abbrev eB (G : Gx) (a N : Nat) : Nat × va_E := (a, .inl (G.2.1 0, N, .inl (fun _ => I32 0)))
abbrev eI (G : Gx) (a N : Nat) : Nat × va_E := (a, .inl (G.2.1 1, N, .inl (fun _ => I32 0)))
abbrev eL (G : Gx) (a N : Nat) : Nat × va_E := (a, .inl (G.2.1 2, N, .inr (.inl (fun _ => I64 0))))
abbrev eR (G : Gx) (a N : Nat) (r : Nat → Nat) : Nat × va_E := (a, .inl (G.2.1 3, N, .inr (.inr (.inr (.inr (fun i => if i < N then some (r i) else none))))))
theorem B_w (h : xs = xs2) (g : BW l G f (own, cc, nL, rt) b Q xs2 k n pc lv rest σ) : BW l G f (own, cc, nL, rt) b Q xs k n pc lv rest σ := by subst h; exact g
theorem B_kn (h1 : k = k2) (h2 : n = n2) (g : BW l G f (own, cc, nL, rt) b Q xs k2 n2 pc lv rest σ) : BW l G f (own, cc, nL, rt) b Q xs k n pc lv rest σ := by subst h1; subst h2; exact g
def NW (own : String) (idx ci N : Nat) (vs : List Value) : Prop := ∃ (C : String) (T : u_T) (ty : Nat → FieldType), vwCl[ci]? = some (C, T, N) ∧ (∀ w ∈ u_ws C T N, w ∈ lw_all) ∧ (∀ k, k < N → parseFieldDescriptor (T k).2.2.1 = some (ty k)) ∧ Cond.classLink own idx C ∈ lw_all ∧ Cond.instantiable C N ∈ lw_all ∧ Cond.initialized C ∈ lw_all ∧ (∀ j, j < N → defaultValue (ty j) = vp_V vs j)
theorem B_new {ci N : Nat} {vs : List Value} (hw : NW own idx ci N vs) (hm : k + 1 ≤ rc ∧ n + N ≤ rs) (dc : decode cc pc = .ok (.new idx, 3)) (g : ∀ a, BW l G f (own, cc, nL, rt) (dd, rc, rs) Q (xs ++ [eO a ci vs]) (k + 1) (n + N) (pc + 3) lv (.ref a :: rest) σ) : BW l G f (own, cc, nL, rt) (dd, rc, rs) Q xs k n pc lv rest σ := by
  obtain ⟨C, T, ty, h1, h2, h3, h4, h5, h6, h7⟩ := hw
  intro ok H locs ls hl hP hD hS
  have o := ok.2.2.2.2.2.2.2.2.2.2
  exact va_new ok.1 ok.2.1 ok.2.2.2.2.1 h2 ty h3 ok.2.2.2.1 (ok.2.2.2.2.1 _ h4) (ok.2.2.2.2.1 _ h5) (ok.2.2.2.2.1 _ h6) ok.2.2.2.2.2.1 hP hD hS ok.2.2.2.2.2.2.1 h1 h7 (Nat.le_trans hm.1 o.2.2.1) (Nat.le_trans hm.2 o.2.2.2) dc (fun q H1 hP hD hS => g q ok H1 locs ls hl hP hD hS)
theorem cA_eq {cA c0 : ClassId} {tys : List (ClassId × FieldType)} {U : State} {D : va_G} {cl : List vw_C} {ty : FieldType} {i : Nat} (hK : va_K D cl (tys ++ [(cA, ty)]) U) (hp : ∀ c : ClassId, va_RA U c ty = (U.vm.findClass ("[" ++ ty.toString) = some c)) (h0 : tys[i]? = some (c0, ty)) : cA = c0 := by
  have h1 := (hK.2 tys.length (cA, ty) (by rw [List.getElem?_append_right (Nat.le_refl _), Nat.sub_self]; rfl)).2
  have h2 := (hK.2 i (c0, ty) (by rw [List.getElem?_append_left (List.getElem?_eq_some_iff.mp h0).1]; exact h0)).2
  rw [hp] at h1 h2
  exact Option.some.inj (h1.symm.trans h2)
theorem B_newaI {z : Int} {N : Nat} (h1 : ¬ I32 z < 0) (h2 : (I32 z).toNatClampNeg = N) (h3 : N * 4 ≤ 536870912) (hm : k + 1 ≤ rc ∧ n + N ≤ rs) (dc : decode cc pc = .ok (.newarray .int, 2)) (g : ∀ a, BW l G f (own, cc, nL, rt) (dd, rc, rs) Q (xs ++ [eI G a N]) (k + 1) (n + N) (pc + 2) lv (.ref a :: rest) σ) : BW l G f (own, cc, nL, rt) (dd, rc, rs) Q xs k n pc lv (.int (I32 z) :: rest) σ := by
  intro ok H locs ls hl hP hD hS
  have o := ok.2.2.2.2.2.2.2.2.2.2
  refine va_newa (atype := .int) (ty := .int) (a0 := (N, .inl (fun _ => I32 0))) ok.1 ok.2.1 (ok.2.2.2.2.1 (.arrayClass .int) (in_all (i := 178) (by decide +kernel) rfl)) rfl ok.2.2.2.2.2.1 hP hD hS ok.2.2.2.2.2.2.1 (fun cA => rfl) h1 h2 h3 (Nat.le_trans hm.1 o.2.2.1) (Nat.le_trans hm.2 o.2.2.2) dc (fun q cA H1 hK hP hD hS => ?_)
  obtain rfl : cA = G.2.1 1 := cA_eq (i := 1) hK (fun c => rfl) rfl
  exact g q ok H1 locs ls hl hP hD hS
theorem B_newaB {z : Int} {N : Nat} (h1 : ¬ I32 z < 0) (h2 : (I32 z).toNatClampNeg = N) (h3 : N * 1 ≤ 536870912) (hm : k + 1 ≤ rc ∧ n + N ≤ rs) (dc : decode cc pc = .ok (.newarray .byte, 2)) (g : ∀ a, BW l G f (own, cc, nL, rt) (dd, rc, rs) Q (xs ++ [eB G a N]) (k + 1) (n + N) (pc + 2) lv (.ref a :: rest) σ) : BW l G f (own, cc, nL, rt) (dd, rc, rs) Q xs k n pc lv (.int (I32 z) :: rest) σ := by
  intro ok H locs ls hl hP hD hS
  have o := ok.2.2.2.2.2.2.2.2.2.2
  refine va_newa (atype := .byte) (ty := .byte) (a0 := (N, .inl (fun _ => I32 0))) ok.1 ok.2.1 (ok.2.2.2.2.1 (.arrayClass .byte) (in_all (i := 101) (by decide +kernel) rfl)) rfl ok.2.2.2.2.2.1 hP hD hS ok.2.2.2.2.2.2.1 (fun cA => rfl) h1 h2 h3 (Nat.le_trans hm.1 o.2.2.1) (Nat.le_trans hm.2 o.2.2.2) dc (fun q cA H1 hK hP hD hS => ?_)
  obtain rfl : cA = G.2.1 0 := cA_eq (i := 0) hK (fun c => rfl) rfl
  exact g q ok H1 locs ls hl hP hD hS
theorem B_newaL {z : Int} {N : Nat} (h1 : ¬ I32 z < 0) (h2 : (I32 z).toNatClampNeg = N) (h3 : N * 8 ≤ 536870912) (hm : k + 1 ≤ rc ∧ n + N ≤ rs) (dc : decode cc pc = .ok (.newarray .long, 2)) (g : ∀ a, BW l G f (own, cc, nL, rt) (dd, rc, rs) Q (xs ++ [eL G a N]) (k + 1) (n + N) (pc + 2) lv (.ref a :: rest) σ) : BW l G f (own, cc, nL, rt) (dd, rc, rs) Q xs k n pc lv (.int (I32 z) :: rest) σ := by
  intro ok H locs ls hl hP hD hS
  have o := ok.2.2.2.2.2.2.2.2.2.2
  refine va_newa (atype := .long) (ty := .long) (a0 := (N, .inr (.inl (fun _ => I64 0)))) ok.1 ok.2.1 (ok.2.2.2.2.1 (.arrayClass .long) (in_all (i := 177) (by decide +kernel) rfl)) rfl ok.2.2.2.2.2.1 hP hD hS ok.2.2.2.2.2.2.1 (fun cA => rfl) h1 h2 h3 (Nat.le_trans hm.1 o.2.2.1) (Nat.le_trans hm.2 o.2.2.2) dc (fun q cA H1 hK hP hD hS => ?_)
  obtain rfl : cA = G.2.1 2 := cA_eq (i := 2) hK (fun c => rfl) rfl
  exact g q ok H1 locs ls hl hP hD hS
def FLF (own : String) (idx ci j : Nat) (ty : FieldType) : Prop := ∃ (C : String) (T : u_T) (N : Nat) (ty0 : Nat → FieldType), vwCl[ci]? = some (C, T, N) ∧ (∀ w ∈ u_ws C T N, w ∈ lw_all) ∧ j < N ∧ Cond.fieldLink own idx (T j).1 (T j).2.1 (T j).2.2.1 ∈ lw_all ∧ (∀ k, k < N → parseFieldDescriptor (T k).2.2.1 = some (ty0 k)) ∧ (∀ a, a < N → ∀ b, b < N → a ≠ b → (T a).2.1 ≠ (T b).2.1) ∧ parseFieldDescriptor (T j).2.2.1 = some ty ∧ (T j).2.2.2 = true ∧ (T j).1 = own
theorem B_put {ci j q0 a : Nat} {vs : List Value} {v : Value} {ty : FieldType} (fl : FL own idx ci j ty false) (he : xs[q0]? = some (eO a ci vs)) (hj : j < vs.length) (hn : narrow ty v = v) (hf : fits ty v = true) (dc : decode cc pc = .ok (.putfield idx, 3)) (hx : xs.set q0 (eO a ci (vs.set j v)) = xs2) (g : BW l G f (own, cc, nL, rt) b Q xs2 k n (pc + 3) lv rest σ) : BW l G f (own, cc, nL, rt) b Q xs k n pc lv (v :: .ref a :: rest) σ := by
  obtain ⟨C, T, N, ty0, h1, h2, h3, h4, h5, h6, h7, h8⟩ := fl
  intro ok H locs ls hl hP hD hS
  subst hx
  exact va_put ok.1 ok.2.1 ok.2.2.2.2.1 h2 ty0 h5 h6 ok.2.2.2.1 ok.2.2.2.2.2.1 hP hD hS q0 he h1 j h3 (ok.2.2.2.2.1 _ h4) (fun _ h => h) h8 h7 hn hf hj dc (fun H locs hP hD hS => g ok H locs ls hl hP hD hS)
theorem B_putF {ci j q0 a : Nat} {vs : List Value} {v : Value} {ty : FieldType} (hin : (fme f).name = "<init>") (fl : FLF own idx ci j ty) (he : xs[q0]? = some (eO a ci vs)) (hj : j < vs.length) (hn : narrow ty v = v) (hf : fits ty v = true) (dc : decode cc pc = .ok (.putfield idx, 3)) (hx : xs.set q0 (eO a ci (vs.set j v)) = xs2) (g : BW l G f (own, cc, nL, rt) b Q xs2 k n (pc + 3) lv rest σ) : BW l G f (own, cc, nL, rt) b Q xs k n pc lv (v :: .ref a :: rest) σ := by
  obtain ⟨C, T, N, ty0, h1, h2, h3, h4, h5, h6, h7, h8, h9⟩ := fl
  intro ok H locs ls hl hP hD hS
  subst hx
  exact va_putF ok.1 ok.2.1 ok.2.2.2.2.1 h2 ty0 h5 h6 ok.2.2.2.1 ok.2.2.2.2.2.1 hP hD hS q0 he h1 j h3 (ok.2.2.2.2.1 _ h4) (fun _ h => h) h8 hin h9 h7 hn hf hj dc (fun H locs hP hD hS => g ok H locs ls hl hP hD hS)
theorem B_get {ci j q0 a : Nat} {vs : List Value} {v : Value} {ty : FieldType} {fin : Bool} (fl : FL own idx ci j ty fin) (he : xs[q0]? = some (eO a ci vs)) (hv : vs[j]? = some v) (dc : decode cc pc = .ok (.getfield idx, 3)) (g : BW l G f (own, cc, nL, rt) b Q xs k n (pc + 3) lv (v :: rest) σ) : BW l G f (own, cc, nL, rt) b Q xs k n pc lv (.ref a :: rest) σ := by
  obtain ⟨C, T, N, ty0, h1, h2, h3, h4, h5, h6, h7, h8⟩ := fl
  intro ok H locs ls hl hP hD hS
  exact va_get ok.1 ok.2.1 ok.2.2.2.2.1 h2 ok.2.2.2.1 ok.2.2.2.2.2.1 hP q0 he h1 j h3 (ok.2.2.2.2.1 _ h4) (fun _ h => h) hv dc (g ok H locs ls hl hP hD hS)
theorem B_mna {z w : Int} {N M : Nat} (hAO : AO (fs f)) (hcl : Cond.classLink own idx "[[I" ∈ lw_all) (h1 : ¬ I32 z < 0) (h2 : (I32 z).toNatClampNeg = N) (h3 : N * 4 ≤ 536870912) (w1 : ¬ I32 w < 0) (w2 : (I32 w).toNatClampNeg = M) (w3 : M * 4 ≤ 536870912) (hm : k + (1 + N) ≤ rc ∧ n + (N + N * M) ≤ rs) (dc : decode cc pc = .ok (.multianewarray idx 2, 4))
    (g : ∀ (a : Nat) (r : Nat → Nat), BW l G f (own, cc, nL, rt) (dd, rc, rs) Q (xs ++ (eR G a N r :: (List.range N).map (fun i => eI G (r i) M))) (k + 1 + N) (n + N + N * M) (pc + 4) lv (.ref a :: rest) σ) : BW l G f (own, cc, nL, rt) (dd, rc, rs) Q xs k n pc lv (.int (I32 w) :: .int (I32 z) :: rest) σ := by
  intro ok H locs ls hl hP hD hS
  have o := ok.2.2.2.2.2.2.2.2.2.2
  have hK := ok.2.2.2.2.2.1
  have hI : (fs f).vm.findClass "[I" = some (G.2.1 1) := (hK.2 1 (G.2.1 1, .int) rfl).2
  refine va_mna (X := xs) (L := []) (f := fun _ => .inl (G.2.1 1, M, .inl (fun _ => I32 0))) (ty := .int) (cy := G.2.1 1) (z := (M, .inl (fun _ => I32 0))) ok.1 ok.2.1 ok.2.2.2.1 (ok.2.2.2.2.1 _ hcl) hAO.any (ok.2.2.2.2.1 (.arrayClass .int) (in_all (i := 178) (by decide +kernel) rfl)) hI hK (by rw [show va_pl [] (fun _ => (.inl (G.2.1 1, M, .inl (fun _ => I32 0)) : va_E)) = [] from rfl, List.append_nil]; exact hP) (by rw [show va_pl [] (fun _ => (.inl (G.2.1 1, M, .inl (fun _ => I32 0)) : va_E)) = [] from rfl, List.append_nil]; exact hD) hS ok.2.2.2.2.2.2.1 h1 w1 h2 w2 h3 w3 (by omega) rfl rfl (Nat.le_trans hm.1 o.2.2.1) (Nat.le_trans hm.2 o.2.2.2) (fun c => ?_) dc (fun q r cA H1 _ _ hK2 hP hD hS => ?_)
  · show ({ cls := c, slots := Array.replicate M (.int 0), vm := .none } : Cell) = arrV c M (fun _ => .int (I32 0))
    rw [arrV_new]
    rfl
  · obtain rfl : cA = G.2.1 3 := cA_eq (i := 3) hK2 (fun c => rfl) rfl
    have e : (xs ++ [(q, (.inl (G.2.1 3, N, .inr (.inr (.inr (.inr (fun i => if i < N then some (r i) else none))))) : va_E))]) ++ va_pl ([] ++ (List.range N).map r) (vr_up (fun _ => (.inl (G.2.1 1, M, .inl (fun _ => I32 0)) : va_E)) ((List.range N).map r) (.inl (G.2.1 1, M, .inl (fun _ => I32 0)))) = xs ++ (eR G q N r :: (List.range N).map (fun i => eI G (r i) M)) := by
      rw [List.append_assoc]
      congr 1
      rw [List.singleton_append]
      congr 1
      unfold va_pl vr_up
      simp
    rw [e] at hP hD
    exact g q r ok H1 locs ls hl hP hD hS
end S86
