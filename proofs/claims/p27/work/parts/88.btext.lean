/-! calls of the machine of the beginning; texts: printed by program (wip/whole/gen/btext.py) -/
section S88
theorem oi_1 : Cond.instanceMethod Lib.objectInit ∈ lw_all := in_all (i := 84) (by decide +kernel) rfl
theorem oi_2 : Cond.code Lib.objectInit ⟨#[0xb1]⟩ 1 none ∈ lw_all := in_all (i := 85) (by decide +kernel) rfl
variable {l : Launch} {G : Gx} {f : Fm} {own : String} {cc : ByteArray} {nL : Nat} {rt : Option FieldType} {b : Nat × Nat × Nat} {dd rc rs : Nat} {Q : State → Prop} {xs ws0 : va_W} {k n pc k2 n2 : Nat} {lv : List (Nat × Value)} {rest : List Value} {σ σ1 : Sg} {r : Option Value} {y : MethodName} {idx : Nat} {c2 : ByteArray} {nL2 : Nat} {rt2 : Option FieldType} {na d mc ms : Nat} {As : List Value}
theorem CB_blind {av : List Value} {sz : Nat} : FrameBlind (va_Pc av (fun U => U.heap.size = sz ∧ va_P G.1 vwCl ws0 U.heap ∧ va_K G.1 vwCl (tysG G) U ∧ va_D (fun _ => True) ws0 ∧ ST G (va_A ws0 sz) U U.heap ∧ AO U)) := by
  rintro a U g mk ⟨h1, h2, h3, h4, h5, h6, h7⟩
  exact ⟨h1, h2, h3, va_K.moved (u := U) (U := U.calling g mk a) (Vm.Alike.refl U.vm) h4, h5, h6.call g mk a, h7.moved (U := U.calling g mk a) (Vm.Alike.refl U.vm)⟩
theorem CB_A {H : Heap} {locs : List Loc} (ok : FxOk G f (own, cc, nL, rt) (dd, rc, rs)) (hD : va_D (fA f) xs) (hS : va_S (fA f) (fs f).heap H locs) {isC : List Nat} (hC : isC.map (fun i => xs[i]?) = ws0.map some) : ∀ q, va_A ws0 H.size q → fA f q := va_free hD hS ok.2.2.2.2.2.2.1 isC hC
theorem CB_pre {U : State} {H : Heap} {locs : List Loc} (ok : FxOk G f (own, cc, nL, rt) (dd, rc, rs)) (hAO : AO (fs f)) (hP : va_P G.1 vwCl xs H) (hD : va_D (fA f) xs) (hS : va_S (fA f) (fs f).heap H locs) {isC : List Nat} (hC : isC.map (fun i => xs[i]?) = ws0.map some) (hn : va_nd isC = true) (hU : U.heap = H) (hW : (fs f).WarmedH U.vm) : U.heap.size = H.size ∧ va_P G.1 vwCl ws0 U.heap ∧ va_K G.1 vwCl (tysG G) U ∧ va_D (fun _ => True) ws0 ∧ ST G (va_A ws0 H.size) U U.heap ∧ AO U := by
  have hA := CB_A ok hD hS hC
  have hs : isC.filterMap (fun i => xs[i]?) = ws0 := by
    have : isC.filterMap (fun i => xs[i]?) = (isC.map (fun i => xs[i]?)).filterMap id := by rw [List.filterMap_map]; rfl
    rw [this, hC, List.filterMap_map]
    simp
  subst hU
  exact ⟨rfl, hP.sub isC hs, va_K.moved hW.alike ok.2.2.2.2.2.1, (hD.sub isC hn hC).weaken (fun _ _ _ _ => trivial), ok.2.2.2.2.2.2.2.1.go hS hW hA, hAO.moved hW.alike⟩
/-- behind a call of a method that has no world -/
theorem B_back0 {st0 : List Value} {vr : Option Value} (hrun : FxOk G f (own, cc, nL, rt) (dd, rc, rs) → ∀ (H : Heap) (locs : List Loc) (ls : Array Slot), lv_has ls nL lv → va_P G.1 vwCl xs H → va_D (fA f) xs → va_S (fA f) (fs f).heap H locs → va_Run (fp f) l (fe f) (fR f) (fs f) (fm f) (fa f) (fb f) (fme f) (fc f) H locs k n 0 0 (F0 (fm f) pc ls st0) rest (fun st oc t => (oc = .returned vr ∧ ∃ a : Nat → Nat, va_P G.1 vwCl [] t.heap ∧ va_D (va_A [] H.size) []) ∧ va_F (va_A [] H.size) st t) (va_A [] H.size))
    (g : BW l G f (own, cc, nL, rt) (dd, rc, rs) Q xs k n (pc + 3) lv (vr.toList ++ rest) σ) : BW l G f (own, cc, nL, rt) (dd, rc, rs) Q xs k n pc lv st0 σ := by
  intro ok H locs ls hl hP hD hS T hT X
  obtain ⟨v, st₀, t, T2, L, h0, X2, hL, e1, e2, ⟨⟨hv, -⟩, hz, hk⟩, st⟩ := hrun ok H locs ls hl hP hD hS T hT X
  have hv : v = vr := by cases hv; rfl
  subst hv
  rw [h0] at hz hk
  have hA : ∀ q, va_A [] H.size q → fA f q := by
    rintro q (⟨j, e, hj⟩ | hs)
    · cases hj
    · exact ok.2.2.2.2.2.2.1 q (Nat.le_trans hS.1 hs)
  have hS1 : va_S (fA f) (fs f).heap T2.heap (locs ++ L) := ⟨Nat.le_trans hS.1 (by rw [e1]; exact hz), fun q h1 h2 => by rw [e1, hk q (Nat.lt_of_lt_of_le h1 hS.1) (fun z => h2 (hA q z))]; exact hS.2.1 q h1 h2, fun q hq => by
    rcases List.mem_append.mp hq with h | h
    · exact hS.2.2 q h
    · exact hA _ (hL q h)⟩
  have hP1 : va_P G.1 vwCl xs T2.heap := hP.kept (fun j q hq => by
    have hlt := (hP j q hq).lt
    rw [e1]
    refine hk q.1 hlt ?_
    rintro (⟨i, e, hi⟩ | hs)
    · cases hi
    · omega)
  obtain ⟨t2, a1, b1⟩ := g ok T2.heap (locs ++ L) ls hl hP1 hD hS1 T2 rfl X2
  exact ⟨t2, st t2 a1, b1⟩
/-- behind a constructor: the cells isC were its world, the cells isR stay -/
theorem B_back {st0 : List Value} {wr : va_W} {ws1 : (Nat → Nat) → va_W} {isC isR : List Nat} (hC : isC.map (fun i => xs[i]?) = ws0.map some) (hR : isR.map (fun i => xs[i]?) = wr.map some) (hn : va_nd isR = true) (hdis : ∀ i ∈ isR, i ∉ isC) (hrun : FxOk G f (own, cc, nL, rt) (dd, rc, rs) → ∀ (H : Heap) (locs : List Loc) (ls : Array Slot), lv_has ls nL lv → va_P G.1 vwCl xs H → va_D (fA f) xs → va_S (fA f) (fs f).heap H locs → va_Run (fp f) l (fe f) (fR f) (fs f) (fm f) (fa f) (fb f) (fme f) (fc f) H locs k n mc ms (F0 (fm f) pc ls st0) rest (fun st oc t => (oc = .returned none ∧ ∃ a, va_P G.1 vwCl (ws1 a) t.heap ∧ va_D (va_A ws0 H.size) (ws1 a)) ∧ va_F (va_A ws0 H.size) st t) (va_A ws0 H.size))
    (g : ∀ a, BW l G f (own, cc, nL, rt) (dd, rc, rs) Q (wr ++ ws1 a) (k + mc) (n + ms) (pc + 3) lv rest σ) : BW l G f (own, cc, nL, rt) (dd, rc, rs) Q xs k n pc lv st0 σ := by
  intro ok H locs ls hl hP hD hS T hT X
  obtain ⟨v, st₀, t, T2, L, h0, X2, hL, e1, e2, ⟨⟨hv, a, hP1, hD1⟩, hz, hk⟩, st⟩ := hrun ok H locs ls hl hP hD hS T hT X
  have hv : v = none := by cases hv; rfl
  subst hv
  rw [h0] at hz hk
  have hA := CB_A ok hD hS hC
  have hS1 : va_S (fA f) (fs f).heap T2.heap (locs ++ L) := ⟨Nat.le_trans hS.1 (by rw [e1]; exact hz), fun q h1 h2 => by rw [e1, hk q (Nat.lt_of_lt_of_le h1 hS.1) (fun z => h2 (hA q z))]; exact hS.2.1 q h1 h2, fun q hq => by
    rcases List.mem_append.mp hq with h | h
    · exact hS.2.2 q h
    · exact hA _ (hL q h)⟩
  rw [← e1] at hP1 hk
  obtain ⟨hP2, hD2⟩ := va_join (wr := wr) (w1 := ws1 a) hP hD isC isR hC hR hn hdis hk hA hP1 hD1
  obtain ⟨t2, a1, b1⟩ := g a ok T2.heap (locs ++ L) ls hl hP2 hD2 hS1 T2 rfl X2
  exact ⟨t2, st t2 a1, b1⟩
def MLI (own : String) (idx : Nat) (y : MethodName) (cc : ByteArray) (nL na : Nat) : Prop := Cond.methodLink own idx y ∈ lw_all ∧ Cond.instanceMethod y ∈ lw_all ∧ Cond.initialized y.cls ∈ lw_all ∧ Cond.code y cc nL none ∈ lw_all ∧ (y.cls ≠ "java/lang/invoke/MethodHandle" ∧ y.cls ≠ "java/lang/invoke/VarHandle" ∧ (parseMethodDescriptor y.desc).map (fun d => d.parameters.length) = some na) ∧ nL ≤ 20 ∧ y.name = "<init>"
def MLN (own : String) (idx : Nat) (y : MethodName) (cc : ByteArray) (nL na : Nat) : Prop := (own, idx, y, "MenuScript") ∈ mnS ∧ Cond.instanceMethod y ∈ lw_all ∧ Cond.initialized y.cls ∈ lw_all ∧ Cond.code y cc nL none ∈ lw_all ∧ (y.cls ≠ "java/lang/invoke/MethodHandle" ∧ y.cls ≠ "java/lang/invoke/VarHandle" ∧ (parseMethodDescriptor y.desc).map (fun d => d.parameters.length) = some na) ∧ nL ≤ 20 ∧ y.name = "<init>"
theorem B_init {a : Nat} {wr : va_W} {ws1 : (Nat → Nat) → va_W} (isC isR : List Nat) (hAO : AO (fs f)) (ml : MLI own idx y c2 nL2 na) (hct : CB l G y c2 nL2 none d mc ms (.ref a :: As) ws0 none ws1) (hC : isC.map (fun i => xs[i]?) = ws0.map some) (hR : isR.map (fun i => xs[i]?) = wr.map some) (hnC : va_nd isC = true) (hnR : va_nd isR = true) (hdis : ∀ i ∈ isR, i ∉ isC) (hn : As.length = na) (hroom : (rest.map fun v => v.category).sum ≤ 8) (hd : d + 1 ≤ dd) (hm : k + mc ≤ rc ∧ n + ms ≤ rs) (dec : decode cc pc = .ok (.invokespecial idx, 3))
    (g : ∀ a, BW l G f (own, cc, nL, rt) (dd, rc, rs) Q (wr ++ ws1 a) (k + mc) (n + ms) (pc + 3) lv rest σ) : BW l G f (own, cc, nL, rt) (dd, rc, rs) Q xs k n pc lv (As.reverse ++ .ref a :: rest) σ := by
  refine B_back hC hR hnR hdis (fun ok H locs ls hl hP hD hS => ?_) g
  obtain ⟨m1, m2, m4, m5, m6, m7, m8⟩ := ml
  exact va_runI (Ts := lw_all) (own := own) (As := As) (rest := rest) (nL := nL) ⟨ok.1, ok.2.1, ok.2.2.1, ok.2.2.2.1, ok.2.2.2.2.1⟩ (hct H.size) (cwI na ok.2.2.2.2.1 (good_cons m5) rfl rfl rfl (ok.2.2.2.2.1 _ m4) (ok.2.2.2.2.1 _ m1) (ok.2.2.2.2.1 _ m2) m8 m6 ⟨Nat.le_trans hd ok.2.2.2.2.2.2.2.2.2.2.1, by have := ok.2.2.2.2.2.2.2.2.2.2.2.1; show 8 + (nL2 + 11) + 40 * d ≤ _; omega⟩)
    ⟨CB_blind, fun U hU hW => ⟨rfl, CB_pre ok hAO hP hD hS hC hnC hU hW⟩⟩ rfl hn hl.1 rfl (lv_room hroom) dec ⟨Nat.le_trans hm.1 ok.2.2.2.2.2.2.2.2.2.2.2.2.1, Nat.le_trans hm.2 ok.2.2.2.2.2.2.2.2.2.2.2.2.2⟩
theorem B_initN {a : Nat} {wr : va_W} {ws1 : (Nat → Nat) → va_W} (isC isR : List Nat) (hAO : AO (fs f)) (ml : MLN own idx y c2 nL2 na) (hct : CB l G y c2 nL2 none d mc ms (.ref a :: As) ws0 none ws1) (hC : isC.map (fun i => xs[i]?) = ws0.map some) (hR : isR.map (fun i => xs[i]?) = wr.map some) (hnC : va_nd isC = true) (hnR : va_nd isR = true) (hdis : ∀ i ∈ isR, i ∉ isC) (hn : As.length = na) (hroom : (rest.map fun v => v.category).sum ≤ 8) (hd : d + 1 ≤ dd) (hm : k + mc ≤ rc ∧ n + ms ≤ rs) (dec : decode cc pc = .ok (.invokespecial idx, 3))
    (g : ∀ a, BW l G f (own, cc, nL, rt) (dd, rc, rs) Q (wr ++ ws1 a) (k + mc) (n + ms) (pc + 3) lv rest σ) : BW l G f (own, cc, nL, rt) (dd, rc, rs) Q xs k n pc lv (As.reverse ++ .ref a :: rest) σ := by
  refine B_back hC hR hnR hdis (fun ok H locs ls hl hP hD hS => ?_) g
  obtain ⟨m1, m2, m4, m5, m6, m7, m8⟩ := ml
  have hT := ok.2.2.2.2.2.2.2.1
  obtain ⟨t1, t2, t3, t4, t5, t6, t7, t8, t9⟩ := hT
  exact va_runIN (Ts := lw_all) (own := own) (As := As) (rest := rest) (nL := nL) ⟨ok.1, ok.2.1, ok.2.2.1, ok.2.2.2.1, ok.2.2.2.2.1⟩ (hct H.size) ⟨va_cnB na ok.2.2.2.2.1 (good_cons m5) rfl rfl rfl (t9.2.2.2.2 _ m1) (ok.2.2.2.2.1 _ m4) m6 ⟨Nat.le_trans hd ok.2.2.2.2.2.2.2.2.2.2.1, by have := ok.2.2.2.2.2.2.2.2.2.2.2.1; show 8 + (nL2 + 11) + 40 * d ≤ _; omega⟩, m8, ok.2.2.2.2.1 _ m2⟩
    ⟨CB_blind, fun U hU hW => ⟨rfl, CB_pre ok hAO hP hD hS hC hnC hU hW⟩⟩ rfl hn hl.1 rfl (lv_room hroom) dec ⟨Nat.le_trans hm.1 ok.2.2.2.2.2.2.2.2.2.2.2.2.1, Nat.le_trans hm.2 ok.2.2.2.2.2.2.2.2.2.2.2.2.2⟩
/-- the constructor of Object -/
theorem B_obj {a : Nat} (hl0 : Cond.methodLink own idx Lib.objectInit ∈ lw_all) (hroom : (rest.map fun v => v.category).sum ≤ 8) (hd : 1 ≤ dd) (dec : decode cc pc = .ok (.invokespecial idx, 3)) (g : BW l G f (own, cc, nL, rt) (dd, rc, rs) Q xs k n (pc + 3) lv rest σ) : BW l G f (own, cc, nL, rt) (dd, rc, rs) Q xs k n pc lv (.ref a :: rest) σ := by
  intro ok H locs ls hl hP hD hS
  have o := ok.2.2.2.2.2.2.2.2.2.2
  exact W.objInit ok.1 ok.2.1 ok.2.2.2.1 (ok.2.2.2.2.1 _ hl0) (ok.2.2.2.2.1 _ oi_1) (ok.2.2.2.2.1 _ oi_2) rfl (hl.1.trans ok.2.2.1.symm) rfl dec (Nat.le_trans hd o.1) (by have h4 : 40 * dd ≤ (fR f).locals := o.2.1; show 2 * 0 + (rest.map fun v => v.category).sum + 12 ≤ (fR f).locals; omega) (g ok H locs ls hl hP hD hS)
theorem B_callK {i : Nat} (hAO : AO (fs f)) (hi : oi G i) (ml : MLV own idx y c2 nL2 rt2 na) (hC : y.cls = "java/lang/String") (hct : CB l G y c2 nL2 rt2 d 0 0 (.ref (G.2.2.2.1 i) :: As) [] r (fun _ => [])) (hn : As.length = na) (hroom : (rest.map fun v => v.category).sum ≤ 8) (hd : d + 1 ≤ dd) (hm : k ≤ rc ∧ n ≤ rs) (dec : decode cc pc = .ok (.invokevirtual idx, 3))
    (g : BW l G f (own, cc, nL, rt) (dd, rc, rs) Q xs k n (pc + 3) lv (r.toList ++ rest) σ) : BW l G f (own, cc, nL, rt) (dd, rc, rs) Q xs k n pc lv (As.reverse ++ .ref (G.2.2.2.1 i) :: rest) σ := by
  refine B_back0 (fun ok H locs ls hl hP hD hS => ?_) g
  obtain ⟨m1, m2, m3, m4, m5, m6, m7⟩ := ml
  rw [hC] at m3 m4
  exact va_runV (Ts := lw_all) (own := own) (C := "java/lang/String") (As := As) (rest := rest) (nL := nL) ⟨ok.1, ok.2.1, ok.2.2.1, ok.2.2.2.1, ok.2.2.2.2.1⟩ (hct H.size) (cwV na ok.2.2.2.2.1 (good_wsV m1 m2 m3 m4 (good_cons m5)) rfl rfl rfl ⟨hC, m6⟩ ⟨Nat.le_trans hd ok.2.2.2.2.2.2.2.2.2.2.1, by have := ok.2.2.2.2.2.2.2.2.2.2.2.1; show 8 + (nL2 + 11) + 40 * d ≤ _; omega⟩)
    ⟨CB_blind, vk_recv (i := 0) ((okS ok).1 i hi) (by decide) hS, fun U hU hW => ⟨rfl, CB_pre ok hAO hP hD hS (isC := []) rfl rfl hU hW⟩⟩ rfl hn hl.1 rfl (lv_room hroom) dec ⟨Nat.le_trans hm.1 ok.2.2.2.2.2.2.2.2.2.2.2.2.1, Nat.le_trans hm.2 ok.2.2.2.2.2.2.2.2.2.2.2.2.2⟩
theorem B_callT (hAO : AO (fs f)) (ml : MLT own idx y c2 nL2 rt2 na) (hct : CB l G y c2 nL2 rt2 d 0 0 As [] r (fun _ => [])) (hn : As.length = na) (hroom : (rest.map fun v => v.category).sum ≤ 8) (hd : d + 1 ≤ dd) (hm : k ≤ rc ∧ n ≤ rs) (dec : decode cc pc = .ok (.invokestatic idx, 3))
    (g : BW l G f (own, cc, nL, rt) (dd, rc, rs) Q xs k n (pc + 3) lv (r.toList ++ rest) σ) : BW l G f (own, cc, nL, rt) (dd, rc, rs) Q xs k n pc lv (As.reverse ++ rest) σ := by
  refine B_back0 (fun ok H locs ls hl hP hD hS => ?_) g
  obtain ⟨m1, m2, m4, m5, m6, m7⟩ := ml
  exact va_runS (Ts := lw_all) (own := own) (As := As) (rest := rest) (nL := nL) ⟨ok.1, ok.2.1, ok.2.2.1, ok.2.2.2.1, ok.2.2.2.2.1⟩ (hct H.size) (va_cwS na ok.2.2.2.2.1 (good_wsT m1 m2 m4 (good_cons m5)) rfl rfl rfl m6 ⟨Nat.le_trans hd ok.2.2.2.2.2.2.2.2.2.2.1, by have := ok.2.2.2.2.2.2.2.2.2.2.2.1; show 8 + (nL2 + 11) + 40 * d ≤ _; omega⟩)
    ⟨CB_blind, fun U hU hW => ⟨rfl, CB_pre ok hAO hP hD hS (isC := []) rfl rfl hU hW⟩⟩ rfl hn hl.1 rfl (lv_room hroom) dec ⟨Nat.le_trans hm.1 ok.2.2.2.2.2.2.2.2.2.2.2.2.1, Nat.le_trans hm.2 ok.2.2.2.2.2.2.2.2.2.2.2.2.2⟩
theorem MLS.toT (ml : MLS own idx y c2 nL2 rt2 na) : MLT own idx y c2 nL2 rt2 na := by
  obtain ⟨m1, m2, m4, m5, ⟨e, m6⟩, m7⟩ := ml
  subst e
  exact ⟨m1, m2, m4, m5, m6, m7⟩

theorem B_Ka0 {i : Nat} {vr : Value} (hAO : AO (fs f)) (hi : oi G i) (ml : MLV own idx y c2 nL2 rt2 0) (hC : y.cls = "java/lang/String") (hct : CB l G y c2 nL2 rt2 d 0 0 [.ref (G.2.2.2.1 i)] [] (some vr) (fun _ => [])) (hroom : (rest.map fun v => v.category).sum ≤ 8) (hd : d + 1 ≤ dd) (hm : k ≤ rc ∧ n ≤ rs) (dec : decode cc pc = .ok (.invokevirtual idx, 3)) (g : BW l G f (own, cc, nL, rt) (dd, rc, rs) Q xs k n (pc + 3) lv (vr :: rest) σ) : BW l G f (own, cc, nL, rt) (dd, rc, rs) Q xs k n pc lv (.ref (G.2.2.2.1 i) :: rest) σ := B_callK (As := []) hAO hi ml hC hct rfl hroom hd hm dec g
theorem B_Ta0 {vr : Value} (hAO : AO (fs f)) (ml : MLT own idx y c2 nL2 rt2 0) (hct : CB l G y c2 nL2 rt2 d 0 0 [] [] (some vr) (fun _ => [])) (hroom : (rest.map fun v => v.category).sum ≤ 8) (hd : d + 1 ≤ dd) (hm : k ≤ rc ∧ n ≤ rs) (dec : decode cc pc = .ok (.invokestatic idx, 3)) (g : BW l G f (own, cc, nL, rt) (dd, rc, rs) Q xs k n (pc + 3) lv (vr :: rest) σ) : BW l G f (own, cc, nL, rt) (dd, rc, rs) Q xs k n pc lv (rest) σ := B_callT (As := []) hAO ml hct rfl hroom hd hm dec g
theorem B_Kv0 {i : Nat} (hAO : AO (fs f)) (hi : oi G i) (ml : MLV own idx y c2 nL2 rt2 0) (hC : y.cls = "java/lang/String") (hct : CB l G y c2 nL2 rt2 d 0 0 [.ref (G.2.2.2.1 i)] [] none (fun _ => [])) (hroom : (rest.map fun v => v.category).sum ≤ 8) (hd : d + 1 ≤ dd) (hm : k ≤ rc ∧ n ≤ rs) (dec : decode cc pc = .ok (.invokevirtual idx, 3)) (g : BW l G f (own, cc, nL, rt) (dd, rc, rs) Q xs k n (pc + 3) lv (rest) σ) : BW l G f (own, cc, nL, rt) (dd, rc, rs) Q xs k n pc lv (.ref (G.2.2.2.1 i) :: rest) σ := B_callK (As := []) hAO hi ml hC hct rfl hroom hd hm dec g
theorem B_Tv0 (hAO : AO (fs f)) (ml : MLT own idx y c2 nL2 rt2 0) (hct : CB l G y c2 nL2 rt2 d 0 0 [] [] none (fun _ => [])) (hroom : (rest.map fun v => v.category).sum ≤ 8) (hd : d + 1 ≤ dd) (hm : k ≤ rc ∧ n ≤ rs) (dec : decode cc pc = .ok (.invokestatic idx, 3)) (g : BW l G f (own, cc, nL, rt) (dd, rc, rs) Q xs k n (pc + 3) lv (rest) σ) : BW l G f (own, cc, nL, rt) (dd, rc, rs) Q xs k n pc lv (rest) σ := B_callT (As := []) hAO ml hct rfl hroom hd hm dec g
theorem B_I0 {a : Nat} {wr : va_W} {ws1 : (Nat → Nat) → va_W} (isC isR : List Nat) (hAO : AO (fs f)) (ml : MLI own idx y c2 nL2 0) (hct : CB l G y c2 nL2 none d mc ms [.ref a] ws0 none ws1) (hC : isC.map (fun i => xs[i]?) = ws0.map some) (hR : isR.map (fun i => xs[i]?) = wr.map some) (hnC : va_nd isC = true) (hnR : va_nd isR = true) (hdis : ∀ i ∈ isR, i ∉ isC) (hroom : (rest.map fun v => v.category).sum ≤ 8) (hd : d + 1 ≤ dd) (hm : k + mc ≤ rc ∧ n + ms ≤ rs) (e1 : k + mc = k2) (e2 : n + ms = n2) (dec : decode cc pc = .ok (.invokespecial idx, 3)) (g : ∀ a, BW l G f (own, cc, nL, rt) (dd, rc, rs) Q (wr ++ ws1 a) k2 n2 (pc + 3) lv rest σ) : BW l G f (own, cc, nL, rt) (dd, rc, rs) Q xs k n pc lv (.ref a :: rest) σ := by
  subst e1; subst e2
  exact B_init (As := []) isC isR hAO ml hct hC hR hnC hnR hdis rfl hroom hd hm dec g
theorem B_Ka1 {i : Nat} {v0 : Value} {vr : Value} (hAO : AO (fs f)) (hi : oi G i) (ml : MLV own idx y c2 nL2 rt2 1) (hC : y.cls = "java/lang/String") (hct : CB l G y c2 nL2 rt2 d 0 0 [.ref (G.2.2.2.1 i), v0] [] (some vr) (fun _ => [])) (hroom : (rest.map fun v => v.category).sum ≤ 8) (hd : d + 1 ≤ dd) (hm : k ≤ rc ∧ n ≤ rs) (dec : decode cc pc = .ok (.invokevirtual idx, 3)) (g : BW l G f (own, cc, nL, rt) (dd, rc, rs) Q xs k n (pc + 3) lv (vr :: rest) σ) : BW l G f (own, cc, nL, rt) (dd, rc, rs) Q xs k n pc lv (v0 :: .ref (G.2.2.2.1 i) :: rest) σ := B_callK (As := [v0]) hAO hi ml hC hct rfl hroom hd hm dec g
theorem B_Ta1 {v0 : Value} {vr : Value} (hAO : AO (fs f)) (ml : MLT own idx y c2 nL2 rt2 1) (hct : CB l G y c2 nL2 rt2 d 0 0 [v0] [] (some vr) (fun _ => [])) (hroom : (rest.map fun v => v.category).sum ≤ 8) (hd : d + 1 ≤ dd) (hm : k ≤ rc ∧ n ≤ rs) (dec : decode cc pc = .ok (.invokestatic idx, 3)) (g : BW l G f (own, cc, nL, rt) (dd, rc, rs) Q xs k n (pc + 3) lv (vr :: rest) σ) : BW l G f (own, cc, nL, rt) (dd, rc, rs) Q xs k n pc lv (v0 :: rest) σ := B_callT (As := [v0]) hAO ml hct rfl hroom hd hm dec g
theorem B_Kv1 {i : Nat} {v0 : Value} (hAO : AO (fs f)) (hi : oi G i) (ml : MLV own idx y c2 nL2 rt2 1) (hC : y.cls = "java/lang/String") (hct : CB l G y c2 nL2 rt2 d 0 0 [.ref (G.2.2.2.1 i), v0] [] none (fun _ => [])) (hroom : (rest.map fun v => v.category).sum ≤ 8) (hd : d + 1 ≤ dd) (hm : k ≤ rc ∧ n ≤ rs) (dec : decode cc pc = .ok (.invokevirtual idx, 3)) (g : BW l G f (own, cc, nL, rt) (dd, rc, rs) Q xs k n (pc + 3) lv (rest) σ) : BW l G f (own, cc, nL, rt) (dd, rc, rs) Q xs k n pc lv (v0 :: .ref (G.2.2.2.1 i) :: rest) σ := B_callK (As := [v0]) hAO hi ml hC hct rfl hroom hd hm dec g
theorem B_Tv1 {v0 : Value} (hAO : AO (fs f)) (ml : MLT own idx y c2 nL2 rt2 1) (hct : CB l G y c2 nL2 rt2 d 0 0 [v0] [] none (fun _ => [])) (hroom : (rest.map fun v => v.category).sum ≤ 8) (hd : d + 1 ≤ dd) (hm : k ≤ rc ∧ n ≤ rs) (dec : decode cc pc = .ok (.invokestatic idx, 3)) (g : BW l G f (own, cc, nL, rt) (dd, rc, rs) Q xs k n (pc + 3) lv (rest) σ) : BW l G f (own, cc, nL, rt) (dd, rc, rs) Q xs k n pc lv (v0 :: rest) σ := B_callT (As := [v0]) hAO ml hct rfl hroom hd hm dec g
theorem B_I1 {a : Nat} {wr : va_W} {ws1 : (Nat → Nat) → va_W} {v0 : Value} (isC isR : List Nat) (hAO : AO (fs f)) (ml : MLI own idx y c2 nL2 1) (hct : CB l G y c2 nL2 none d mc ms [.ref a, v0] ws0 none ws1) (hC : isC.map (fun i => xs[i]?) = ws0.map some) (hR : isR.map (fun i => xs[i]?) = wr.map some) (hnC : va_nd isC = true) (hnR : va_nd isR = true) (hdis : ∀ i ∈ isR, i ∉ isC) (hroom : (rest.map fun v => v.category).sum ≤ 8) (hd : d + 1 ≤ dd) (hm : k + mc ≤ rc ∧ n + ms ≤ rs) (e1 : k + mc = k2) (e2 : n + ms = n2) (dec : decode cc pc = .ok (.invokespecial idx, 3)) (g : ∀ a, BW l G f (own, cc, nL, rt) (dd, rc, rs) Q (wr ++ ws1 a) k2 n2 (pc + 3) lv rest σ) : BW l G f (own, cc, nL, rt) (dd, rc, rs) Q xs k n pc lv (v0 :: .ref a :: rest) σ := by
  subst e1; subst e2
  exact B_init (As := [v0]) isC isR hAO ml hct hC hR hnC hnR hdis rfl hroom hd hm dec g
theorem B_Ka2 {i : Nat} {v0 v1 : Value} {vr : Value} (hAO : AO (fs f)) (hi : oi G i) (ml : MLV own idx y c2 nL2 rt2 2) (hC : y.cls = "java/lang/String") (hct : CB l G y c2 nL2 rt2 d 0 0 [.ref (G.2.2.2.1 i), v0, v1] [] (some vr) (fun _ => [])) (hroom : (rest.map fun v => v.category).sum ≤ 8) (hd : d + 1 ≤ dd) (hm : k ≤ rc ∧ n ≤ rs) (dec : decode cc pc = .ok (.invokevirtual idx, 3)) (g : BW l G f (own, cc, nL, rt) (dd, rc, rs) Q xs k n (pc + 3) lv (vr :: rest) σ) : BW l G f (own, cc, nL, rt) (dd, rc, rs) Q xs k n pc lv (v1 :: v0 :: .ref (G.2.2.2.1 i) :: rest) σ := B_callK (As := [v0, v1]) hAO hi ml hC hct rfl hroom hd hm dec g
theorem B_Ta2 {v0 v1 : Value} {vr : Value} (hAO : AO (fs f)) (ml : MLT own idx y c2 nL2 rt2 2) (hct : CB l G y c2 nL2 rt2 d 0 0 [v0, v1] [] (some vr) (fun _ => [])) (hroom : (rest.map fun v => v.category).sum ≤ 8) (hd : d + 1 ≤ dd) (hm : k ≤ rc ∧ n ≤ rs) (dec : decode cc pc = .ok (.invokestatic idx, 3)) (g : BW l G f (own, cc, nL, rt) (dd, rc, rs) Q xs k n (pc + 3) lv (vr :: rest) σ) : BW l G f (own, cc, nL, rt) (dd, rc, rs) Q xs k n pc lv (v1 :: v0 :: rest) σ := B_callT (As := [v0, v1]) hAO ml hct rfl hroom hd hm dec g
theorem B_Kv2 {i : Nat} {v0 v1 : Value} (hAO : AO (fs f)) (hi : oi G i) (ml : MLV own idx y c2 nL2 rt2 2) (hC : y.cls = "java/lang/String") (hct : CB l G y c2 nL2 rt2 d 0 0 [.ref (G.2.2.2.1 i), v0, v1] [] none (fun _ => [])) (hroom : (rest.map fun v => v.category).sum ≤ 8) (hd : d + 1 ≤ dd) (hm : k ≤ rc ∧ n ≤ rs) (dec : decode cc pc = .ok (.invokevirtual idx, 3)) (g : BW l G f (own, cc, nL, rt) (dd, rc, rs) Q xs k n (pc + 3) lv (rest) σ) : BW l G f (own, cc, nL, rt) (dd, rc, rs) Q xs k n pc lv (v1 :: v0 :: .ref (G.2.2.2.1 i) :: rest) σ := B_callK (As := [v0, v1]) hAO hi ml hC hct rfl hroom hd hm dec g
theorem B_Tv2 {v0 v1 : Value} (hAO : AO (fs f)) (ml : MLT own idx y c2 nL2 rt2 2) (hct : CB l G y c2 nL2 rt2 d 0 0 [v0, v1] [] none (fun _ => [])) (hroom : (rest.map fun v => v.category).sum ≤ 8) (hd : d + 1 ≤ dd) (hm : k ≤ rc ∧ n ≤ rs) (dec : decode cc pc = .ok (.invokestatic idx, 3)) (g : BW l G f (own, cc, nL, rt) (dd, rc, rs) Q xs k n (pc + 3) lv (rest) σ) : BW l G f (own, cc, nL, rt) (dd, rc, rs) Q xs k n pc lv (v1 :: v0 :: rest) σ := B_callT (As := [v0, v1]) hAO ml hct rfl hroom hd hm dec g
theorem B_I2 {a : Nat} {wr : va_W} {ws1 : (Nat → Nat) → va_W} {v0 v1 : Value} (isC isR : List Nat) (hAO : AO (fs f)) (ml : MLI own idx y c2 nL2 2) (hct : CB l G y c2 nL2 none d mc ms [.ref a, v0, v1] ws0 none ws1) (hC : isC.map (fun i => xs[i]?) = ws0.map some) (hR : isR.map (fun i => xs[i]?) = wr.map some) (hnC : va_nd isC = true) (hnR : va_nd isR = true) (hdis : ∀ i ∈ isR, i ∉ isC) (hroom : (rest.map fun v => v.category).sum ≤ 8) (hd : d + 1 ≤ dd) (hm : k + mc ≤ rc ∧ n + ms ≤ rs) (e1 : k + mc = k2) (e2 : n + ms = n2) (dec : decode cc pc = .ok (.invokespecial idx, 3)) (g : ∀ a, BW l G f (own, cc, nL, rt) (dd, rc, rs) Q (wr ++ ws1 a) k2 n2 (pc + 3) lv rest σ) : BW l G f (own, cc, nL, rt) (dd, rc, rs) Q xs k n pc lv (v1 :: v0 :: .ref a :: rest) σ := by
  subst e1; subst e2
  exact B_init (As := [v0, v1]) isC isR hAO ml hct hC hR hnC hnR hdis rfl hroom hd hm dec g
theorem B_Ka3 {i : Nat} {v0 v1 v2 : Value} {vr : Value} (hAO : AO (fs f)) (hi : oi G i) (ml : MLV own idx y c2 nL2 rt2 3) (hC : y.cls = "java/lang/String") (hct : CB l G y c2 nL2 rt2 d 0 0 [.ref (G.2.2.2.1 i), v0, v1, v2] [] (some vr) (fun _ => [])) (hroom : (rest.map fun v => v.category).sum ≤ 8) (hd : d + 1 ≤ dd) (hm : k ≤ rc ∧ n ≤ rs) (dec : decode cc pc = .ok (.invokevirtual idx, 3)) (g : BW l G f (own, cc, nL, rt) (dd, rc, rs) Q xs k n (pc + 3) lv (vr :: rest) σ) : BW l G f (own, cc, nL, rt) (dd, rc, rs) Q xs k n pc lv (v2 :: v1 :: v0 :: .ref (G.2.2.2.1 i) :: rest) σ := B_callK (As := [v0, v1, v2]) hAO hi ml hC hct rfl hroom hd hm dec g
theorem B_Ta3 {v0 v1 v2 : Value} {vr : Value} (hAO : AO (fs f)) (ml : MLT own idx y c2 nL2 rt2 3) (hct : CB l G y c2 nL2 rt2 d 0 0 [v0, v1, v2] [] (some vr) (fun _ => [])) (hroom : (rest.map fun v => v.category).sum ≤ 8) (hd : d + 1 ≤ dd) (hm : k ≤ rc ∧ n ≤ rs) (dec : decode cc pc = .ok (.invokestatic idx, 3)) (g : BW l G f (own, cc, nL, rt) (dd, rc, rs) Q xs k n (pc + 3) lv (vr :: rest) σ) : BW l G f (own, cc, nL, rt) (dd, rc, rs) Q xs k n pc lv (v2 :: v1 :: v0 :: rest) σ := B_callT (As := [v0, v1, v2]) hAO ml hct rfl hroom hd hm dec g
theorem B_Kv3 {i : Nat} {v0 v1 v2 : Value} (hAO : AO (fs f)) (hi : oi G i) (ml : MLV own idx y c2 nL2 rt2 3) (hC : y.cls = "java/lang/String") (hct : CB l G y c2 nL2 rt2 d 0 0 [.ref (G.2.2.2.1 i), v0, v1, v2] [] none (fun _ => [])) (hroom : (rest.map fun v => v.category).sum ≤ 8) (hd : d + 1 ≤ dd) (hm : k ≤ rc ∧ n ≤ rs) (dec : decode cc pc = .ok (.invokevirtual idx, 3)) (g : BW l G f (own, cc, nL, rt) (dd, rc, rs) Q xs k n (pc + 3) lv (rest) σ) : BW l G f (own, cc, nL, rt) (dd, rc, rs) Q xs k n pc lv (v2 :: v1 :: v0 :: .ref (G.2.2.2.1 i) :: rest) σ := B_callK (As := [v0, v1, v2]) hAO hi ml hC hct rfl hroom hd hm dec g
theorem B_Tv3 {v0 v1 v2 : Value} (hAO : AO (fs f)) (ml : MLT own idx y c2 nL2 rt2 3) (hct : CB l G y c2 nL2 rt2 d 0 0 [v0, v1, v2] [] none (fun _ => [])) (hroom : (rest.map fun v => v.category).sum ≤ 8) (hd : d + 1 ≤ dd) (hm : k ≤ rc ∧ n ≤ rs) (dec : decode cc pc = .ok (.invokestatic idx, 3)) (g : BW l G f (own, cc, nL, rt) (dd, rc, rs) Q xs k n (pc + 3) lv (rest) σ) : BW l G f (own, cc, nL, rt) (dd, rc, rs) Q xs k n pc lv (v2 :: v1 :: v0 :: rest) σ := B_callT (As := [v0, v1, v2]) hAO ml hct rfl hroom hd hm dec g
theorem B_I3 {a : Nat} {wr : va_W} {ws1 : (Nat → Nat) → va_W} {v0 v1 v2 : Value} (isC isR : List Nat) (hAO : AO (fs f)) (ml : MLI own idx y c2 nL2 3) (hct : CB l G y c2 nL2 none d mc ms [.ref a, v0, v1, v2] ws0 none ws1) (hC : isC.map (fun i => xs[i]?) = ws0.map some) (hR : isR.map (fun i => xs[i]?) = wr.map some) (hnC : va_nd isC = true) (hnR : va_nd isR = true) (hdis : ∀ i ∈ isR, i ∉ isC) (hroom : (rest.map fun v => v.category).sum ≤ 8) (hd : d + 1 ≤ dd) (hm : k + mc ≤ rc ∧ n + ms ≤ rs) (e1 : k + mc = k2) (e2 : n + ms = n2) (dec : decode cc pc = .ok (.invokespecial idx, 3)) (g : ∀ a, BW l G f (own, cc, nL, rt) (dd, rc, rs) Q (wr ++ ws1 a) k2 n2 (pc + 3) lv rest σ) : BW l G f (own, cc, nL, rt) (dd, rc, rs) Q xs k n pc lv (v2 :: v1 :: v0 :: .ref a :: rest) σ := by
  subst e1; subst e2
  exact B_init (As := [v0, v1, v2]) isC isR hAO ml hct hC hR hnC hnR hdis rfl hroom hd hm dec g
theorem B_N0 {a : Nat} {wr : va_W} {ws1 : (Nat → Nat) → va_W} (isC isR : List Nat) (hAO : AO (fs f)) (ml : MLN own idx y c2 nL2 0) (hct : CB l G y c2 nL2 none d mc ms [.ref a] ws0 none ws1) (hC : isC.map (fun i => xs[i]?) = ws0.map some) (hR : isR.map (fun i => xs[i]?) = wr.map some) (hnC : va_nd isC = true) (hnR : va_nd isR = true) (hdis : ∀ i ∈ isR, i ∉ isC) (hroom : (rest.map fun v => v.category).sum ≤ 8) (hd : d + 1 ≤ dd) (hm : k + mc ≤ rc ∧ n + ms ≤ rs) (e1 : k + mc = k2) (e2 : n + ms = n2) (dec : decode cc pc = .ok (.invokespecial idx, 3)) (g : ∀ a, BW l G f (own, cc, nL, rt) (dd, rc, rs) Q (wr ++ ws1 a) k2 n2 (pc + 3) lv rest σ) : BW l G f (own, cc, nL, rt) (dd, rc, rs) Q xs k n pc lv (.ref a :: rest) σ := by
  subst e1; subst e2
  exact B_initN (As := []) isC isR hAO ml hct hC hR hnC hnR hdis rfl hroom hd hm dec g
/-! ends -/
theorem B_vret {ws1 : (Nat → Nat) → va_W} (a : Nat → Nat) (h : xs = ws1 a) (dc : decode cc pc = .ok (.return_, 1)) (hr : r = none) : BW l G f (own, cc, nL, none) b (QB G f k n r ws1) xs k n pc lv [] σ := by
  subst hr
  intro ok H locs ls hl hP hD hS
  rw [h] at hP hD
  exact W.vret ok.1 ok.2.1 ok.2.2.2.2.2.2.2.2.1 (fun t ht hW => ⟨⟨rfl, a, by rw [ht]; exact hP, hD⟩, hS.F ht⟩) hS.2.2 dc ok.2.2.2.2.2.2.2.2.2.1
theorem B_iret {x : Int} (dc : decode cc pc = .ok (.ireturn, 1)) (hr : r = some (.int (I32 x))) : BW l G f (own, cc, nL, some .int) b (QB G f k n r (fun _ => [])) [] k n pc lv [.int (I32 x)] σ := by
  subst hr
  intro ok H locs ls hl hP hD hS
  exact W.iret ok.1 ok.2.1 ok.2.2.2.2.2.2.2.2.1 (fun t ht hW => ⟨⟨rfl, id, by rw [ht]; exact hP, hD⟩, hS.F ht⟩) hS.2.2 dc ok.2.2.2.2.2.2.2.2.2.1
theorem B_lret {x : Int} (dc : decode cc pc = .ok (.lreturn, 1)) (hr : r = some (.long (I64 x))) : BW l G f (own, cc, nL, some .long) b (QB G f k n r (fun _ => [])) [] k n pc lv [.long (I64 x)] σ := by
  subst hr
  intro ok H locs ls hl hP hD hS
  exact W.lret ok.1 ok.2.1 ok.2.2.2.2.2.2.2.2.1 (fun t ht hW => ⟨⟨rfl, id, by rw [ht]; exact hP, hD⟩, hS.F ht⟩) hS.2.2 dc ok.2.2.2.2.2.2.2.2.2.1
theorem B_nret {x : Int} {ty : FieldType} (dc : decode cc pc = .ok (.ireturn, 1)) (hn : narrow ty (.int (I32 x)) = .int (I32 x)) (hr : r = some (.int (I32 x))) : BW l G f (own, cc, nL, some ty) b (QB G f k n r (fun _ => [])) [] k n pc lv [.int (I32 x)] σ := by
  subst hr
  intro ok H locs ls hl hP hD hS
  exact W.zret (ty := ty) ok.1 ok.2.1 ok.2.2.2.2.2.2.2.2.1 hn (fun t ht hW => ⟨⟨rfl, id, by rw [ht]; exact hP, hD⟩, hS.F ht⟩) hS.2.2 dc ok.2.2.2.2.2.2.2.2.2.1
end S88
section S88b
variable {l : Launch} {G : Gx}
set_option maxRecDepth 100000 in
set_option maxHeartbeats 4000000 in
theorem b_J0_isLatin1_aae02 (i : Nat) (hi : oi G i) : CB l G yJ0_isLatin1_aae02 cJ0_isLatin1_aae02 1 (some .boolean) 0 0 0 [.ref (G.2.2.2.1 i)] [] (some (.int (I32 1))) (fun _ => []) := by
  refine CB.of (by decide +kernel) (Nat.le_of_ble_eq_true rfl) (fun f _ hAO => ?_)
  show BW _ _ _ _ _ _ _ _ _ _ [(0, _)] _ _
  refine B_gsi fk_J0_38 dJ0_isLatin1_aae02_0 ?_
  refine B_if_eq (tgt := 17) dJ0_isLatin1_aae02_3 (by decide) ⟨by decide, by decide⟩ (fun h => absurd h (by decide)) (fun _ => ?_)
  refine B_aload_n dJ0_isLatin1_aae02_6 rfl 0 rfl ?_
  refine B_kcod hi fk_J0_15 dJ0_isLatin1_aae02_7 ?_
  refine B_if_ne (tgt := 17) dJ0_isLatin1_aae02_10 (by decide) ⟨by decide, by decide⟩ (fun h => absurd h (by decide)) (fun _ => ?_)
  refine B_iconst dJ0_isLatin1_aae02_13 ?_
  refine B_goto (tgt := 18) dJ0_isLatin1_aae02_14 (by decide) ?_
  exact B_nret dJ0_isLatin1_aae02_18 rfl (by rfl)
set_option maxRecDepth 100000 in
set_option maxHeartbeats 4000000 in
theorem b_J0_coder_7d493 (i : Nat) (hi : oi G i) : CB l G yJ0_coder_7d493 cJ0_coder_7d493 1 (some .byte) 0 0 0 [.ref (G.2.2.2.1 i)] [] (some (.int (I32 0))) (fun _ => []) := by
  refine CB.of (by decide +kernel) (Nat.le_of_ble_eq_true rfl) (fun f _ hAO => ?_)
  show BW _ _ _ _ _ _ _ _ _ _ [(0, _)] _ _
  refine B_gsi fk_J0_38 dJ0_coder_7d493_0 ?_
  refine B_if_eq (tgt := 13) dJ0_coder_7d493_3 (by decide) ⟨by decide, by decide⟩ (fun h => absurd h (by decide)) (fun _ => ?_)
  refine B_aload_n dJ0_coder_7d493_6 rfl 0 rfl ?_
  refine B_kcod hi fk_J0_15 dJ0_coder_7d493_7 ?_
  refine B_goto (tgt := 14) dJ0_coder_7d493_10 (by decide) ?_
  exact B_nret dJ0_coder_7d493_14 (by decide) (by rfl)
set_option maxRecDepth 100000 in
set_option maxHeartbeats 4000000 in
theorem b_J0_length_8abf5 (i : Nat) (hi : oi G i) : CB l G yJ0_length_8abf5 cJ0_length_8abf5 1 (some .int) 1 0 0 [.ref (G.2.2.2.1 i)] [] (some (.int (I32 (kl i)))) (fun _ => []) := by
  refine CB.of (by decide +kernel) (Nat.le_of_ble_eq_true rfl) (fun f _ hAO => ?_)
  show BW _ _ _ _ _ _ _ _ _ _ [(0, _)] _ _
  refine B_aload_n dJ0_length_8abf5_0 rfl 0 rfl ?_
  refine B_kval hi fk_J0_9 dJ0_length_8abf5_1 ?_
  refine B_klen hi dJ0_length_8abf5_4 ?_
  refine B_aload_n dJ0_length_8abf5_5 rfl 0 rfl ?_
  refine B_Ka0 hAO hi mv_J0_335 rfl (b_J0_coder_7d493 _ (by first | assumption | exact oi_c (by decide) | decide | omega)) (Nat.le_of_ble_eq_true rfl) (by omega) (by omega) dJ0_length_8abf5_6 ?_
  refine B_ishr dJ0_length_8abf5_9 ?_
  exact B_iret dJ0_length_8abf5_10 (by rw [klL_ish i hi.lt])
set_option maxRecDepth 100000 in
set_option maxHeartbeats 4000000 in
theorem b_J3_checkIndex_8e157 (x y : Int) (t : Nat) (h : 0 ≤ i32 x ∧ i32 x < i32 y) : CB l G yJ3_checkIndex_8e157 cJ3_checkIndex_8e157 3 (some .int) 0 0 0 [.int (I32 x), .int (I32 y), .ref t] [] (some (.int (I32 x))) (fun _ => []) := by
  refine CB.of (by decide +kernel) (Nat.le_of_ble_eq_true rfl) (fun f _ hAO => ?_)
  show BW _ _ _ _ _ _ _ _ _ _ [(0, _), (1, _), (2, _)] _ _
  refine B_iload_n dJ3_checkIndex_8e157_0 rfl 0 rfl ?_
  refine BJ_if_lt (tgt := 9) dJ3_checkIndex_8e157_1 (by decide) (by first | exact i32_eq (by assumption) | exact i32_eq ⟨by omega, by omega⟩ | with_reducible exact i32_i32 _ | with_reducible exact i32_eq (b2i_inr _) | rfl) (fun h1 => ?_) (fun h1 => ?_)
  · exfalso; omega
  · refine B_iload_n dJ3_checkIndex_8e157_4 rfl 0 rfl ?_
    refine B_iload_n dJ3_checkIndex_8e157_5 rfl 1 rfl ?_
    refine BJ_icmp_lt (tgt := 16) dJ3_checkIndex_8e157_6 (by decide) (by first | exact i32_eq (by assumption) | exact i32_eq ⟨by omega, by omega⟩ | with_reducible exact i32_i32 _ | with_reducible exact i32_eq (b2i_inr _) | rfl) (by first | exact i32_eq (by assumption) | exact i32_eq ⟨by omega, by omega⟩ | with_reducible exact i32_i32 _ | with_reducible exact i32_eq (b2i_inr _) | rfl) (fun h6 => ?_) (fun h6 => ?_)
    · refine B_iload_n dJ3_checkIndex_8e157_16 rfl 0 rfl ?_
      exact B_iret dJ3_checkIndex_8e157_17 (by rfl)
    · exfalso; omega
set_option maxRecDepth 100000 in
set_option maxHeartbeats 4000000 in
theorem b_J3_checkIndexN_8e157 (x y : Int) (h : 0 ≤ i32 x ∧ i32 x < i32 y) : CB l G yJ3_checkIndex_8e157 cJ3_checkIndex_8e157 3 (some .int) 0 0 0 [.int (I32 x), .int (I32 y), .null] [] (some (.int (I32 x))) (fun _ => []) := by
  refine CB.of (by decide +kernel) (Nat.le_of_ble_eq_true rfl) (fun f _ hAO => ?_)
  show BW _ _ _ _ _ _ _ _ _ _ [(0, _), (1, _), (2, _)] _ _
  refine B_iload_n dJ3_checkIndex_8e157_0 rfl 0 rfl ?_
  refine BJ_if_lt (tgt := 9) dJ3_checkIndex_8e157_1 (by decide) (by first | exact i32_eq (by assumption) | exact i32_eq ⟨by omega, by omega⟩ | with_reducible exact i32_i32 _ | with_reducible exact i32_eq (b2i_inr _) | rfl) (fun h1 => ?_) (fun h1 => ?_)
  · exfalso; omega
  · refine B_iload_n dJ3_checkIndex_8e157_4 rfl 0 rfl ?_
    refine B_iload_n dJ3_checkIndex_8e157_5 rfl 1 rfl ?_
    refine BJ_icmp_lt (tgt := 16) dJ3_checkIndex_8e157_6 (by decide) (by first | exact i32_eq (by assumption) | exact i32_eq ⟨by omega, by omega⟩ | with_reducible exact i32_i32 _ | with_reducible exact i32_eq (b2i_inr _) | rfl) (by first | exact i32_eq (by assumption) | exact i32_eq ⟨by omega, by omega⟩ | with_reducible exact i32_i32 _ | with_reducible exact i32_eq (b2i_inr _) | rfl) (fun h6 => ?_) (fun h6 => ?_)
    · refine B_iload_n dJ3_checkIndex_8e157_16 rfl 0 rfl ?_
      exact B_iret dJ3_checkIndex_8e157_17 (by rfl)
    · exfalso; omega
set_option maxRecDepth 100000 in
set_option maxHeartbeats 4000000 in
theorem b_J0_checkIndex_df160 (x y : Int) (h : 0 ≤ i32 x ∧ i32 x < i32 y) : CB l G yJ0_checkIndex_df160 cJ0_checkIndex_df160 2 none 1 0 0 [.int (I32 x), .int (I32 y)] [] (none) (fun _ => []) := by
  refine CB.of (by decide +kernel) (Nat.le_of_ble_eq_true rfl) (fun f _ hAO => ?_)
  show BW _ _ _ _ _ _ _ _ _ _ [(0, _), (1, _)] _ _
  refine B_iload_n dJ0_checkIndex_df160_0 rfl 0 rfl ?_
  refine B_iload_n dJ0_checkIndex_df160_1 rfl 1 rfl ?_
  refine B_gsf fk_J0_1053 dJ0_checkIndex_df160_2 ?_ (fun tf => ?_)
  · refine B_Ta3 hAO mt_J0_1059 (b_J3_checkIndexN_8e157 _ _ (by first | assumption | exact oi_c (by decide) | decide | omega)) (Nat.le_of_ble_eq_true rfl) (by omega) (by omega) dJ0_checkIndex_df160_5 ?_
    refine B_pop dJ0_checkIndex_df160_8 rfl ?_
    exact B_vret id rfl dJ0_checkIndex_df160_9 rfl
  · refine B_Ta3 hAO mt_J0_1059 (b_J3_checkIndex_8e157 _ _ _ (by first | assumption | exact oi_c (by decide) | decide | omega)) (Nat.le_of_ble_eq_true rfl) (by omega) (by omega) dJ0_checkIndex_df160_5 ?_
    refine B_pop dJ0_checkIndex_df160_8 rfl ?_
    exact B_vret id rfl dJ0_checkIndex_df160_9 rfl
set_option maxRecDepth 100000 in
set_option maxHeartbeats 4000000 in
theorem b_J1_charAt_3b067 (i : Nat) (x : Int) (hi : oi G i) (h : 0 ≤ i32 x ∧ i32 x < kl i) : CB l G yJ1_charAt_3b067 cJ1_charAt_3b067 2 (some .char) 2 0 0 [.ref (G.2.2.2.2.1 i), .int (I32 x)] [] (some (.int (I32 (kb i (i32 x).toNat)))) (fun _ => []) := by
  have e0 := klL_i32 i hi.lt
  refine CB.of (by decide +kernel) (Nat.le_of_ble_eq_true rfl) (fun f _ hAO => ?_)
  show BW _ _ _ _ _ _ _ _ _ _ [(0, _), (1, _)] _ _
  refine B_iload_n dJ1_charAt_3b067_0 rfl 1 rfl ?_
  refine B_aload_n dJ1_charAt_3b067_1 rfl 0 rfl ?_
  refine B_klen hi dJ1_charAt_3b067_2 ?_
  refine B_Tv2 hAO mt_J1_9 (b_J0_checkIndex_df160 _ _ (by first | assumption | exact oi_c (by decide) | decide | omega)) (Nat.le_of_ble_eq_true rfl) (by omega) (by omega) dJ1_charAt_3b067_3 ?_
  refine B_aload_n dJ1_charAt_3b067_6 rfl 0 rfl ?_
  refine B_iload_n dJ1_charAt_3b067_7 rfl 1 rfl ?_
  refine B_kbald hi (by first | exact i32_eq (by assumption) | exact i32_eq ⟨by omega, by omega⟩ | with_reducible exact i32_i32 _ | with_reducible exact i32_eq (b2i_inr _) | rfl) (by omega) (by omega) dJ1_charAt_3b067_8 ?_
  refine B_sipush dJ1_charAt_3b067_9 (by decide +kernel) ?_
  refine B_iand dJ1_charAt_3b067_12 ?_
  refine B_i2c dJ1_charAt_3b067_13 ?_
  exact B_nret dJ1_charAt_3b067_14 (by rw [kbL_ch hi.lt h]; exact nar_chz (kbL_nar hi.lt h)) (by rw [kbL_ch hi.lt h])
set_option maxRecDepth 100000 in
set_option maxHeartbeats 4000000 in
theorem b_J0_charAt_5068e (i : Nat) (x : Int) (hi : oi G i) (h : 0 ≤ i32 x ∧ i32 x < kl i) : CB l G yJ0_charAt_5068e cJ0_charAt_5068e 2 (some .char) 3 0 0 [.ref (G.2.2.2.1 i), .int (I32 x)] [] (some (.int (I32 (kb i (i32 x).toNat)))) (fun _ => []) := by
  refine CB.of (by decide +kernel) (Nat.le_of_ble_eq_true rfl) (fun f _ hAO => ?_)
  show BW _ _ _ _ _ _ _ _ _ _ [(0, _), (1, _)] _ _
  refine B_aload_n dJ0_charAt_5068e_0 rfl 0 rfl ?_
  refine B_Ka0 hAO hi mv_J0_492 rfl (b_J0_isLatin1_aae02 _ (by first | assumption | exact oi_c (by decide) | decide | omega)) (Nat.le_of_ble_eq_true rfl) (by omega) (by omega) dJ0_charAt_5068e_1 ?_
  refine B_if_eq (tgt := 16) dJ0_charAt_5068e_4 (by decide) ⟨by decide, by decide⟩ (fun h => absurd h (by decide)) (fun _ => ?_)
  refine B_aload_n dJ0_charAt_5068e_7 rfl 0 rfl ?_
  refine B_kval hi fk_J0_9 dJ0_charAt_5068e_8 ?_
  refine B_iload_n dJ0_charAt_5068e_11 rfl 1 rfl ?_
  refine B_Ta2 hAO mt_J0_495 (b_J1_charAt_3b067 _ _ (by first | assumption | exact oi_c (by decide) | decide | omega) (by first | assumption | exact oi_c (by decide) | decide | omega)) (Nat.le_of_ble_eq_true rfl) (by omega) (by omega) dJ0_charAt_5068e_12 ?_
  exact B_nret dJ0_charAt_5068e_15 (nar_chz (kbL_nar hi.lt h)) (by rfl)
set_option maxRecDepth 100000 in
set_option maxHeartbeats 4000000 in
theorem b_X9_withLetter (v c : Int)  : CB l G yX9_withLetter cX9_withLetter 3 (some .long) 0 0 0 [.long (I64 v), .int (I32 c)] [] (some (.long (I64 (v * 27 + i32 (c - 97 + 1))))) (fun _ => []) := by
  refine CB.of (by decide +kernel) (Nat.le_of_ble_eq_true rfl) (fun f _ hAO => ?_)
  show BW _ _ _ _ _ _ _ _ _ _ [(0, _), (2, _)] _ _
  refine B_lload_n dX9_withLetter_0 rfl 0 rfl ?_
  refine B_ldc2 kc_X9_87 dX9_withLetter_1 ?_
  refine B_lmul dX9_withLetter_4 ?_
  refine B_iload_n dX9_withLetter_5 rfl 1 rfl ?_
  refine B_bipush dX9_withLetter_6 (by decide +kernel) ?_
  refine B_isub dX9_withLetter_8 ?_
  refine B_iconst dX9_withLetter_9 ?_
  refine B_iadd dX9_withLetter_10 ?_
  refine BJ_i2l dX9_withLetter_11 (by first | exact i32_eq (by assumption) | exact i32_eq ⟨by omega, by omega⟩ | with_reducible exact i32_i32 _ | with_reducible exact i32_eq (b2i_inr _) | rfl) ?_
  refine B_ladd dX9_withLetter_12 ?_
  exact B_lret dX9_withLetter_13 (by rfl)
end S88b
