/-! calls of the simplified machine -/
/-- what a call's link says: of a method of an object; of a static method -/
def MLV (own : String) (idx : Nat) (y : MethodName) (cc : ByteArray) (nL : Nat) (rt : Option FieldType) (na : Nat) : Prop := Cond.methodLink own idx y ∈ lw_all ∧ Cond.instanceMethod y ∈ lw_all ∧ Cond.selects y.cls y y ∈ lw_all ∧ Cond.initialized y.cls ∈ lw_all ∧ Cond.code y cc nL rt ∈ lw_all ∧ (y.cls ≠ "java/lang/invoke/MethodHandle" ∧ y.cls ≠ "java/lang/invoke/VarHandle" ∧ (parseMethodDescriptor y.desc).map (fun d => d.parameters.length) = some na) ∧ nL ≤ 20
def MLS (own : String) (idx : Nat) (y : MethodName) (cc : ByteArray) (nL : Nat) (rt : Option FieldType) (na : Nat) : Prop := Cond.methodLink own idx y ∈ lw_all ∧ Cond.static y ∈ lw_all ∧ Cond.initialized own ∈ lw_all ∧ Cond.code y cc nL rt ∈ lw_all ∧ (y.cls = own ∧ y.cls ≠ "java/lang/invoke/MethodHandle" ∧ y.cls ≠ "java/lang/invoke/VarHandle" ∧ (parseMethodDescriptor y.desc).map (fun d => d.parameters.length) = some na) ∧ nL ≤ 20
theorem good_cons {w : Cond} (h : w ∈ lw_all) : GoodIn lw_all (w :: lw_all) := fun a ha => by
  rcases List.mem_cons.mp ha with rfl | h2
  · exact all_good _ h
  · exact all_good _ h2
theorem good_wsV {own C : String} {idx : Nat} {y : MethodName} {ws : List Cond} (h1 : Cond.methodLink own idx y ∈ lw_all) (h2 : Cond.instanceMethod y ∈ lw_all) (h3 : Cond.selects C y y ∈ lw_all) (h4 : Cond.initialized C ∈ lw_all) (h : GoodIn lw_all ws) : GoodIn lw_all (wsV own idx C y ws) := fun a ha => by
  rcases List.mem_append.mp ha with ha | ha
  · simp only [List.mem_cons, List.not_mem_nil, or_false] at ha
    rcases ha with rfl | rfl | rfl | rfl
    · exact all_good _ h1
    · exact all_good _ h2
    · exact all_good _ h3
    · exact all_good _ h4
  · exact h a ha
theorem good_wsS {own : String} {idx : Nat} {y : MethodName} {ws : List Cond} (h1 : Cond.methodLink own idx y ∈ lw_all) (h2 : Cond.static y ∈ lw_all) (h4 : Cond.initialized own ∈ lw_all) (h : GoodIn lw_all ws) : GoodIn lw_all (wsS own idx y ws) := fun a ha => by
  rcases List.mem_append.mp ha with ha | ha
  · simp only [List.mem_cons, List.not_mem_nil, or_false] at ha
    rcases ha with rfl | rfl | rfl
    · exact all_good _ h1
    · exact all_good _ h2
    · exact all_good _ h4
  · exact h a ha
section AC
variable {l : Launch} {G : Gx} {f : Fm} {own : String} {cc : ByteArray} {nL : Nat} {rt : Option FieldType} {dd rc rs : Nat} {Q : State → Prop} {xs : va_W} {k n pc : Nat} {lv : List (Nat × Value)} {rest : List Value} {σ σ1 : Sg} {r : Option Value} {y : MethodName} {idx : Nat} {c2 : ByteArray} {nL2 : Nat} {rt2 : Option FieldType} {na d mc ms : Nat} {As : List Value}
theorem wld_addr {σ σ1 : Sg} {i : Nat} {q : Nat × va_E} (h : (wld G σ)[i]? = some q) : ∃ e, (wld G σ1)[i]? = some (q.1, e) := by
  obtain ⟨kd, h1, rfl⟩ := wld_of h
  exact ⟨_, wld_at h1⟩
theorem wldx_addr {σ σ1 : Sg} {i : Nat} {q : Nat × va_E} (h : (wld G σ1 ++ xs)[i]? = some q) : ∃ e, (wld G σ ++ xs)[i]? = some (q.1, e) := by
  by_cases hi : i < (lkG G).length
  · rw [List.getElem?_append_left (by rw [wld_len]; exact hi)] at h ⊢
    exact wld_addr h
  · rw [List.getElem?_append_right (by rw [wld_len]; omega)] at h ⊢
    rw [wld_len] at h ⊢
    exact ⟨q.2, h⟩
theorem wldx_D {A : Nat → Prop} {σ σ1 : Sg} (h : va_D A (wld G σ ++ xs)) : va_D A (wld G σ1 ++ xs) := by
  refine ⟨fun i j p q hp hq e => ?_, fun i q hq => ?_⟩
  · obtain ⟨e1, h1⟩ := wldx_addr (σ := σ) hp
    obtain ⟨e2, h2⟩ := wldx_addr (σ := σ) hq
    exact h.1 i j _ _ h1 h2 e
  · obtain ⟨e1, h1⟩ := wldx_addr (σ := σ) hq
    exact h.2 i (q.1, e1) h1
theorem wld_D0 {A : Nat → Prop} {σ : Sg} (h : va_D A (wld G σ ++ xs)) : va_D A (wld G σ) := by
  have hw : ∀ {i : Nat} {q : Nat × va_E}, (wld G σ)[i]? = some q → (wld G σ ++ xs)[i]? = some q := fun hq => by rw [List.getElem?_append_left (List.getElem?_eq_some_iff.mp hq).1]; exact hq
  exact ⟨fun i j p q hp hq e => h.1 i j p q (hw hp) (hw hq) e, fun i q hq => h.2 i q (hw hq)⟩
theorem wld_P1 {A : Nat → Prop} {σ σ1 : Sg} {H H1 : Heap} (hP : va_P G.1 vwCl (wld G σ ++ xs) H) (hD : va_D A (wld G σ ++ xs)) (hP1 : va_P G.1 vwCl (wld G σ1) H1) (hk : ∀ q : Nat, q < H.size → ¬ va_A (wld G σ) H.size q → H1[q]? = H[q]?) : va_P G.1 vwCl (wld G σ1 ++ xs) H1 := by
  intro i q hq
  by_cases hi : i < (lkG G).length
  · rw [List.getElem?_append_left (by rw [wld_len]; exact hi)] at hq
    exact hP1 i q hq
  · have hq2 : (wld G σ ++ xs)[i]? = some q := by
      rw [List.getElem?_append_right (by rw [wld_len]; omega)] at hq ⊢
      rw [wld_len] at hq ⊢
      exact hq
    have h0 := hP i q hq2
    refine h0.kept (hk q.1 h0.lt ?_)
    rintro (⟨j, e, hj⟩ | hs)
    · have hj2 : (wld G σ ++ xs)[j]? = some (q.1, e) := by rw [List.getElem?_append_left (List.getElem?_eq_some_iff.mp hj).1]; exact hj
      have := hD.1 i j q (q.1, e) hq2 hj2 rfl
      have h3 := (List.getElem?_eq_some_iff.mp hj).1
      rw [wld_len] at h3
      omega
    · have := h0.lt
      omega
/-- behind a call -/
theorem A_back {st0 : List Value} (hrun : FxOk G f (own, cc, nL, rt) (dd, rc, rs) → ∀ (H : Heap) (locs : List Loc) (ls : Array Slot), lv_has ls nL lv → va_P G.1 vwCl (wld G σ ++ xs) H → va_D (fA f) (wld G σ ++ xs) → va_S (fA f) (fs f).heap H locs → va_Run (fp f) l (fe f) (fR f) (fs f) (fm f) (fa f) (fb f) (fme f) (fc f) H locs k n mc ms (F0 (fm f) pc ls st0) rest (fun st oc t => (oc = .returned r ∧ va_P G.1 vwCl (wld G σ1) t.heap) ∧ va_F (va_A (wld G σ) H.size) st t) (va_A (wld G σ) H.size))
    (g : AW l G f (own, cc, nL, rt) (dd, rc, rs) Q xs (k + mc) (n + ms) (pc + 3) lv (r.toList ++ rest) σ1) : AW l G f (own, cc, nL, rt) (dd, rc, rs) Q xs k n pc lv st0 σ := by
  intro ok H locs ls hl hP hD hS T hT X
  obtain ⟨v, st₀, t, T2, L, h0, X2, hL, e1, e2, ⟨⟨hv, hP1⟩, hz, hk⟩, st⟩ := hrun ok H locs ls hl hP hD hS T hT X
  have hv : v = r := by cases hv; rfl
  subst hv
  rw [h0] at hz hk
  have hA : ∀ q, va_A (wld G σ) H.size q → fA f q := by
    rintro q (⟨j, e, hj⟩ | hs)
    · exact (wld_D0 hD).2 j _ hj
    · exact ok.2.2.2.2.2.2.1 q (Nat.le_trans hS.1 hs)
  have hS1 : va_S (fA f) (fs f).heap T2.heap (locs ++ L) := ⟨Nat.le_trans hS.1 (by rw [e1]; exact hz), fun q h1 h2 => by rw [e1, hk q (Nat.lt_of_lt_of_le h1 hS.1) (fun z => h2 (hA q z))]; exact hS.2.1 q h1 h2, fun q hq => by
    rcases List.mem_append.mp hq with h | h
    · exact hS.2.2 q h
    · exact hA _ (hL q h)⟩
  rw [← e1] at hP1 hk
  obtain ⟨t2, a1, b1⟩ := g ok T2.heap (locs ++ L) ls hl (wld_P1 hP hD hP1 hk) (wldx_D hD) hS1 T2 rfl X2
  exact ⟨t2, st t2 a1, b1⟩
theorem Ct_pre {U : State} {H : Heap} {locs : List Loc} (ok : FxOk G f (own, cc, nL, rt) (dd, rc, rs)) (hP : va_P G.1 vwCl (wld G σ ++ xs) H) (hD : va_D (fA f) (wld G σ ++ xs)) (hS : va_S (fA f) (fs f).heap H locs) (hU : U.heap = H) (hW : (fs f).WarmedH U.vm) : U.heap.size = H.size ∧ va_P G.1 vwCl (wld G σ) U.heap ∧ va_K G.1 vwCl (tysG G) U ∧ va_D (fun _ => True) (wld G σ) ∧ ST G (va_A (wld G σ) H.size) U U.heap := by
  have hA : ∀ q, va_A (wld G σ) H.size q → fA f q := by
    rintro q (⟨j, e, hj⟩ | hs)
    · exact (wld_D0 hD).2 j _ hj
    · exact ok.2.2.2.2.2.2.1 q (Nat.le_trans hS.1 hs)
  subst hU
  exact ⟨rfl, wld_drop hP, va_K.moved hW.alike ok.2.2.2.2.2.1, (wld_D0 hD).weaken (fun _ _ _ _ => trivial), ok.2.2.2.2.2.2.2.1.go hS hW hA⟩
theorem Ct_blind {av : List Value} {sz : Nat} : FrameBlind (va_Pc av (fun U => U.heap.size = sz ∧ va_P G.1 vwCl (wld G σ) U.heap ∧ va_K G.1 vwCl (tysG G) U ∧ va_D (fun _ => True) (wld G σ) ∧ ST G (va_A (wld G σ) sz) U U.heap)) := by
  rintro a U g mk ⟨h1, h2, h3, h4, h5, h6⟩
  exact ⟨h1, h2, h3, va_K.moved (u := U) (U := U.calling g mk a) (Vm.Alike.refl U.vm) h4, h5, h6.call g mk a⟩
theorem A_callV {kk ci : Nat} {cs : List Nat} {C : String} {TT : u_T} {NN : Nat} (ml : MLV own idx y c2 nL2 rt2 na) (hk : (lkG G)[kk]? = some (.inl (ci, cs))) (hci : vwCl[ci]? = some (C, TT, NN)) (hC : y.cls = C) (hct : Ct l G y c2 nL2 rt2 d mc ms (.ref (lay G kk) :: As) σ r σ1) (hn : As.length = na) (hroom : (rest.map fun v => v.category).sum ≤ 8) (hd : d + 1 ≤ dd) (hm : k + mc ≤ rc ∧ n + ms ≤ rs) (dec : decode cc pc = .ok (.invokevirtual idx, 3))
    (g : AW l G f (own, cc, nL, rt) (dd, rc, rs) Q xs (k + mc) (n + ms) (pc + 3) lv (r.toList ++ rest) σ1) : AW l G f (own, cc, nL, rt) (dd, rc, rs) Q xs k n pc lv (As.reverse ++ .ref (lay G kk) :: rest) σ := by
  subst hC
  refine A_back (mc := mc) (ms := ms) (fun ok H locs ls hl hP hD hS => ?_) g
  obtain ⟨m1, m2, m3, m4, m5, m6, m7⟩ := ml
  exact va_runV (Ts := lw_all) (own := own) (C := y.cls) (As := As) (rest := rest) (nL := nL) ⟨ok.1, ok.2.1, ok.2.2.1, ok.2.2.2.1, ok.2.2.2.2.1⟩ (hct H.size) (cwV na ok.2.2.2.2.1 (good_wsV m1 m2 m3 m4 (good_cons m5)) rfl rfl rfl ⟨rfl, m6⟩ ⟨Nat.le_trans hd ok.2.2.2.2.2.2.2.2.2.2.1, by have := ok.2.2.2.2.2.2.2.2.2.2.2.1; show 8 + (nL2 + 11) + 40 * d ≤ _; omega⟩)
    ⟨Ct_blind, va_recv ok.2.2.2.2.2.1 hP hci (wldx_at hk), fun U hU hW => ⟨rfl, Ct_pre ok hP hD hS hU hW⟩⟩ rfl hn hl.1 rfl (lv_room hroom) dec ⟨Nat.le_trans hm.1 ok.2.2.2.2.2.2.2.2.2.2.2.2.1, Nat.le_trans hm.2 ok.2.2.2.2.2.2.2.2.2.2.2.2.2⟩
theorem A_callS (ml : MLS own idx y c2 nL2 rt2 na) (hct : Ct l G y c2 nL2 rt2 d mc ms As σ r σ1) (hn : As.length = na) (hroom : (rest.map fun v => v.category).sum ≤ 8) (hd : d + 1 ≤ dd) (hm : k + mc ≤ rc ∧ n + ms ≤ rs) (dec : decode cc pc = .ok (.invokestatic idx, 3))
    (g : AW l G f (own, cc, nL, rt) (dd, rc, rs) Q xs (k + mc) (n + ms) (pc + 3) lv (r.toList ++ rest) σ1) : AW l G f (own, cc, nL, rt) (dd, rc, rs) Q xs k n pc lv (As.reverse ++ rest) σ := by
  refine A_back (mc := mc) (ms := ms) (fun ok H locs ls hl hP hD hS => ?_) g
  obtain ⟨m1, m2, m4, m5, m6, m7⟩ := ml
  exact va_runS (Ts := lw_all) (own := own) (As := As) (rest := rest) (nL := nL) ⟨ok.1, ok.2.1, ok.2.2.1, ok.2.2.2.1, ok.2.2.2.2.1⟩ (hct H.size) (cwS na ok.2.2.2.2.1 (good_wsS m1 m2 m4 (good_cons m5)) rfl rfl rfl m6 ⟨Nat.le_trans hd ok.2.2.2.2.2.2.2.2.2.2.1, by have := ok.2.2.2.2.2.2.2.2.2.2.2.1; show 8 + (nL2 + 11) + 40 * d ≤ _; omega⟩)
    ⟨Ct_blind, fun U hU hW => ⟨rfl, Ct_pre ok hP hD hS hU hW⟩⟩ rfl hn hl.1 rfl (lv_room hroom) dec ⟨Nat.le_trans hm.1 ok.2.2.2.2.2.2.2.2.2.2.2.2.1, Nat.le_trans hm.2 ok.2.2.2.2.2.2.2.2.2.2.2.2.2⟩
theorem A_V0 {kk ci : Nat} {cs : List Nat} {C : String} {TT : u_T} {NN : Nat} (ml : MLV own idx y c2 nL2 rt2 0) (hk : (lkG G)[kk]? = some (.inl (ci, cs))) (hci : vwCl[ci]? = some (C, TT, NN)) (hC : y.cls = C) (hct : Ct l G y c2 nL2 rt2 d 0 0 [.ref (lay G kk)] σ r σ1) (hroom : (rest.map fun v => v.category).sum ≤ 8) (hd : d + 1 ≤ dd) (hm : k ≤ rc ∧ n ≤ rs) (dec : decode cc pc = .ok (.invokevirtual idx, 3)) (g : AW l G f (own, cc, nL, rt) (dd, rc, rs) Q xs k n (pc + 3) lv (r.toList ++ rest) σ1) : AW l G f (own, cc, nL, rt) (dd, rc, rs) Q xs k n pc lv (.ref (lay G kk) :: rest) σ := A_callV (As := []) ml hk hci hC hct rfl hroom hd hm dec g
theorem A_S0 (ml : MLS own idx y c2 nL2 rt2 0) (hct : Ct l G y c2 nL2 rt2 d 0 0 [] σ r σ1) (hroom : (rest.map fun v => v.category).sum ≤ 8) (hd : d + 1 ≤ dd) (hm : k ≤ rc ∧ n ≤ rs) (dec : decode cc pc = .ok (.invokestatic idx, 3)) (g : AW l G f (own, cc, nL, rt) (dd, rc, rs) Q xs k n (pc + 3) lv (r.toList ++ rest) σ1) : AW l G f (own, cc, nL, rt) (dd, rc, rs) Q xs k n pc lv (rest) σ := A_callS (As := []) ml hct rfl hroom hd hm dec g
theorem A_V1 {kk ci : Nat} {cs : List Nat} {C : String} {TT : u_T} {NN : Nat} {v0 : Value} (ml : MLV own idx y c2 nL2 rt2 1) (hk : (lkG G)[kk]? = some (.inl (ci, cs))) (hci : vwCl[ci]? = some (C, TT, NN)) (hC : y.cls = C) (hct : Ct l G y c2 nL2 rt2 d 0 0 [.ref (lay G kk), v0] σ r σ1) (hroom : (rest.map fun v => v.category).sum ≤ 8) (hd : d + 1 ≤ dd) (hm : k ≤ rc ∧ n ≤ rs) (dec : decode cc pc = .ok (.invokevirtual idx, 3)) (g : AW l G f (own, cc, nL, rt) (dd, rc, rs) Q xs k n (pc + 3) lv (r.toList ++ rest) σ1) : AW l G f (own, cc, nL, rt) (dd, rc, rs) Q xs k n pc lv (v0 :: .ref (lay G kk) :: rest) σ := A_callV (As := [v0]) ml hk hci hC hct rfl hroom hd hm dec g
theorem A_S1 {v0 : Value} (ml : MLS own idx y c2 nL2 rt2 1) (hct : Ct l G y c2 nL2 rt2 d 0 0 [v0] σ r σ1) (hroom : (rest.map fun v => v.category).sum ≤ 8) (hd : d + 1 ≤ dd) (hm : k ≤ rc ∧ n ≤ rs) (dec : decode cc pc = .ok (.invokestatic idx, 3)) (g : AW l G f (own, cc, nL, rt) (dd, rc, rs) Q xs k n (pc + 3) lv (r.toList ++ rest) σ1) : AW l G f (own, cc, nL, rt) (dd, rc, rs) Q xs k n pc lv (v0 :: rest) σ := A_callS (As := [v0]) ml hct rfl hroom hd hm dec g
theorem A_V2 {kk ci : Nat} {cs : List Nat} {C : String} {TT : u_T} {NN : Nat} {v0 v1 : Value} (ml : MLV own idx y c2 nL2 rt2 2) (hk : (lkG G)[kk]? = some (.inl (ci, cs))) (hci : vwCl[ci]? = some (C, TT, NN)) (hC : y.cls = C) (hct : Ct l G y c2 nL2 rt2 d 0 0 [.ref (lay G kk), v0, v1] σ r σ1) (hroom : (rest.map fun v => v.category).sum ≤ 8) (hd : d + 1 ≤ dd) (hm : k ≤ rc ∧ n ≤ rs) (dec : decode cc pc = .ok (.invokevirtual idx, 3)) (g : AW l G f (own, cc, nL, rt) (dd, rc, rs) Q xs k n (pc + 3) lv (r.toList ++ rest) σ1) : AW l G f (own, cc, nL, rt) (dd, rc, rs) Q xs k n pc lv (v1 :: v0 :: .ref (lay G kk) :: rest) σ := A_callV (As := [v0, v1]) ml hk hci hC hct rfl hroom hd hm dec g
theorem A_S2 {v0 v1 : Value} (ml : MLS own idx y c2 nL2 rt2 2) (hct : Ct l G y c2 nL2 rt2 d 0 0 [v0, v1] σ r σ1) (hroom : (rest.map fun v => v.category).sum ≤ 8) (hd : d + 1 ≤ dd) (hm : k ≤ rc ∧ n ≤ rs) (dec : decode cc pc = .ok (.invokestatic idx, 3)) (g : AW l G f (own, cc, nL, rt) (dd, rc, rs) Q xs k n (pc + 3) lv (r.toList ++ rest) σ1) : AW l G f (own, cc, nL, rt) (dd, rc, rs) Q xs k n pc lv (v1 :: v0 :: rest) σ := A_callS (As := [v0, v1]) ml hct rfl hroom hd hm dec g
theorem A_V3 {kk ci : Nat} {cs : List Nat} {C : String} {TT : u_T} {NN : Nat} {v0 v1 v2 : Value} (ml : MLV own idx y c2 nL2 rt2 3) (hk : (lkG G)[kk]? = some (.inl (ci, cs))) (hci : vwCl[ci]? = some (C, TT, NN)) (hC : y.cls = C) (hct : Ct l G y c2 nL2 rt2 d 0 0 [.ref (lay G kk), v0, v1, v2] σ r σ1) (hroom : (rest.map fun v => v.category).sum ≤ 8) (hd : d + 1 ≤ dd) (hm : k ≤ rc ∧ n ≤ rs) (dec : decode cc pc = .ok (.invokevirtual idx, 3)) (g : AW l G f (own, cc, nL, rt) (dd, rc, rs) Q xs k n (pc + 3) lv (r.toList ++ rest) σ1) : AW l G f (own, cc, nL, rt) (dd, rc, rs) Q xs k n pc lv (v2 :: v1 :: v0 :: .ref (lay G kk) :: rest) σ := A_callV (As := [v0, v1, v2]) ml hk hci hC hct rfl hroom hd hm dec g
theorem A_S3 {v0 v1 v2 : Value} (ml : MLS own idx y c2 nL2 rt2 3) (hct : Ct l G y c2 nL2 rt2 d 0 0 [v0, v1, v2] σ r σ1) (hroom : (rest.map fun v => v.category).sum ≤ 8) (hd : d + 1 ≤ dd) (hm : k ≤ rc ∧ n ≤ rs) (dec : decode cc pc = .ok (.invokestatic idx, 3)) (g : AW l G f (own, cc, nL, rt) (dd, rc, rs) Q xs k n (pc + 3) lv (r.toList ++ rest) σ1) : AW l G f (own, cc, nL, rt) (dd, rc, rs) Q xs k n pc lv (v2 :: v1 :: v0 :: rest) σ := A_callS (As := [v0, v1, v2]) ml hct rfl hroom hd hm dec g
theorem A_V4 {kk ci : Nat} {cs : List Nat} {C : String} {TT : u_T} {NN : Nat} {v0 v1 v2 v3 : Value} (ml : MLV own idx y c2 nL2 rt2 4) (hk : (lkG G)[kk]? = some (.inl (ci, cs))) (hci : vwCl[ci]? = some (C, TT, NN)) (hC : y.cls = C) (hct : Ct l G y c2 nL2 rt2 d 0 0 [.ref (lay G kk), v0, v1, v2, v3] σ r σ1) (hroom : (rest.map fun v => v.category).sum ≤ 8) (hd : d + 1 ≤ dd) (hm : k ≤ rc ∧ n ≤ rs) (dec : decode cc pc = .ok (.invokevirtual idx, 3)) (g : AW l G f (own, cc, nL, rt) (dd, rc, rs) Q xs k n (pc + 3) lv (r.toList ++ rest) σ1) : AW l G f (own, cc, nL, rt) (dd, rc, rs) Q xs k n pc lv (v3 :: v2 :: v1 :: v0 :: .ref (lay G kk) :: rest) σ := A_callV (As := [v0, v1, v2, v3]) ml hk hci hC hct rfl hroom hd hm dec g
theorem A_S4 {v0 v1 v2 v3 : Value} (ml : MLS own idx y c2 nL2 rt2 4) (hct : Ct l G y c2 nL2 rt2 d 0 0 [v0, v1, v2, v3] σ r σ1) (hroom : (rest.map fun v => v.category).sum ≤ 8) (hd : d + 1 ≤ dd) (hm : k ≤ rc ∧ n ≤ rs) (dec : decode cc pc = .ok (.invokestatic idx, 3)) (g : AW l G f (own, cc, nL, rt) (dd, rc, rs) Q xs k n (pc + 3) lv (r.toList ++ rest) σ1) : AW l G f (own, cc, nL, rt) (dd, rc, rs) Q xs k n pc lv (v3 :: v2 :: v1 :: v0 :: rest) σ := A_callS (As := [v0, v1, v2, v3]) ml hct rfl hroom hd hm dec g
theorem A_V5 {kk ci : Nat} {cs : List Nat} {C : String} {TT : u_T} {NN : Nat} {v0 v1 v2 v3 v4 : Value} (ml : MLV own idx y c2 nL2 rt2 5) (hk : (lkG G)[kk]? = some (.inl (ci, cs))) (hci : vwCl[ci]? = some (C, TT, NN)) (hC : y.cls = C) (hct : Ct l G y c2 nL2 rt2 d 0 0 [.ref (lay G kk), v0, v1, v2, v3, v4] σ r σ1) (hroom : (rest.map fun v => v.category).sum ≤ 8) (hd : d + 1 ≤ dd) (hm : k ≤ rc ∧ n ≤ rs) (dec : decode cc pc = .ok (.invokevirtual idx, 3)) (g : AW l G f (own, cc, nL, rt) (dd, rc, rs) Q xs k n (pc + 3) lv (r.toList ++ rest) σ1) : AW l G f (own, cc, nL, rt) (dd, rc, rs) Q xs k n pc lv (v4 :: v3 :: v2 :: v1 :: v0 :: .ref (lay G kk) :: rest) σ := A_callV (As := [v0, v1, v2, v3, v4]) ml hk hci hC hct rfl hroom hd hm dec g
theorem A_S5 {v0 v1 v2 v3 v4 : Value} (ml : MLS own idx y c2 nL2 rt2 5) (hct : Ct l G y c2 nL2 rt2 d 0 0 [v0, v1, v2, v3, v4] σ r σ1) (hroom : (rest.map fun v => v.category).sum ≤ 8) (hd : d + 1 ≤ dd) (hm : k ≤ rc ∧ n ≤ rs) (dec : decode cc pc = .ok (.invokestatic idx, 3)) (g : AW l G f (own, cc, nL, rt) (dd, rc, rs) Q xs k n (pc + 3) lv (r.toList ++ rest) σ1) : AW l G f (own, cc, nL, rt) (dd, rc, rs) Q xs k n pc lv (v4 :: v3 :: v2 :: v1 :: v0 :: rest) σ := A_callS (As := [v0, v1, v2, v3, v4]) ml hct rfl hroom hd hm dec g
end AC
