/-! rows of the law: its helpers' calls, an array of texts, a method that leaves a world of which something is known -/
section S79g
variable {l : Launch} {G : Gx} {f : Fm} {own : String} {cc : ByteArray} {nL : Nat} {rt : Option FieldType} {b : Nat × Nat × Nat} {dd rc rs : Nat} {Q : State → Prop} {xs : va_W} {k n pc : Nat} {lv : List (Nat × Value)} {rest : List Value} {σ σ1 : Sg} {r : Option Value} {y : MethodName} {idx : Nat} {c2 : ByteArray} {nL2 : Nat} {rt2 : Option FieldType} {na d mc ms : Nat} {As : List Value} {bA L aK aV : Nat} {X : Nat → Int32}
theorem A_cell {z : Int} (hX : Scr f bA L X aK aV) (hL : L ≤ 2147483647) (hz : 0 ≤ z ∧ z ≤ 100) (hroom : (rest.map fun v => v.category).sum ≤ 8) (hd : 1 ≤ dd) (hm : k ≤ rc ∧ n ≤ rs) (dec : decode cc pc = .ok (.invokestatic 38, 3)) (g : AW l G f (RL, cc, nL, rt) (dd, rc, rs) Q xs k n (pc + 3) lv (.int (I32 (clV L X z)) :: rest) σ) : AW l G f (RL, cc, nL, rt) (dd, rc, rs) Q xs k n pc lv (.int (I32 z) :: .ref bA :: rest) σ :=
  A_callSs (As := [.ref bA, .int (I32 z)]) hX ms_L_38 (c_L_cell σ hL z hz) rfl hroom hd hm dec g
theorem A_below {v m : Int} (hn : 1 ≤ m ∧ m ≤ 1000) (hroom : (rest.map fun v => v.category).sum ≤ 8) (hd : 1 ≤ dd) (hm : k ≤ rc ∧ n ≤ rs) (dec : decode cc pc = .ok (.invokestatic 42, 3)) (g : AW l G f (RL, cc, nL, rt) (dd, rc, rs) Q xs k n (pc + 3) lv (.int (I32 (blV v m)) :: rest) σ) : AW l G f (RL, cc, nL, rt) (dd, rc, rs) Q xs k n pc lv (.int (I32 m) :: .int (I32 v) :: rest) σ :=
  A_callS (As := [.int (I32 v), .int (I32 m)]) ms_L_42 (c_L_below σ v m hn) rfl hroom hd hm dec g
theorem row_up {q j : Nat} {v : Int} {tx : List Int} (hq : q ≠ 86) (h : Row σ tx) : Row (up σ q j v) tx := by
  unfold Row
  rw [up_r _ _ _ (Ne.symm hq)]
  exact h
theorem A_putk {i m : Nat} {tx : List Int} (hi : oi G i) (hk : (lkG G)[86]? = some (.inr (1, 1400, 0))) (hr : Row σ tx) (hn : (txL i).length = m) (hl : tx.length + m ≤ 1399) (hroom : (rest.map fun v => v.category).sum ≤ 8) (hd : 5 ≤ dd) (hm : k ≤ rc ∧ n ≤ rs) (dec : decode cc pc = .ok (.invokestatic 48, 3))
    (g : ∀ (σ1 : Sg) (tx1 : List Int), Row σ1 tx1 → tx1 = tx ++ txL i → tx1.length = tx.length + m → (∀ q, q ≠ 86 → σ1 q = σ q) → AW l G f (RL, cc, nL, rt) (dd, rc, rs) Q xs k n (pc + 3) lv rest σ1) : AW l G f (RL, cc, nL, rt) (dd, rc, rs) Q xs k n pc lv (.ref (G.2.2.2.1 i) :: .ref (lay G 86) :: rest) σ := by
  have e := txL_len i
  exact A_callS (As := [.ref (lay G 86), .ref (G.2.2.2.1 i)]) ms_L_48 (c_L_put σ hi hk (len := (tx.length : Int)) ⟨by omega, by omega⟩ hr.1) rfl hroom hd hm dec (g _ _ (pt_row hr) rfl (by rw [List.length_append, hn]) (fun q hq => pt_r (by omega) hq))
theorem A_putn {z : Int} {tx : List Int} (hk : (lkG G)[86]? = some (.inr (1, 1400, 0))) (hr : Row σ tx) (hz : 0 ≤ z ∧ z < 10000) (hl : tx.length + 4 ≤ 1399) (hroom : (rest.map fun v => v.category).sum ≤ 8) (hd : 4 ≤ dd) (hm : k ≤ rc ∧ n ≤ rs) (dec : decode cc pc = .ok (.invokestatic 19, 3))
    (g : ∀ (σ1 : Sg) (tx1 : List Int), Row σ1 tx1 → tx1 = tx ++ ds z → tx1.length ≤ tx.length + 4 → (∀ q, q ≠ 86 → σ1 q = σ q) → AW l G f (RL, cc, nL, rt) (dd, rc, rs) Q xs k n (pc + 3) lv rest σ1) : AW l G f (RL, cc, nL, rt) (dd, rc, rs) Q xs k n pc lv (.int (I32 z) :: .ref (lay G 86) :: rest) σ := by
  refine A_callS (As := [.ref (lay G 86), .int (I32 z)]) ms_L_19 (c_L_put_ hk 3 z σ tx hr (by omega) (by decide) ⟨hz.1, by have := hz.2; show z < 10 ^ 3 * 10; omega⟩) rfl hroom hd hm dec (g _ _ (pn_row 4 z tx σ hr) rfl ?_ (fun q hq => pn_r hq 4 z σ))
  rw [List.length_append]
  have := dsF_len 4 z
  omega
theorem A_putL {j : Nat} {tx : List Int} (hj : j < 6) (hX : Scr f bA L X (G.2.2.2.1 25) (G.2.2.2.2.1 25)) (hk : (lkG G)[86]? = some (.inr (1, 1400, 0))) (hr : Row σ tx) (hl : tx.length + 1 ≤ 1399) (hroom : (rest.map fun v => v.category).sum ≤ 7) (hd : 7 ≤ dd) (hm : k + 2 ≤ rc ∧ n + 10 ≤ rs) (dec1 : decode cc pc = .ok (.invokevirtual 53, 3)) (dec2 : decode cc (pc + 3) = .ok (.invokestatic 48, 3))
    (g : ∀ (σ1 : Sg) (tx1 : List Int), Row σ1 tx1 → tx1 = tx ++ [97 + (j : Int)] → tx1.length = tx.length + 1 → (∀ q, q ≠ 86 → σ1 q = σ q) → AW l G f (RL, cc, nL, rt) (dd, rc, rs) Q xs (k + 2) (n + 10) (pc + 3 + 3) lv rest σ1) : AW l G f (RL, cc, nL, rt) (dd, rc, rs) Q xs k n pc lv (.int (I32 ((j : Int) + 1)) :: .int (I32 (j : Int)) :: .ref (G.2.2.2.1 25) :: .ref (lay G 86) :: rest) σ := by
  have e1 : txL (40 + j) = [97 + (j : Int)] := by
    have : ∀ j : Nat, j < 6 → txL (40 + j) = [97 + (j : Int)] := by decide +kernel
    exact this j hj
  have e2 : (kl (40 + j)).toNat = 1 := by
    have := txL_len (40 + j)
    rw [e1] at this
    rw [← this]; rfl
  have h := pt_row (i := 40 + j) hr
  rw [e1, e2] at h
  exact A_subput hj hX hk mv_L_53 ms_L_48 (len := (tx.length : Int)) ⟨by omega, by omega⟩ hr.1 hroom hd hm dec1 dec2 (g _ _ h rfl (by rw [List.length_append]; rfl) (fun q hq => pt_r (by omega) hq))
/-! an array of texts -/
def KS (G : Gx) (f : Fm) (cA : ClassId) : Prop := va_K G.1 vwCl [(cA, .object "java/lang/String")] (fs f)
def tmQ (cA : ClassId) (a N : Nat) (t : Nat → Option Nat) : Nat × va_E := (a, .inl (cA, N, .inr (.inr (.inr (.inr t)))))
theorem cl_L_10 : Cond.classLink RL 10 "java/lang/String" ∈ lw_all := in_all (i := 880) (by decide +kernel) rfl
theorem A_newS {z : Int} {N : Nat} (hAO : va_AO "java/lang/String" (fs f)) (hcl : Cond.classLink own idx "java/lang/String" ∈ lw_all) (h1 : ¬ I32 z < 0) (h2 : (I32 z).toNatClampNeg = N) (h3 : N * 4 ≤ 536870912) (hm : k + 1 ≤ rc ∧ n + N ≤ rs) (d : decode cc pc = .ok (.anewarray idx, 3)) (g : ∀ (a : Nat) (cA : ClassId), KS G f cA → AW l G f (own, cc, nL, rt) (dd, rc, rs) Q (xs ++ [tmQ cA a N (fun _ => none)]) (k + 1) (n + N) (pc + 3) lv (.ref a :: rest) σ) : AW l G f (own, cc, nL, rt) (dd, rc, rs) Q xs k n pc lv (.int (I32 z) :: rest) σ := by
  intro ok H locs ls hl hP hD hS
  have o := ok.2.2.2.2.2.2.2.2.2.2
  refine va_newq ok.1 ok.2.1 ok.2.2.2.1 (ok.2.2.2.2.1 _ hcl) hAO ok.2.2.2.2.2.1 hP hD hS ok.2.2.2.2.2.2.1 h1 h2 h3 (Nat.le_trans hm.1 o.2.2.1) (Nat.le_trans hm.2 o.2.2.2) d (fun q cA H1 hK hP hD hS => ?_)
  rw [List.append_assoc] at hP hD
  exact g q cA (hK.sub [4] rfl) ok H1 locs ls hl hP hD hS
theorem A_astS {q a N i : Nat} {cA : ClassId} {t : Nat → Option Nat} {z z1 : Int} (hx : xs[q]? = some (tmQ cA a N t)) (hKS : KS G f cA) (hi : oi G i) (ez : i32 z = z1) (h0 : 0 ≤ z1) (h1 : z1 < N) (hN : N ≤ 2147483647) (d : decode cc pc = .ok (.aastore, 1)) (g : AW l G f (own, cc, nL, rt) b Q (xs.set q (tmQ cA a N (va_up t z1.toNat (some (G.2.2.2.1 i))))) k n (pc + 1) lv rest σ) : AW l G f (own, cc, nL, rt) b Q xs k n pc lv (.ref (G.2.2.2.1 i) :: .int (I32 z) :: .ref a :: rest) σ := by
  intro ok H locs ls hl hP hD hS
  subst ez
  have hc := I32_clamp (z := i32 z) (n := N) h0 h1 hN
  rw [I32_i32] at hc
  have hr : va_Any "java/lang/String" (fs f) H (G.2.2.2.1 i) := by
    obtain ⟨cell, e1, e2, e3, -⟩ := (((okS ok).1 i hi).1 0 (by decide)).1.kept hS.2.1
    obtain ⟨kC, hkC, -⟩ := Vm.findClass_spec e3
    have hcl : ClassAt (fs f) "java/lang/String" (G.1.1 11) := (ok.2.2.2.2.2.1.1 11 _ rfl).2
    refine ⟨cell, e1, e2, ⟨kC, hkC⟩, fun comp h => ?_⟩
    cases e3.symm.trans h
    have e4 : cell.cls = G.1.1 11 := Option.some.inj (e3.symm.trans hcl.1)
    rw [e4]
    exact va_assign hcl
  refine va_astqM ok.1 ok.2.1 hKS hP hD hS ((lkG G).length + q) 0 (wldx_x hx) rfl hr hc.1 d (fun H1 locs1 hP hD hS => ?_)
  rw [hc.2, wldx_xs] at hP hD
  exact g ok H1 locs1 ls hl hP hD hS
theorem A_aldS {q a N x : Nat} {cA : ClassId} {t : Nat → Option Nat} {z z1 : Int} (hx : xs[q]? = some (tmQ cA a N t)) (hKS : KS G f cA) (ez : i32 z = z1) (h0 : 0 ≤ z1) (h1 : z1 < N) (hN : N ≤ 2147483647) (ht : t z1.toNat = some x) (d : decode cc pc = .ok (.aaload, 1)) (g : AW l G f (own, cc, nL, rt) b Q xs k n (pc + 1) lv (.ref x :: rest) σ) : AW l G f (own, cc, nL, rt) b Q xs k n pc lv (.int (I32 z) :: .ref a :: rest) σ := by
  intro ok H locs ls hl hP hD hS
  subst ez
  have hc := I32_clamp (z := i32 z) (n := N) h0 h1 hN
  rw [I32_i32] at hc
  refine va_aldq ok.1 ok.2.1 hKS hP ((lkG G).length + q) 0 (wldx_x hx) rfl hc.1 d ?_
  rw [hc.2, ht]
  exact g ok H locs ls hl hP hD hS
/-! a method of whose last world something is known -/
def QTE (G : Gx) (f : Fm) (mc ms : Nat) (r : Option Value) (P : Sg → Prop) : State → Prop :=
  MQ (fb f) (fun _ st oc t => (oc = .returned r ∧ ∃ σ', P σ' ∧ va_P G.1 vwCl (wld G σ') t.heap) ∧ va_F (fA f) st t) (fa f) (fs f) mc ms (fA f)
def CtE (l : Launch) (G : Gx) (y : MethodName) (cc : ByteArray) (nL : Nat) (rt : Option FieldType) (d mc ms : Nat) (bA L : Nat) (X : Nat → Int32) (aK aV : Nat) (av : List Value) (σ : Sg) (r : Option Value) (P : Sg → Prop) : Prop :=
  ∀ sz : Nat, Met l y (.code y cc nL rt :: lw_all) (rmD d mc ms) (va_Pc av (fun U => (U.heap.size = sz ∧ va_P G.1 vwCl (wld G σ) U.heap ∧ va_K G.1 vwCl (tysG G) U ∧ va_D (fun _ => True) (wld G σ) ∧ ST G (va_A (wld G σ) sz) U U.heap) ∧ va_X bA L X U U.heap ∧ ¬ va_A (wld G σ) sz bA ∧ XQ aK aV U ∧ ¬ va_A (wld G σ) sz aK ∧ ¬ va_A (wld G σ) sz aV ∧ va_AO "java/lang/String" U))
    (fun _ st oc t => (oc = .returned r ∧ ∃ σ', P σ' ∧ va_P G.1 vwCl (wld G σ') t.heap) ∧ va_F (va_A (wld G σ) sz) st t) mc ms (va_A (wld G σ) sz)
theorem CtE.of {av : List Value} {P : Sg → Prop} (hy : plainName y.cls = true) (hlen : (lg_sl av).length ≤ nL)
    (body : ∀ f : Fm, Scr f bA L X aK aV → AW l G f (y.cls, cc, nL, rt) (d, mc, ms) (QTE G f mc ms r P) [] 0 0 0 (lv_args 0 av) [] σ) : CtE l G y cc nL rt d mc ms bA L X aK aV av σ r P := by
  intro sz
  refine Met.ofW (cc := cc) (maxL := nL) (ret := rt) hy rfl ?_
  intro p e s m args below meth c s₁ B hml hv
  obtain ⟨rfl, ⟨hsz, hP, hK, hD0, hT⟩, hX, hbA, hXQ, hxa, hxd, hao⟩ := hv
  have hts := atoms_spec (ws := .code y cc nL rt :: lw_all) B.pre
  have hl := lv_entry av (n := nL) hlen
  rw [lg_entry_eq]
  generalize (lg_sl av ++ List.replicate (nL - (lg_sl av).length) Slot.unset).toArray = ls at hl ⊢
  subst hsz
  have hD := hD0.self (sz := s.heap.size)
  have h := body (p, e, (headSpec (.code y cc nL rt :: lw_all) (rmD d mc ms)).room, s, m, av.toArray, below, meth, c, va_A (wld G σ) s.heap.size) ⟨hX, Nat.lt_of_not_le (fun z => hbA (Or.inr z)), hbA, hXQ, hxa, hxd, hao⟩
  exact h ⟨B.exec, B.bytes, hml, findClass_of_methodNamed B.named, fun w hw => hts w (List.mem_cons_of_mem _ hw), hK, fun q hq => Or.inr hq, hT, B.returns, B.notSynchronized, Nat.le_refl _, Nat.le_refl _, Nat.le_refl _, Nat.le_refl _⟩
    s.heap [] ls hl (by rw [List.append_nil]; exact hP) (by rw [List.append_nil]; exact hD) va_S.rf
theorem A_callE {P : Sg → Prop} (hX : Scr f bA L X aK aV) (ml : MLS own idx y c2 nL2 rt2 na) (hct : CtE l G y c2 nL2 rt2 d mc ms bA L X aK aV As σ r P) (hn : As.length = na) (hroom : (rest.map fun v => v.category).sum ≤ 8) (hd : d + 1 ≤ dd) (hm : k + mc ≤ rc ∧ n + ms ≤ rs) (dec : decode cc pc = .ok (.invokestatic idx, 3))
    (g : ∀ σ1, P σ1 → AW l G f (own, cc, nL, rt) (dd, rc, rs) Q xs (k + mc) (n + ms) (pc + 3) lv (r.toList ++ rest) σ1) : AW l G f (own, cc, nL, rt) (dd, rc, rs) Q xs k n pc lv (As.reverse ++ rest) σ := by
  intro ok H locs ls hl hP hD hS T hT X0
  obtain ⟨m1, m2, m4, m5, m6, m7⟩ := ml
  have run := va_runS (l := l) (e := fe f) (below := fb f) (meth := fme f) (Ts := lw_all) (own := own) (As := As) (rest := rest) (nL := nL) (g := F0 (fm f) pc ls (As.reverse ++ rest)) (locs := locs) (cells := k) (slots := n) ⟨ok.1, ok.2.1, ok.2.2.1, ok.2.2.2.1, ok.2.2.2.2.1⟩ (hct H.size) (cwS na ok.2.2.2.2.1 (good_wsS m1 m2 m4 (good_cons m5)) rfl rfl rfl m6 ⟨Nat.le_trans hd ok.2.2.2.2.2.2.2.2.2.2.1, by have := ok.2.2.2.2.2.2.2.2.2.2.2.1; show 8 + (nL2 + 11) + 40 * d ≤ _; omega⟩)
    ⟨CtS_blind, fun U hU hW => ⟨rfl, CtS_pre hX ok hP hD hS hU hW⟩⟩ rfl hn hl.1 rfl (lv_room hroom) dec ⟨Nat.le_trans hm.1 ok.2.2.2.2.2.2.2.2.2.2.2.2.1, Nat.le_trans hm.2 ok.2.2.2.2.2.2.2.2.2.2.2.2.2⟩
  obtain ⟨v, st₀, t, T2, L2, h0, X2, hL, e1, e2, ⟨⟨hv, σ1, hPp, hP1⟩, hz, hk⟩, st⟩ := run T hT X0
  have hv : v = r := by cases hv; rfl
  subst hv
  rw [h0] at hz hk
  have hA : ∀ q, va_A (wld G σ) H.size q → fA f q := by
    rintro q (⟨j, e, hj⟩ | hs)
    · exact (wld_D0 hD).2 j _ hj
    · exact ok.2.2.2.2.2.2.1 q (Nat.le_trans hS.1 hs)
  have hS1 : va_S (fA f) (fs f).heap T2.heap (locs ++ L2) := ⟨Nat.le_trans hS.1 (by rw [e1]; exact hz), fun q h1 h2 => by rw [e1, hk q (Nat.lt_of_lt_of_le h1 hS.1) (fun z => h2 (hA q z))]; exact hS.2.1 q h1 h2, fun q hq => by
    rcases List.mem_append.mp hq with h | h
    · exact hS.2.2 q h
    · exact hA _ (hL q h)⟩
  rw [← e1] at hP1 hk
  obtain ⟨t2, a1, b1⟩ := g σ1 hPp ok T2.heap (locs ++ L2) ls hl (wld_P1 hP hD hP1 hk) (wldx_D hD) hS1 T2 rfl X2
  exact ⟨t2, st t2 a1, b1⟩
theorem A_iretE {a N : Nat} {x : Int} {P : Sg → Prop} (hG : GOk G) (d : decode cc pc = .ok (.ireturn, 1)) (hr : r = some (.int (I32 x))) (hp : P σ) : AW l (Gn G a N) f (own, cc, nL, some .int) b (QTE G f k n r P) xs k n pc lv [.int (I32 x)] σ := by
  subst hr
  intro ok H locs ls hl hP hD hS
  have hP2 : va_P G.1 vwCl (wld G σ) H := by
    intro i p hp
    obtain ⟨kd, e1, rfl⟩ := wld_of hp
    have hlt := (List.getElem?_eq_some_iff.mp e1).1
    have h := wld_drop hP i _ (wld_at (lk_n e1))
    rw [lay_n hlt] at h
    exact at_cv (G := Gn G a N) (σ := σ) (hG.at e1) (fun c h2 => (lay_n h2).symm) rfl (fun j => rfl) h
  exact W.iret ok.1 ok.2.1 ok.2.2.2.2.2.2.2.2.1 (fun t ht hW => ⟨⟨rfl, σ, hp, by rw [ht]; exact hP2⟩, hS.F ht⟩) hS.2.2 d ok.2.2.2.2.2.2.2.2.2.1
end S79g
