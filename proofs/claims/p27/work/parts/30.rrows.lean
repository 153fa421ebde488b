/-! rows for the reference: its words, small arrays of its own, calls that make -/
section AR
variable {l : Launch} {G : Gx} {f : Fm} {own : String} {cc : ByteArray} {nL : Nat} {rt : Option FieldType} {b : Nat × Nat × Nat} {dd rc rs : Nat} {Q : State → Prop} {xs : va_W} {k n pc : Nat} {lv : List (Nat × Value)} {rest : List Value} {σ σ1 : Sg} {r : Option Value} {y : MethodName} {idx : Nat} {c2 : ByteArray} {nL2 : Nat} {rt2 : Option FieldType} {na d mc ms k2 n2 : Nat}
theorem A_wid (h1 : k ≤ k2) (h2 : n ≤ n2) (g : AW l G f (own, cc, nL, rt) b Q xs k2 n2 (pc) lv (rest) σ) : AW l G f (own, cc, nL, rt) b Q xs k n (pc) lv (rest) σ := fun ok H locs ls hl hP hD hS => W.widen h1 h2 (g ok H locs ls hl hP hD hS)
def upT (t : Nat → Int) (i : Nat) (v : Int) : Nat → Int := fun j => if j = i then v else t j
def tmA (cA : ClassId) (a N : Nat) (t : Nat → Int) : Nat × va_E := (a, .inl (cA, N, .inl (fun j => I32 (t j))))
def KA (G : Gx) (f : Fm) (cA : ClassId) : Prop := va_K G.1 vwCl [(cA, .int)] (fs f)
theorem wldx_x {q : Nat} {e : Nat × va_E} (h : xs[q]? = some e) : (wld G σ ++ xs)[(lkG G).length + q]? = some e := by
  rw [List.getElem?_append_right (by rw [wld_len]; omega), wld_len, Nat.add_sub_cancel_left]; exact h
theorem wldx_xs {q : Nat} {e : Nat × va_E} : (wld G σ ++ xs).set ((lkG G).length + q) e = wld G σ ++ xs.set q e := by
  rw [List.set_append_right _ _ (by rw [wld_len]; omega), wld_len, Nat.add_sub_cancel_left]
theorem A_newaT {z : Int} {N : Nat} (h1 : ¬ I32 z < 0) (h2 : (I32 z).toNatClampNeg = N) (h3 : N * 4 ≤ 536870912) (hm : k + 1 ≤ rc ∧ n + N ≤ rs) (d : decode cc pc = .ok (.newarray .int, 2)) (g : ∀ (a : Nat) (cA : ClassId), KA G f cA → AW l G f (own, cc, nL, rt) (dd, rc, rs) Q (xs ++ [tmA cA a N (fun _ => 0)]) (k + 1) (n + N) (pc + 2) lv (.ref a :: rest) σ) : AW l G f (own, cc, nL, rt) (dd, rc, rs) Q xs k n (pc) lv (.int (I32 z) :: rest) σ := by
  intro ok H locs ls hl hP hD hS
  have o := ok.2.2.2.2.2.2.2.2.2.2
  refine va_newa (atype := .int) (ty := .int) (a0 := (N, .inl (fun _ => I32 0))) ok.1 ok.2.1 (ok.2.2.2.2.1 (.arrayClass .int) (in_all (i := 178) (by decide +kernel) rfl)) rfl ok.2.2.2.2.2.1 hP hD hS ok.2.2.2.2.2.2.1 (fun cA => rfl) h1 h2 h3 (Nat.le_trans hm.1 o.2.2.1) (Nat.le_trans hm.2 o.2.2.2) d (fun q cA H1 hK hP hD hS => ?_)
  rw [List.append_assoc] at hP hD
  exact g q cA (hK.sub [4] rfl) ok H1 locs ls hl hP hD hS
theorem cell_upT {t : Nat → Int} {i : Nat} {z : Int} : upd (fun j => I32 (t j)) i (I32 z) = fun j => I32 (upT t i z j) := by
  funext j
  by_cases e : j = i
  · simp [upd, upT, e]
  · simp [upd, upT, e]
theorem A_iastT {q a N : Nat} {cA : ClassId} {t : Nat → Int} {z z1 x : Int} (hx : xs[q]? = some (tmA cA a N t)) (hKA : KA G f cA) (ez : i32 z = z1) (h0 : 0 ≤ z1) (h1 : z1 < N) (hN : N ≤ 2147483647) (d : decode cc pc = .ok (.iastore, 1)) (g : AW l G f (own, cc, nL, rt) b Q (xs.set q (tmA cA a N (upT t z1.toNat x))) k n (pc + 1) lv (rest) σ) : AW l G f (own, cc, nL, rt) b Q xs k n (pc) lv (.int (I32 x) :: .int (I32 z) :: .ref a :: rest) σ := by
  intro ok H locs ls hl hP hD hS
  subst ez
  have hc := I32_clamp (z := i32 z) (n := N) h0 h1 hN
  rw [I32_i32] at hc
  refine va_iast ok.1 ok.2.1 hKA hP hD hS ((lkG G).length + q) 0 (wldx_x hx) rfl hc.1 d (fun H locs hP hD hS => ?_)
  rw [hc.2, cell_upT, wldx_xs] at hP hD
  exact g ok H locs ls hl hP hD hS
theorem A_ialdT {q a N : Nat} {cA : ClassId} {t : Nat → Int} {z z1 : Int} (hx : xs[q]? = some (tmA cA a N t)) (hKA : KA G f cA) (ez : i32 z = z1) (h0 : 0 ≤ z1) (h1 : z1 < N) (hN : N ≤ 2147483647) (d : decode cc pc = .ok (.iaload, 1)) (g : AW l G f (own, cc, nL, rt) b Q xs k n (pc + 1) lv (.int (I32 (t z1.toNat)) :: rest) σ) : AW l G f (own, cc, nL, rt) b Q xs k n (pc) lv (.int (I32 z) :: .ref a :: rest) σ := by
  intro ok H locs ls hl hP hD hS
  subst ez
  have hc := I32_clamp (z := i32 z) (n := N) h0 h1 hN
  rw [I32_i32] at hc
  exact va_iald ok.1 ok.2.1 hKA hP ((lkG G).length + q) 0 (wldx_x hx) rfl hc.1 d (by rw [hc.2]; exact g ok H locs ls hl hP hD hS)
theorem A_alenT {q a N : Nat} {cA : ClassId} {t : Nat → Int} (hx : xs[q]? = some (tmA cA a N t)) (hKA : KA G f cA) (d : decode cc pc = .ok (.arraylength, 1)) (g : AW l G f (own, cc, nL, rt) b Q xs k n (pc + 1) lv (.int (I32 N) :: rest) σ) : AW l G f (own, cc, nL, rt) b Q xs k n (pc) lv (.ref a :: rest) σ := by
  intro ok H locs ls hl hP hD hS
  exact va_alen ok.1 ok.2.1 hKA hP ((lkG G).length + q) 0 (wldx_x hx) rfl (Int32.ofInt_eq_ofNat).symm d (g ok H locs ls hl hP hD hS)
theorem A_Vm0 {kk ci : Nat} {cs : List Nat} {C : String} {TT : u_T} {NN : Nat} {vr : Value} (ml : MLV own idx y c2 nL2 rt2 0) (hk : (lkG G)[kk]? = some (.inl (ci, cs))) (hci : vwCl[ci]? = some (C, TT, NN)) (hC : y.cls = C) (hct : Ct l G y c2 nL2 rt2 d mc ms [.ref (lay G kk)] σ (some vr) σ1) (hroom : (rest.map fun v => v.category).sum ≤ 8) (hd : d + 1 ≤ dd) (hm : k + mc ≤ rc ∧ n + ms ≤ rs) (e1 : k + mc = k2) (e2 : n + ms = n2) (dec : decode cc pc = .ok (.invokevirtual idx, 3)) (g : AW l G f (own, cc, nL, rt) (dd, rc, rs) Q xs k2 n2 (pc + 3) lv (vr :: rest) σ1) : AW l G f (own, cc, nL, rt) (dd, rc, rs) Q xs k n (pc) lv (.ref (lay G kk) :: rest) σ := by
  subst e1; subst e2
  exact A_callV (As := []) ml hk hci hC hct rfl hroom hd hm dec g
theorem A_Vm1 {kk ci : Nat} {cs : List Nat} {C : String} {TT : u_T} {NN : Nat} {v0 : Value} {vr : Value} (ml : MLV own idx y c2 nL2 rt2 1) (hk : (lkG G)[kk]? = some (.inl (ci, cs))) (hci : vwCl[ci]? = some (C, TT, NN)) (hC : y.cls = C) (hct : Ct l G y c2 nL2 rt2 d mc ms [.ref (lay G kk), v0] σ (some vr) σ1) (hroom : (rest.map fun v => v.category).sum ≤ 8) (hd : d + 1 ≤ dd) (hm : k + mc ≤ rc ∧ n + ms ≤ rs) (e1 : k + mc = k2) (e2 : n + ms = n2) (dec : decode cc pc = .ok (.invokevirtual idx, 3)) (g : AW l G f (own, cc, nL, rt) (dd, rc, rs) Q xs k2 n2 (pc + 3) lv (vr :: rest) σ1) : AW l G f (own, cc, nL, rt) (dd, rc, rs) Q xs k n (pc) lv (v0 :: .ref (lay G kk) :: rest) σ := by
  subst e1; subst e2
  exact A_callV (As := [v0]) ml hk hci hC hct rfl hroom hd hm dec g
theorem A_Vm2 {kk ci : Nat} {cs : List Nat} {C : String} {TT : u_T} {NN : Nat} {v0 v1 : Value} {vr : Value} (ml : MLV own idx y c2 nL2 rt2 2) (hk : (lkG G)[kk]? = some (.inl (ci, cs))) (hci : vwCl[ci]? = some (C, TT, NN)) (hC : y.cls = C) (hct : Ct l G y c2 nL2 rt2 d mc ms [.ref (lay G kk), v0, v1] σ (some vr) σ1) (hroom : (rest.map fun v => v.category).sum ≤ 8) (hd : d + 1 ≤ dd) (hm : k + mc ≤ rc ∧ n + ms ≤ rs) (e1 : k + mc = k2) (e2 : n + ms = n2) (dec : decode cc pc = .ok (.invokevirtual idx, 3)) (g : AW l G f (own, cc, nL, rt) (dd, rc, rs) Q xs k2 n2 (pc + 3) lv (vr :: rest) σ1) : AW l G f (own, cc, nL, rt) (dd, rc, rs) Q xs k n (pc) lv (v1 :: v0 :: .ref (lay G kk) :: rest) σ := by
  subst e1; subst e2
  exact A_callV (As := [v0, v1]) ml hk hci hC hct rfl hroom hd hm dec g
theorem A_Vm3 {kk ci : Nat} {cs : List Nat} {C : String} {TT : u_T} {NN : Nat} {v0 v1 v2 : Value} {vr : Value} (ml : MLV own idx y c2 nL2 rt2 3) (hk : (lkG G)[kk]? = some (.inl (ci, cs))) (hci : vwCl[ci]? = some (C, TT, NN)) (hC : y.cls = C) (hct : Ct l G y c2 nL2 rt2 d mc ms [.ref (lay G kk), v0, v1, v2] σ (some vr) σ1) (hroom : (rest.map fun v => v.category).sum ≤ 8) (hd : d + 1 ≤ dd) (hm : k + mc ≤ rc ∧ n + ms ≤ rs) (e1 : k + mc = k2) (e2 : n + ms = n2) (dec : decode cc pc = .ok (.invokevirtual idx, 3)) (g : AW l G f (own, cc, nL, rt) (dd, rc, rs) Q xs k2 n2 (pc + 3) lv (vr :: rest) σ1) : AW l G f (own, cc, nL, rt) (dd, rc, rs) Q xs k n (pc) lv (v2 :: v1 :: v0 :: .ref (lay G kk) :: rest) σ := by
  subst e1; subst e2
  exact A_callV (As := [v0, v1, v2]) ml hk hci hC hct rfl hroom hd hm dec g
theorem A_Vm4 {kk ci : Nat} {cs : List Nat} {C : String} {TT : u_T} {NN : Nat} {v0 v1 v2 v3 : Value} {vr : Value} (ml : MLV own idx y c2 nL2 rt2 4) (hk : (lkG G)[kk]? = some (.inl (ci, cs))) (hci : vwCl[ci]? = some (C, TT, NN)) (hC : y.cls = C) (hct : Ct l G y c2 nL2 rt2 d mc ms [.ref (lay G kk), v0, v1, v2, v3] σ (some vr) σ1) (hroom : (rest.map fun v => v.category).sum ≤ 8) (hd : d + 1 ≤ dd) (hm : k + mc ≤ rc ∧ n + ms ≤ rs) (e1 : k + mc = k2) (e2 : n + ms = n2) (dec : decode cc pc = .ok (.invokevirtual idx, 3)) (g : AW l G f (own, cc, nL, rt) (dd, rc, rs) Q xs k2 n2 (pc + 3) lv (vr :: rest) σ1) : AW l G f (own, cc, nL, rt) (dd, rc, rs) Q xs k n (pc) lv (v3 :: v2 :: v1 :: v0 :: .ref (lay G kk) :: rest) σ := by
  subst e1; subst e2
  exact A_callV (As := [v0, v1, v2, v3]) ml hk hci hC hct rfl hroom hd hm dec g
theorem A_Vm5 {kk ci : Nat} {cs : List Nat} {C : String} {TT : u_T} {NN : Nat} {v0 v1 v2 v3 v4 : Value} {vr : Value} (ml : MLV own idx y c2 nL2 rt2 5) (hk : (lkG G)[kk]? = some (.inl (ci, cs))) (hci : vwCl[ci]? = some (C, TT, NN)) (hC : y.cls = C) (hct : Ct l G y c2 nL2 rt2 d mc ms [.ref (lay G kk), v0, v1, v2, v3, v4] σ (some vr) σ1) (hroom : (rest.map fun v => v.category).sum ≤ 8) (hd : d + 1 ≤ dd) (hm : k + mc ≤ rc ∧ n + ms ≤ rs) (e1 : k + mc = k2) (e2 : n + ms = n2) (dec : decode cc pc = .ok (.invokevirtual idx, 3)) (g : AW l G f (own, cc, nL, rt) (dd, rc, rs) Q xs k2 n2 (pc + 3) lv (vr :: rest) σ1) : AW l G f (own, cc, nL, rt) (dd, rc, rs) Q xs k n (pc) lv (v4 :: v3 :: v2 :: v1 :: v0 :: .ref (lay G kk) :: rest) σ := by
  subst e1; subst e2
  exact A_callV (As := [v0, v1, v2, v3, v4]) ml hk hci hC hct rfl hroom hd hm dec g
end AR
