/-! String.substring of one letter: what it leaves -/
section S79e
theorem jn_1 : ∀ j : Nat, j < 6 → (0 : Int32) ≤ I32 (j : Int) ∧ I32 (j : Int) ≤ I32 ((j : Int) + 1) ∧ (I32 ((j : Int) + 1)).toInt ≤ 6 ∧ I32 ((j : Int) + 1) ≤ 6 ∧ ¬ (I32 (j : Int) = 0 ∧ I32 ((j : Int) + 1) = 6) ∧ I32 (j : Int) ≠ I32 ((j : Int) + 1) ∧ ((I32 (j : Int) + (I32 ((j : Int) + 1) - I32 (j : Int))) - I32 (j : Int)).toNatClampNeg = 1 ∧ (I32 (j : Int)).toNatClampNeg = j := by decide +kernel
/-- what substring leaves: a new text of one letter -/
def SQ (x : Int32) (st : State) (o : Outcome) (t : State) : Prop := ∃ r zz : Nat, o = .returned (some (.ref r)) ∧ st.heap.size ≤ r ∧ st.heap.size ≤ zz ∧ (∀ (q : Nat) (c : Cell), st.heap[q]? = some c → t.heap[q]? = some c) ∧ vk_S 1 [1] [[x]] (fun _ => r) (fun _ => zz) (fun _ => False) t t.heap
theorem sub_met (l : Launch) (G : Gx) (σ : Sg) (sz : Nat) {j : Nat} (hj : j < 6) (free : Addr → Prop) : Met l yJ0_substring_37a41 (.code yJ0_substring_37a41 cJ0_substring_37a41 5 (some (.object "java/lang/String")) :: lw_all) (rmD 6 2 10)
    (va_Pc [.ref (G.2.2.2.1 25), .int (I32 (j : Int)), .int (I32 ((j : Int) + 1))] (fun U => (U.heap.size = sz ∧ va_P G.1 vwCl (wld G σ) U.heap ∧ va_K G.1 vwCl (tysG G) U ∧ va_D (fun _ => True) (wld G σ) ∧ ST G (va_A (wld G σ) sz) U U.heap) ∧ XQ (G.2.2.2.1 25) (G.2.2.2.2.1 25) U))
    (fun _ st o t => SQ ((bytS.getD 25 []).getD j 0) st o t) 2 10 free := by
  intro p e ha hcs hk s m args below hfr happ hP hK
  obtain ⟨a1, a2, a3, a4, a5, a6, a7, a8⟩ := (Spec.appliesLoose_iff hfr).mp happ
  obtain ⟨rfl, ⟨-, -, hKt, -, hT⟩, hX⟩ := hP
  have hw : ∀ w ∈ lw_all, w.before _ s = true := fun w h => atoms_spec (ws := .code yJ0_substring_37a41 cJ0_substring_37a41 5 (some (.object "java/lang/String")) :: lw_all) a8 w (List.mem_cons_of_mem _ h)
  obtain ⟨hs1, -, ⟨q, hq⟩, hs4, hs5, -⟩ := hT
  have hx1 := hX.exact (v1 := .int (I32 (j : Int))) (v2 := .int (I32 ((j : Int) + 1)))
  obtain ⟨cs, arr, k, x1, x2, x3, x4, x5, x6, x7, x8, x9⟩ := hX
  obtain ⟨y1, y2, y3, y4⟩ := (hs1 25 (oi_c ⟨by decide, by decide⟩)).1 0 (by decide)
  obtain ⟨arr2, z1, z2, z3, z4, z5, z6, -⟩ := y4
  obtain rfl : arr = arr2 := Option.some.inj (x8.symm.trans z1)
  obtain ⟨n1, n2, n3, n4, n5, n6, n7, n8⟩ := jn_1 j hj
  have e6 : arr.slots.size.toInt32 = 6 := by rw [x9]; rfl
  have d1 : ∀ A', (Cond.declares yJ0_length_8abf5).before A' s = true := fun A' => decl_of (bytes := cJ0_length_8abf5) (n := 1) (ret := some .int) (hw _ (in_all (i := 112) (by decide +kernel) rfl)) (hw _ (in_all (i := 110) (by decide +kernel) rfl)) A'
  have d2 : ∀ A', (Cond.declares yJ0_isLatin1_aae02).before A' s = true := fun A' => decl_of (bytes := cJ0_isLatin1_aae02) (n := 1) (ret := some .boolean) (hw _ (in_all (i := 126) (by decide +kernel) rfl)) (hw _ (in_all (i := 124) (by decide +kernel) rfl)) A'
  have d3 : ∀ A', (Cond.declares yJ0_coder_7d493).before A' s = true := fun A' => decl_of (bytes := cJ0_coder_7d493) (n := 1) (ret := some .byte) (hw _ (in_all (i := 116) (by decide +kernel) rfl)) (hw _ (in_all (i := 114) (by decide +kernel) rfl)) A'
  have hcomp := st_Is hs4
  have hfmt : ∃ fmt : Value, Jvm.Lib.Cold.StaticIs s "jdk/internal/util/Preconditions" "SIOOBE_FORMATTER" "Ljava/util/function/BiFunction;" fmt ∧ (fmt = .null ∨ ∃ f : Addr, fmt = .ref f) := by
    rcases hs5 with h | ⟨t, h⟩
    · exact ⟨_, st_Is h, Or.inl rfl⟩
    · exact ⟨_, st_Is h, Or.inr ⟨t, rfl⟩⟩
  obtain ⟨fmt, hf1, hf2⟩ := hfmt
  have hB := hKt.2 0 (G.2.1 0, .byte) rfl
  have p1 := pre_of (Jvm.Free.Substr.SubS.spec 6).pre _ pre_sub1 hw (A' := #[.ref (G.2.2.2.1 25), .int (I32 (j : Int)), .int (I32 ((j : Int) + 1))]) (fun w h => by
    simp only [List.mem_cons, List.not_mem_nil, or_false] at h
    rcases h with rfl | rfl | rfl | rfl
    · rfl
    · exact hx1.1
    · exact d1 _
    · exact d2 _)
  have p2 := pre_of Jvm.Lib.Cold.isLatin1.spec.pre _ pre_sub2 hw (A' := #[.ref (G.2.2.2.1 25)]) (fun w h => by
    simp only [List.mem_cons, List.not_mem_nil, or_false] at h
    subst h; rfl)
  have p3 := pre_of Jvm.Lib.Cold.length.spec.pre _ pre_sub3 hw (A' := #[.ref (G.2.2.2.1 25)]) (fun w h => by
    simp only [List.mem_cons, List.not_mem_nil, or_false] at h
    rcases h with rfl | rfl | rfl
    · rfl
    · exact hx1.2
    · exact d3 _)
  have p4 := pre_of Jvm.Free.SubstrLeaves.CBE.spec.pre _ pre_sub4 hw (A' := #[.int (I32 (j : Int)), .int (I32 ((j : Int) + 1)), .int arr.slots.size.toInt32]) (fun w h => by
    simp only [List.mem_cons, List.not_mem_nil, or_false] at h
    subst h; rfl)
  have p5 := pre_of Jvm.Free.SubstrLeaves.NewStr0.spec.pre _ pre_sub5 hw (A' := #[.ref (G.2.2.2.2.1 25), .int (I32 (j : Int)), .int 0]) (fun w h => by
    simp only [List.mem_cons, List.not_mem_nil, or_false] at h
    rcases h with rfl | rfl
    · rfl
    · exact hq.1)
  have p6 := pre_of Jvm.Lib.Cold.coder.spec.pre _ pre_sub6 hw (A' := #[.ref (G.2.2.2.1 25)]) (fun w h => by
    simp only [List.mem_cons, List.not_mem_nil, or_false] at h
    subst h; rfl)
  have happ' : (Jvm.Free.Substr.SubS.spec 6).appliesLoose Jvm.Free.Substr.subN e.platform s = true := (Spec.appliesLoose_iff hfr).mpr ⟨a1, a2, a3, a4, a5, a6, room_le (Nat.le_of_ble_eq_true rfl) (Nat.le_of_ble_eq_true rfl) (Nat.le_of_ble_eq_true rfl) (Nat.le_of_ble_eq_true rfl) a7, p1⟩
  have cev : ∀ A : Array Value, A[0]? = some (.ref (G.2.2.2.1 25)) → (Term.field (.arg 0) "java/lang/String" "coder" "B").eval A s none [] s = some (.int 0) := fun A hA => (va_fe (t := .arg 0) (by simp only [Term.eval, hA])).trans x7
  have vev : ∀ A : Array Value, A[0]? = some (.ref (G.2.2.2.1 25)) → (Term.field (.arg 0) "java/lang/String" "value" "[B").eval A s none [] s = some (.ref (G.2.2.2.2.1 25)) := fun A hA => (va_fe (t := .arg 0) (by simp only [Term.eval, hA])).trans x6
  have hfits : ∀ i, i < arr.slots.size → fits .byte (arr.slots.getD i .null) = true := fun i hi => by
    rw [x9] at hi
    rw [Array.getD_eq_getD_getElem?, z6 i (by exact hi)]
    have : ∀ i, i < 6 → fits .byte (.int ((bytS.getD 25 []).getD i 0)) = true := by decide +kernel
    exact this i hi
  have hPP : Jvm.Free.Substr.SubS.P 6 (G.2.2.2.1 25) (G.2.2.2.2.1 25) (I32 (j : Int)) (I32 ((j : Int) + 1)) 1 arr fmt q (G.2.1 0) #[.ref (G.2.2.2.1 25), .int (I32 (j : Int)), .int (I32 ((j : Int) + 1))] s :=
    ⟨rfl, vev _ rfl, p2, ⟨rfl, hcomp, by decide, cev _ rfl⟩, p3, ⟨rfl, vev _ rfl, x8, z2, p6, ⟨rfl, hcomp, by decide, cev _ rfl⟩⟩, p4, ⟨rfl, hf1, n1, n2, by rw [e6]; exact n4, hf2⟩, p5, (Jvm.Free.Substr.SubS.string_eval_of_vm rfl).trans hq.2, n1, n2, by rw [x9]; exact n3, z3, by rw [x9]; decide, by rw [x9]; exact Nat.le_refl _, by decide, hfits, hB.2⟩
  obtain ⟨n, o, g1, g2, hend, -, -, hQ⟩ := Jvm.Free.Substr.SubS.gets l 6 (G.2.2.2.1 25) (G.2.2.2.2.1 25) (I32 (j : Int)) (I32 ((j : Int) + 1)) 1 arr fmt q (G.2.1 0) p e ha hcs hk s m _ below hfr happ' hPP trivial
  refine ⟨n, o, g1, g2, hend, ?_⟩
  obtain ⟨r, zz, cellS, cS, c1, i1, k1, fdV, c2, i2, k2, fdC, ho, hr, hcS, hcls, hvm, hiV, gV, hiC, gC, hzz, hrf, hzf, hrz, hkept, kk, nn, hk1, hn1, hF⟩ := hQ (by rw [e6]; exact n5) n6
  have hal : s.vm.Alike (stepsAlone p.tables e n s).vm := hF.2.1.alike
  obtain ⟨kV', hV', -⟩ := State.fieldFound?_setVm (s := s) hal hiV
  obtain ⟨kC', hC', -⟩ := State.fieldFound?_setVm (s := s) hal hiC
  have sV := (Term.field_spec (args := #[.ref (G.2.2.2.1 25)]) (first := s) (o := none) (idx := []) hiV (t := .arg 0) rfl (vev _ rfl)).1
  have sC := (Term.field_spec (args := #[.ref (G.2.2.2.1 25)]) (first := s) (o := none) (idx := []) hiC (t := .arg 0) rfl (cev _ rfl)).1
  rw [n7] at hn1
  obtain ⟨f1, f2, f3⟩ := Jvm.Free.SB.copied_facts arr (Jvm.Free.SubstrLeaves.Corb.fresh (G.2.1 0) ((I32 (j : Int) + (I32 ((j : Int) + 1) - I32 (j : Int))) - I32 (j : Int)).toNatClampNeg) (I32 (j : Int)) 0 ((I32 (j : Int) + (I32 ((j : Int) + 1) - I32 (j : Int))) - I32 (j : Int))
  have hsl := Jvm.ShelfD.StrSub.copied_slots (arr := arr) (cA := G.2.1 0) (b := I32 (j : Int)) (ln := ((I32 (j : Int) + (I32 ((j : Int) + 1) - I32 (j : Int))) - I32 (j : Int))) n1 (by rw [n7, n8, x9]; omega)
  have hsz : (copied arr (Jvm.Free.SubstrLeaves.Corb.fresh (G.2.1 0) ((I32 (j : Int) + (I32 ((j : Int) + 1) - I32 (j : Int))) - I32 (j : Int)).toNatClampNeg) (I32 (j : Int)) 0 ((I32 (j : Int) + (I32 ((j : Int) + 1) - I32 (j : Int))) - I32 (j : Int))).slots.size = 1 := by
    rw [f3]; simp [Jvm.Free.SubstrLeaves.Corb.fresh]; exact n7
  have hget : (copied arr (Jvm.Free.SubstrLeaves.Corb.fresh (G.2.1 0) ((I32 (j : Int) + (I32 ((j : Int) + 1) - I32 (j : Int))) - I32 (j : Int)).toNatClampNeg) (I32 (j : Int)) 0 ((I32 (j : Int) + (I32 ((j : Int) + 1) - I32 (j : Int))) - I32 (j : Int))).slots[0]? = some (.int ((bytS.getD 25 []).getD j 0)) := by
    rw [← Array.getElem?_toList, hsl, List.getElem?_take_of_lt (by rw [n7]; decide), List.getElem?_drop, Array.getElem?_toList, n8]
    exact z6 j (by exact hj)
  obtain ⟨-, kA, hkA, comp, hkind⟩ := hB.1 0 (fun _ => .null)
  generalize copied arr (Jvm.Free.SubstrLeaves.Corb.fresh (G.2.1 0) ((I32 (j : Int) + (I32 ((j : Int) + 1) - I32 (j : Int))) - I32 (j : Int)).toNatClampNeg) (I32 (j : Int)) 0 ((I32 (j : Int) + (I32 ((j : Int) + 1) - I32 (j : Int))) - I32 (j : Int)) = cb at hzz f1 f2 f3 hsl hsz hget
  refine ⟨⟨r, zz, ho, hrf, hzf, hkept, fun i hi => ?_, fun i j hi hj _ => by omega⟩, [], ⟨hF.1, hF.2.1, hF.2.2.mono hk1 (by omega)⟩, fun _ h => by cases h⟩
  obtain rfl : i = 0 := by omega
  refine ⟨⟨cellS, hr, by rw [hvm]; rfl, by rw [hal.findClass, hcls]; exact hcS, fun h => h⟩, ⟨c2, kC', i2, fdC, cellS, hC', sC, hr, (by rw [hvm]; exact fun h => (by cases h)), gC, fun h => h⟩, ⟨c1, kV', i1, fdV, cellS, hV', sV, hr, (by rw [hvm]; exact fun h => (by cases h)), gV, fun h => h⟩, ⟨cb, hzz, State.isArrayOf_alike hal ⟨(fun q h => by rw [f2] at h; cases h), kA, (by rw [f1]; exact hkA), comp, hkind⟩, (fun h => by rw [f2] at h; cases h), (by rw [hsz]; exact Nat.le_refl _), (by rw [hsz]; rfl), fun j2 hj2 => ?_, fun h => h⟩⟩
  obtain rfl : j2 = 0 := by
    have : j2 < 1 := hj2
    omega
  exact hget
end S79e
