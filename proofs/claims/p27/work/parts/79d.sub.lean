/-! a letter of a text: String.substring by the library, and writing it to the row -/
section S79d
def qfl : Nat → Cond → List Cond
  | 0, c => [c]
  | n + 1, .and a b => qfl n a ++ qfl n b
  | _ + 1, .tt => []
  | _, c => [c]
theorem qfl_ok {A : Array Value} {s : State} : ∀ (n : Nat) (c : Cond), (∀ w ∈ qfl n c, w.before A s = true) → c.before A s = true := by
  intro n
  induction n with
  | zero => intro c h; exact h c (List.mem_singleton.mpr rfl)
  | succ n ih =>
    intro c h
    by_cases ha : ∃ x y, c = .and x y
    · obtain ⟨x, y, rfl⟩ := ha
      rw [Cond.before_and, Bool.and_eq_true]
      exact ⟨ih x (fun w hw => h w (List.mem_append_left _ hw)), ih y (fun w hw => h w (List.mem_append_right _ hw))⟩
    · by_cases ht : c = .tt
      · subst ht; rfl
      · have e : qfl (n + 1) c = [c] := by
          cases c <;> first | rfl | exact absurd ⟨_, _, rfl⟩ ha | exact absurd rfl ht
        exact h c (by rw [e]; exact List.mem_singleton.mpr rfl)
theorem any_args {w : Cond} {A A' : Array Value} {s : State} (h : goodWord w = true) (hb : w.before A s = true) : w.before A' s = true := by
  rcases good_of_word h with h | ⟨ty, rfl⟩
  · exact va_tabs ((Bool.and_eq_true _ _).mp h).1 rfl hb
  · exact hb
theorem pre_of (c : Cond) (ex : List Cond) (hc : (qfl 100 c).all (fun w => (decide (w ∈ lw_tbl) && goodWord w) || decide (w ∈ ex)) = true) {A A' : Array Value} {s : State} (hw : ∀ w ∈ lw_all, w.before A s = true) (hex : ∀ w ∈ ex, w.before A' s = true) : c.before A' s = true := by
  refine qfl_ok 100 c (fun w h => ?_)
  have h1 := List.all_eq_true.mp hc w h
  rcases (Bool.or_eq_true _ _).mp h1 with h2 | h2
  · have h3 := (Bool.and_eq_true _ _).mp h2
    exact any_args h3.2 (hw w (List.mem_filter.mpr ⟨of_decide_eq_true h3.1, h3.2⟩))
  · exact hex w (of_decide_eq_true h2)
theorem pre_sub1 : (qfl 100 (Jvm.Free.Substr.SubS.spec 6).pre).all (fun w => (decide (w ∈ lw_tbl) && goodWord w) || decide (w ∈ [Cond.count 3, .exactly (.arg 0) "java/lang/String", .declares Jvm.Free.Substr.SubS.LN, .declares Jvm.Free.Substr.SubS.IL])) = true := by decide +kernel
theorem pre_sub2 : (qfl 100 Jvm.Lib.Cold.isLatin1.spec.pre).all (fun w => (decide (w ∈ lw_tbl) && goodWord w) || decide (w ∈ [Cond.count 1])) = true := by decide +kernel
theorem pre_sub3 : (qfl 100 Jvm.Lib.Cold.length.spec.pre).all (fun w => (decide (w ∈ lw_tbl) && goodWord w) || decide (w ∈ [Cond.count 1, .exactly (.arg 0) "java/lang/String", .declares ⟨"java/lang/String", "coder", "()B"⟩])) = true := by decide +kernel
theorem pre_sub4 : (qfl 100 Jvm.Free.SubstrLeaves.CBE.spec.pre).all (fun w => (decide (w ∈ lw_tbl) && goodWord w) || decide (w ∈ [Cond.count 3])) = true := by decide +kernel
theorem pre_sub5 : (qfl 100 Jvm.Free.SubstrLeaves.NewStr0.spec.pre).all (fun w => (decide (w ∈ lw_tbl) && goodWord w) || decide (w ∈ [Cond.count 3, .stringRef "java/lang/StringLatin1" 151 ""])) = true := by decide +kernel
theorem decl_of {x : MethodName} {bytes : ByteArray} {n : Nat} {ret : Option FieldType} {A : Array Value} {s : State} (h1 : (Cond.code x bytes n ret).before A s = true) (h2 : (Cond.instanceMethod x).before A s = true) (A' : Array Value) : (Cond.declares x).before A' s = true := by
  obtain ⟨m, meth, e1, e2, e3, -⟩ := Cond.instanceMethod_spec h2
  obtain ⟨meth2, c, f1, -, -, -, -, -, -, f2⟩ := Cond.code_spec e1 h1
  cases e2.symm.trans f1
  simp only [Cond.before, Cond.holds, Cond.value, e1, e2, Option.bind_some, Option.map_some, e3, f2]
  decide
theorem pre_sub6 : (qfl 100 Jvm.Lib.Cold.coder.spec.pre).all (fun w => (decide (w ∈ lw_tbl) && goodWord w) || decide (w ∈ [Cond.count 1])) = true := by decide +kernel
theorem room_le {s : State} {pl : Platform} {r r' : Room} (hf : r.frames ≤ r'.frames) (hl : r.locals ≤ r'.locals) (hc : r.cells ≤ r'.cells) (hs : r.slots ≤ r'.slots) (h : s.hasRoom pl r' = true) : s.hasRoom pl r = true := by
  simp only [State.hasRoom, Bool.and_eq_true, decide_eq_true_eq] at h ⊢
  obtain ⟨⟨⟨⟨y, a, b, c, d, e⟩, f⟩, g⟩, i⟩ := h
  exact ⟨⟨⟨⟨by omega, by omega, by omega, by omega, by omega, e⟩, by omega⟩, by omega⟩, i⟩
theorem XQ.exact {a d : Nat} {s : State} {v1 v2 : Value} (h : XQ a d s) : (Cond.exactly (.arg 0) "java/lang/String").before #[.ref a, v1, v2] s = true ∧ (Cond.exactly (.arg 0) "java/lang/String").before #[.ref a] s = true := by
  obtain ⟨cs, arr, k, h1, h2, h3, h4, h5, -⟩ := h
  have key : ∀ A : Array Value, A[0]? = some (.ref a) → (Cond.exactly (.arg 0) "java/lang/String").before A s = true := by
    intro A hA
    simp only [Cond.before, Cond.holds, Cond.value, Term.eval, hA, h5, h1, h2, h3]
    by_cases c : k.kind = .ordinary
    · simp [c, h4 c]
      exact h2
    · simp [c]
      exact h2
  exact ⟨key _ rfl, key _ rfl⟩
theorem st_Is {C n d : String} {v : Value} {A : Nat → Prop} {U : State} (h : va_Z C n d v A U U.heap) : Jvm.Lib.Cold.StaticIs U C n d v := by
  obtain ⟨cf, kf, fi, f, a, cell, h1, h2, h3, h4, h5, h6, h7, -⟩ := h
  exact ⟨cf, fi, kf, f, a, cell, h1, h2, h3, h4, h5, (fun w => by rw [w] at h6; cases h6), h7⟩
end S79d
