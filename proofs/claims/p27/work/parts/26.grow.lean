/-! the world grows: an int array of the law's own becomes a cell -/
section S26
variable {l : Launch} {G : Gx} {f : Fm} {own : String} {cc : ByteArray} {nL : Nat} {rt : Option FieldType} {b : Nat × Nat × Nat} {dd rc rs : Nat} {Q : State → Prop} {xs : va_W} {k n pc : Nat} {lv : List (Nat × Value)} {rest : List Value} {σ σ1 : Sg} {r : Option Value}
theorem A_dropx {o : Om} {st : List Value} (g : AW l G f o b Q [] k n pc lv st σ) : AW l G f o b Q xs k n pc lv st σ := fun ok H locs ls hl hP hD hS => g ok H locs ls hl (by rw [List.append_nil]; exact wld_drop hP) (by rw [List.append_nil]; exact wld_D0 hD) hS
/-- a cell's kind names cells ahead of n alone -/
def kOk (n : Nat) : Kd → Bool
  | .inl (_, cs) => cs.all (fun c => decide (c < n + 2))
  | .inr (0, _, _) => true
  | .inr (1, _, _) => true
  | .inr (2, _, _) => true
  | .inr (_, m, q) => decide (m + q ≤ n)
theorem kOk_mono {n m : Nat} (h : n ≤ m) {kd : Kd} (hk : kOk n kd = true) : kOk m kd = true := by
  match kd with
  | .inl (_, cs) =>
    simp only [kOk, List.all_eq_true, decide_eq_true_eq] at hk ⊢
    intro c hc
    have := hk c hc
    omega
  | .inr (0, _, _) => rfl
  | .inr (1, _, _) => rfl
  | .inr (2, _, _) => rfl
  | .inr (_ + 3, _, _) =>
    simp only [kOk, decide_eq_true_eq] at hk ⊢
    omega
theorem lkL_ok : ∀ kd ∈ lkL, kOk 84 kd = true := by decide +kernel
def GOk (G : Gx) : Prop := ∀ kd ∈ G.2.2.2.2.2.1, kOk 84 kd = true
theorem lkG_len : (lkG G).length = 84 + G.2.2.2.2.2.1.length := by
  unfold lkG
  rw [List.length_append]; rfl
theorem GOk.at (h : GOk G) {k : Nat} {kd : Kd} (hk : (lkG G)[k]? = some kd) : kOk (lkG G).length kd = true := by
  have hm := List.mem_of_getElem? hk
  refine kOk_mono (n := 84) (by rw [lkG_len]; omega) ?_
  unfold lkG at hm
  rcases List.mem_append.mp hm with hm | hm
  · exact lkL_ok kd hm
  · exact h kd hm
theorem at_Rg {D : va_G} {cl : List vw_C} {H : Heap} {a N : Nat} {c : ClassId} {f g : Nat → Option Nat} (e : ∀ j, j < N → f j = g j) (h : va_at D cl (a, .inl (c, N, .inr (.inr (.inr (.inr f))))) H) : va_at D cl (a, .inl (c, N, .inr (.inr (.inr (.inr g))))) H := by
  have h : H[a]? = some (arrV c N (fun j => va_rf (f j))) := h
  show H[a]? = some (arrV c N (fun j => va_rf (g j)))
  rw [h]
  unfold arrV
  exact congrArg (fun s => some ({ cls := c, slots := s, vm := .none } : Cell)) (congrArg Array.ofFn (funext fun j => congrArg va_rf (e j.val j.isLt)))
/-- a cell seen in another world of the same classes -/
theorem at_cv {D : va_G} {cl : List vw_C} {H : Heap} {G2 : Gx} {n k a : Nat} {kd : Kd} (hk : kOk n kd = true) (hl : ∀ c, c < n → lay G2 c = lay G c) (hc : G2.2.1 = G.2.1) (hs : ∀ j, σ1 k j = σ k j) (h : va_at D cl (a, cellOf G σ k kd) H) : va_at D cl (a, cellOf G2 σ1 k kd) H := by
  match kd with
  | .inl (ci, cs) =>
    have e : cellOf G2 σ1 k (.inl (ci, cs)) = cellOf G σ k (.inl (ci, cs)) := by
      show (.inr (ci, cs.mapIdx (fun j c => fv G2 σ1 k j c)) : va_E) = .inr (ci, cs.mapIdx (fun j c => fv G σ k j c))
      refine congrArg (fun z : List Value => (.inr (ci, z) : va_E)) ?_
      apply List.ext_getElem?
      intro i
      simp only [List.getElem?_mapIdx]
      cases hi : cs[i]? with
      | none => rfl
      | some c =>
        have hm := List.mem_of_getElem? hi
        simp only [kOk, List.all_eq_true, decide_eq_true_eq] at hk
        have hlt := hk c hm
        match c with
        | 0 => simp [fv, hs]
        | 1 => simp [fv, hs]
        | c + 2 => simp only [Option.map_some, fv]; rw [hl c (by omega)]
    rw [e]; exact h
  | .inr (0, N, q) => simp only [cellOf, hc, hs] at h ⊢; exact h
  | .inr (1, N, q) => simp only [cellOf, hc, hs] at h ⊢; exact h
  | .inr (2, N, q) => simp only [cellOf, hc, hs] at h ⊢; exact h
  | .inr (m + 3, N, q) =>
    simp only [kOk, decide_eq_true_eq] at hk
    simp only [cellOf, hc] at h ⊢
    exact at_Rg (fun j hj => by rw [hl (q + j) (by omega)]) h
/-- one int array more, at a -/
def Gn (G : Gx) (a N : Nat) : Gx := (G.1, G.2.1, fun k => if k = (lkG G).length then a else lay G k, G.2.2.2.1, G.2.2.2.2.1, G.2.2.2.2.2.1 ++ [.inr (1, N, 0)], G.2.2.2.2.2.2)
theorem lkG_n {a N : Nat} : lkG (Gn G a N) = lkG G ++ [.inr (1, N, 0)] := by
  show lkL ++ (G.2.2.2.2.2.1 ++ [.inr (1, N, 0)]) = (lkL ++ G.2.2.2.2.2.1) ++ [.inr (1, N, 0)]
  rw [List.append_assoc]
theorem Gn_ok {a N : Nat} (h : GOk G) : GOk (Gn G a N) := by
  intro kd hm
  rcases List.mem_append.mp hm with hm | hm
  · exact h kd hm
  · rw [List.mem_singleton] at hm
    subst hm; rfl
theorem lay_n {a N k : Nat} (h : k < (lkG G).length) : lay (Gn G a N) k = lay G k := if_neg (by omega)
theorem lay_e {a N : Nat} : lay (Gn G a N) (lkG G).length = a := if_pos rfl
theorem lk_n {a N k : Nat} {kd : Kd} (h : (lkG G)[k]? = some kd) : (lkG (Gn G a N))[k]? = some kd := by
  rw [lkG_n, List.getElem?_append_left (List.getElem?_eq_some_iff.mp h).1]; exact h
theorem lk_e {a N : Nat} : (lkG (Gn G a N))[(lkG G).length]? = some (.inr (1, N, 0)) := by
  rw [lkG_n, List.getElem?_append_right (Nat.le_refl _), Nat.sub_self]; rfl
def up0 (σ : Sg) (k : Nat) : Sg := fun a b => if a = k then 0 else σ a b
theorem up0_k {k q : Nat} (h : q ≠ k) : up0 σ k q = σ q := funext fun j => if_neg h
theorem up0_s {k j : Nat} : up0 σ k k j = 0 := if_pos rfl
theorem cA_eqG {cA c0 : ClassId} {tys : List (ClassId × FieldType)} {U : State} {D : va_G} {cl : List vw_C} {ty : FieldType} {i : Nat} (hK : va_K D cl (tys ++ [(cA, ty)]) U) (hp : ∀ c : ClassId, va_RA U c ty = (U.vm.findClass ("[" ++ ty.toString) = some c)) (h0 : tys[i]? = some (c0, ty)) : cA = c0 := by
  have h1 := (hK.2 tys.length (cA, ty) (by rw [List.getElem?_append_right (Nat.le_refl _), Nat.sub_self]; rfl)).2
  have h2 := (hK.2 i (c0, ty) (by rw [List.getElem?_append_left (List.getElem?_eq_some_iff.mp h0).1]; exact h0)).2
  rw [hp] at h1 h2
  exact Option.some.inj (h1.symm.trans h2)
theorem A_newG {z : Int} {N : Nat} (hG : GOk G) (h1 : ¬ I32 z < 0) (h2 : (I32 z).toNatClampNeg = N) (h3 : N * 4 ≤ 536870912) (hm : k + 1 ≤ rc ∧ n + N ≤ rs) (d : decode cc pc = .ok (.newarray .int, 2))
    (g : ∀ a : Nat, AW l (Gn G a N) f (own, cc, nL, rt) (dd, rc, rs) Q [] (k + 1) (n + N) (pc + 2) lv (.ref a :: rest) (up0 σ (lkG G).length)) : AW l G f (own, cc, nL, rt) (dd, rc, rs) Q [] k n pc lv (.int (I32 z) :: rest) σ := by
  intro ok H locs ls hl hP hD hS
  have o := ok.2.2.2.2.2.2.2.2.2.2
  refine va_newa (atype := .int) (ty := .int) (a0 := (N, .inl (fun _ => I32 0))) ok.1 ok.2.1 (ok.2.2.2.2.1 (.arrayClass .int) (in_all (i := 178) (by decide +kernel) rfl)) rfl ok.2.2.2.2.2.1 hP hD hS ok.2.2.2.2.2.2.1 (fun cA => rfl) h1 h2 h3 (Nat.le_trans hm.1 o.2.2.1) (Nat.le_trans hm.2 o.2.2.2) d (fun q cA H1 hK hP hD hS => ?_)
  obtain rfl : cA = G.2.1 1 := cA_eqG (i := 1) hK (fun c => rfl) rfl
  have hlen : (wld G σ ++ []).length = (lkG G).length := by rw [List.append_nil, wld_len]
  have at1 : ∀ {i : Nat} {kd : Kd}, (lkG G)[i]? = some kd → ((wld G σ ++ []) ++ [(q, (.inl (G.2.1 1, N, .inl (fun _ => I32 0)) : va_E))])[i]? = some (lay G i, cellOf G σ i kd) := fun {i kd} hi => by
    have hlt := (List.getElem?_eq_some_iff.mp hi).1
    rw [List.getElem?_append_left (by rw [hlen]; exact hlt), List.append_nil]
    exact wld_at hi
  have at2 : ((wld G σ ++ []) ++ [(q, (.inl (G.2.1 1, N, .inl (fun _ => I32 0)) : va_E))])[(lkG G).length]? = some (q, .inl (G.2.1 1, N, .inl (fun _ => I32 0))) := by
    rw [List.getElem?_append_right (by rw [hlen]; exact Nat.le_refl _), hlen, Nat.sub_self]; rfl
  have cs : ∀ {i : Nat} {kd : Kd}, (lkG (Gn G q N))[i]? = some kd → (i < (lkG G).length ∧ (lkG G)[i]? = some kd) ∨ (i = (lkG G).length ∧ kd = .inr (1, N, 0)) := fun {i kd} hi => by
    rw [lkG_n] at hi
    by_cases c : i < (lkG G).length
    · rw [List.getElem?_append_left c] at hi
      exact Or.inl ⟨c, hi⟩
    · have hlt := (List.getElem?_eq_some_iff.mp hi).1
      rw [List.length_append] at hlt
      have e : i = (lkG G).length := by
        have : [(.inr (1, N, 0) : Kd)].length = 1 := rfl
        omega
      subst e
      rw [List.getElem?_append_right (Nat.le_refl _), Nat.sub_self] at hi
      exact Or.inr ⟨rfl, (Option.some.inj hi).symm⟩
  have ok2 : FxOk (Gn G q N) f (own, cc, nL, rt) (dd, rc, rs) := ok
  refine g q ok2 H1 locs ls hl (fun i p hp => ?_) ⟨fun i j p1 p2 hp1 hp2 e => ?_, fun i p hp => ?_⟩ hS
  · rw [List.append_nil] at hp
    obtain ⟨kd, e1, rfl⟩ := wld_of hp
    rcases cs e1 with ⟨c, e2⟩ | ⟨rfl, rfl⟩
    · have h := hP _ _ (at1 e2)
      show va_at G.1 vwCl (lay (Gn G q N) i, cellOf (Gn G q N) (up0 σ (lkG G).length) i kd) H1
      rw [lay_n c]
      exact at_cv (hG.at e2) (fun c2 h2 => lay_n h2) rfl (fun j => if_neg (by omega)) h
    · have h := hP _ _ at2
      show va_at G.1 vwCl (lay (Gn G q N) (lkG G).length, .inl (G.2.1 1, N, .inl (fun j => I32 (up0 σ (lkG G).length (lkG G).length j)))) H1
      rw [lay_e, show (fun j => I32 (up0 σ (lkG G).length (lkG G).length j)) = fun _ => I32 0 from funext fun j => by rw [up0_s]]
      exact h
  · rw [List.append_nil] at hp1 hp2
    obtain ⟨kd1, e1, rfl⟩ := wld_of hp1
    obtain ⟨kd2, e2, rfl⟩ := wld_of hp2
    have e : lay (Gn G q N) i = lay (Gn G q N) j := e
    rcases cs e1 with ⟨c1, g1⟩ | ⟨rfl, rfl⟩ <;> rcases cs e2 with ⟨c2, g2⟩ | ⟨rfl, rfl⟩
    · rw [lay_n c1, lay_n c2] at e
      exact hD.1 _ _ _ _ (at1 g1) (at1 g2) e
    · rw [lay_n c1, lay_e] at e
      exact hD.1 _ _ _ _ (at1 g1) at2 e
    · rw [lay_n c2, lay_e] at e
      exact hD.1 _ _ _ _ at2 (at1 g2) e
    · rfl
  · rw [List.append_nil] at hp
    obtain ⟨kd, e1, rfl⟩ := wld_of hp
    rcases cs e1 with ⟨c, e2⟩ | ⟨rfl, rfl⟩
    · show fA f (lay (Gn G q N) i)
      rw [lay_n c]
      exact hD.2 _ _ (at1 e2)
    · show fA f (lay (Gn G q N) (lkG G).length)
      rw [lay_e]
      exact hD.2 _ _ at2
/-- a method that made a cell of its own answers: its caller knows nothing of that cell -/
theorem A_iretG {a N : Nat} {x : Int} (hG : GOk G) (d : decode cc pc = .ok (.ireturn, 1)) (hr : r = some (.int (I32 x))) (hs : ∀ k, k < (lkG G).length → σ1 k = σ k) : AW l (Gn G a N) f (own, cc, nL, some .int) b (QT G f k n r σ1) xs k n pc lv [.int (I32 x)] σ := by
  subst hr
  intro ok H locs ls hl hP hD hS
  have hP2 : va_P G.1 vwCl (wld G σ1) H := by
    intro i p hp
    obtain ⟨kd, e1, rfl⟩ := wld_of hp
    have hlt := (List.getElem?_eq_some_iff.mp e1).1
    have h := wld_drop hP i _ (wld_at (lk_n e1))
    rw [lay_n hlt] at h
    exact at_cv (G := Gn G a N) (σ := σ) (hG.at e1) (fun c h2 => (lay_n h2).symm) rfl (fun j => by rw [hs i hlt]) h
  exact W.iret ok.1 ok.2.1 ok.2.2.2.2.2.2.2.2.1 (fun t ht hW => ⟨⟨rfl, by rw [ht]; exact hP2⟩, hS.F ht⟩) hS.2.2 d ok.2.2.2.2.2.2.2.2.2.1
end S26
