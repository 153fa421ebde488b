/-! choices worked out: side by side -/
section S62
variable {σ τ : Sg}
theorem I32_msb {x : Int} (h : inr x) (h0 : 0 ≤ x) : (I32 x).toBitVec.msb = false := by
  rw [BitVec.msb_eq_toInt]
  have : (I32 x).toBitVec.toInt = x := I32_toInt h
  rw [this]
  exact decide_eq_false (by omega)
theorem ior_nn {x y : Int} (hx : inr x) (hy : inr y) (h0 : 0 ≤ x) (h1 : 0 ≤ y) : 0 ≤ ior x y := by
  unfold ior
  show 0 ≤ ((I32 x).toBitVec ||| (I32 y).toBitVec).toInt
  have h : ((I32 x).toBitVec ||| (I32 y).toBitVec).msb = false := by rw [BitVec.msb_or, I32_msb hx h0, I32_msb hy h1]; rfl
  exact BitVec.toInt_nonneg_of_msb_false h
theorem ior_inr (x y : Int) : inr (ior x y) := I32_inr _
theorem iand_inr (x y : Int) : inr (iand x y) := I32_inr _
theorem ishl_inr (x y : Int) : inr (ishl x y) := I32_inr _
theorem ior_0 (x : Int) (h : inr x) : ior 0 x = x := by
  unfold ior
  have : I32 0 ||| I32 x = I32 x := by
    show (⟨⟨0#32 ||| (I32 x).toBitVec⟩⟩ : Int32) = I32 x
    rw [BitVec.zero_or]; rfl
  rw [this]; exact I32_toInt h
theorem ior_r0 (x : Int) (h : inr x) : ior x 0 = x := by
  unfold ior
  have : I32 x ||| I32 0 = I32 x := by
    show (⟨⟨(I32 x).toBitVec ||| 0#32⟩⟩ : Int32) = I32 x
    rw [BitVec.or_zero]; rfl
  rw [this]; exact I32_toInt h
theorem sgn_0 {x : Int} (h : inr x) (h0 : 0 ≤ x) : iand (ishr x (-1)) 1 = 0 := by
  have e : ishr x (-1) = 0 := by
    unfold ishr
    have e1 : I32 x >>> (I32 (-1) &&& 31) = (⟨⟨(I32 x).toBitVec.sshiftRight 31⟩⟩ : Int32) := rfl
    rw [e1]
    show ((I32 x).toBitVec.sshiftRight 31).toInt = 0
    rw [BitVec.toInt_sshiftRight]
    have e2 : (I32 x).toBitVec.toInt = x := I32_toInt h
    rw [e2, Int.shiftRight_eq_div_pow]
    have := h.2
    exact Int.ediv_eq_zero_of_lt h0 (by omega)
  rw [e]; rfl
theorem ishl_0 (d : Nat) (hd : d < 16) : ishl 0 d = 0 := by
  have : ∀ d : Nat, d < 16 → ishl 0 (d : Int) = 0 := by decide +kernel
  exact this d hd
theorem ishl_1nn (d : Nat) (hd : d < 16) : 0 ≤ ishl 1 d := by
  have : ∀ d : Nat, d < 16 → 0 ≤ ishl 1 (d : Int) := by decide +kernel
  exact this d hd
/-! names -/
def Uq (f : Nat → Int) (n : Int) : Prop := ∀ i j : Nat, (i : Int) < n → (j : Int) < n → I64 (f i) = I64 (f j) → i = j
theorem fn_spec {ka : Nat} {m v : Int} (hm : 0 ≤ m ∧ m ≤ 16) : (fnC τ ka m v = -1 ∧ ∀ j : Nat, (j : Int) < m → I64 (τ ka j) ≠ I64 v) ∨ ((0 ≤ fnC τ ka m v ∧ fnC τ ka m v < m) ∧ I64 (τ ka (fnC τ ka m v).toNat) = I64 v) := by
  have := fW_to (N := m) (g := fnG τ ka v) (fun i (a : Int) => (a = -1 ∧ ∀ j : Nat, (j : Int) < i → I64 (τ ka j) ≠ I64 v) ∨ ((0 ≤ a ∧ a < m) ∧ I64 (τ ka a.toNat) = I64 v)) (fun i a i0 i1 hp => by
    unfold fnG
    by_cases c : I64 (τ ka i.toNat) = I64 v
    · rw [if_pos c]; exact Or.inr ⟨⟨i0, i1⟩, c⟩
    · rw [if_neg c]
      rcases hp with ⟨h1, h2⟩ | h
      · refine Or.inl ⟨h1, fun j hj => ?_⟩
        by_cases z : (j : Int) = i
        · rw [show j = i.toNat from by omega]; exact c
        · exact h2 j (by omega)
      · exact Or.inr h) 16 0 (-1) (Int.le_refl _) hm.1 (by omega) (Or.inl ⟨rfl, fun j hj => by omega⟩)
  exact this
theorem idx_spec {k : Nat} {n v : Int} (hn : 0 ≤ n ∧ n ≤ 16) (h2 : σ k 2 = n) : (idxC σ k v = -1 ∧ ∀ j : Nat, (j : Int) < n → I64 (σ (k + 1) j) ≠ I64 v) ∨ ((0 ≤ idxC σ k v ∧ idxC σ k v < n) ∧ I64 (σ (k + 1) (idxC σ k v).toNat) = I64 v) := by
  have key : ∀ (m : Nat) (i : Int), 0 ≤ i → i + m = 16 → (∀ j : Nat, (j : Int) < i → (j : Int) < n → I64 (σ (k + 1) j) ≠ I64 v) → (idxF σ k v m i = -1 ∧ ∀ j : Nat, (j : Int) < n → I64 (σ (k + 1) j) ≠ I64 v) ∨ ((0 ≤ idxF σ k v m i ∧ idxF σ k v m i < n) ∧ I64 (σ (k + 1) (idxF σ k v m i).toNat) = I64 v) := by
    intro m
    induction m with
    | zero => intro i i0 hi h; exact Or.inl ⟨rfl, fun j hj => h j (by omega) hj⟩
    | succ m ih =>
      intro i i0 hi h
      simp only [idxF]
      rw [h2, i32_n n (by omega)]
      by_cases c : i < n
      · rw [if_pos c]
        by_cases c2 : I64 (σ (k + 1) i.toNat) = I64 v
        · rw [if_pos c2]; exact Or.inr ⟨⟨i0, c⟩, c2⟩
        · rw [if_neg c2]
          refine ih (i + 1) (by omega) (by omega) (fun j h1 h3 => ?_)
          by_cases z : (j : Int) = i
          · rw [show j = i.toNat from by omega]; exact c2
          · exact h j (by omega) h3
      · rw [if_neg c]; exact Or.inl ⟨rfl, fun j hj => h j (by omega) hj⟩
  exact key 16 0 (Int.le_refl _) (by omega) (fun j h1 => by omega)
/-- a name found: the class's first is the reference's last, for no name stands twice -/
theorem idx_fn {k ka : Nat} {n m v : Int} (hn : 0 ≤ n ∧ n ≤ 16) (h2 : σ k 2 = n) (hs : ∀ j : Nat, (j : Int) < n → σ (k + 1) j = τ ka j) (hu : Uq (τ ka) n) (hm : 0 ≤ m ∧ m ≤ n) : fnC τ ka m v = if ¬ idxC σ k v = -1 ∧ idxC σ k v < m then idxC σ k v else -1 := by
  have h1 := idx_spec (v := v) hn h2
  have h3 := fn_spec (τ := τ) (ka := ka) (m := m) (v := v) ⟨hm.1, by omega⟩
  rcases h1 with ⟨a1, a2⟩ | ⟨a1, a2⟩
  · rw [if_neg (fun z => z.1 a1)]
    rcases h3 with ⟨b1, -⟩ | ⟨b1, b2⟩
    · exact b1
    · have := a2 (fnC τ ka m v).toNat (by omega)
      rw [hs _ (by omega)] at this
      exact absurd b2 this
  · rw [hs _ (by omega)] at a2
    rcases h3 with ⟨b1, b2⟩ | ⟨b1, b2⟩
    · rw [b1]
      by_cases c : idxC σ k v < m
      · exact absurd a2 (b2 _ (by omega))
      · rw [if_neg (fun z => c z.2)]
    · have := hu (fnC τ ka m v).toNat (idxC σ k v).toNat (by omega) (by omega) (b2.trans a2.symm)
      rw [if_pos ⟨by omega, by omega⟩]; omega
theorem idx_fn0 {k ka : Nat} {n v : Int} (hn : 0 ≤ n ∧ n ≤ 16) (h2 : σ k 2 = n) (hs : ∀ j : Nat, (j : Int) < n → σ (k + 1) j = τ ka j) (hu : Uq (τ ka) n) : fnC τ ka n v = idxC σ k v := by
  have h1 := idx_spec (v := v) hn h2
  rw [idx_fn hn h2 hs hu ⟨hn.1, Int.le_refl _⟩]
  rcases h1 with ⟨a1, -⟩ | ⟨a1, -⟩
  · rw [if_neg (fun z => z.1 a1), a1]
  · rw [if_pos ⟨by omega, a1.2⟩]
/-- dishes with a tag -/
theorem dwt_e {N : Int} (hN : 0 ≤ N ∧ N ≤ 16) (h12 : σ 12 2 = N) (h15 : τ 84 15 = N) (hd : ∀ j : Nat, (j : Int) < N → σ 29 j = τ 97 j ∧ inr (τ 97 j) ∧ 0 ≤ τ 97 j) {t : Int} (ht : -1 ≤ t ∧ t < 16) : dwtC σ t = tgV τ t := by
  unfold dwtC tgV
  rw [h12, h15, i32_n N (by omega), show min N 16 = N from by omega]
  have := fW_to (N := N) (g := fun i (q : Int × Int) => (dwtG σ t i q.1, tgG τ t i q.2)) (fun i (q : Int × Int) => q.1 = q.2 ∧ inr q.1) (fun i q i0 i1 hp => by
    obtain ⟨q1, q2⟩ := q
    obtain ⟨e1, e2⟩ := hp
    have e1 : q1 = q2 := e1
    subst e1
    obtain ⟨d1, d2, d3⟩ := hd i.toNat (by omega)
    obtain ⟨j, rfl⟩ : ∃ j : Nat, i = j := ⟨i.toNat, by omega⟩
    unfold dwtG tgG
    dsimp only
    rw [d1, i32_n t (by omega), iand_i32]
    by_cases ht0 : 0 ≤ t
    · rcases iand1 (ishr (τ 97 ((j : Int)).toNat) t) with h | h
      · rw [if_neg (fun z => by have := z.2; omega), h, ishl_0 j (by omega), ior_r0 _ e2]
        exact ⟨rfl, e2⟩
      · rw [if_pos ⟨ht0, h⟩, h]
        exact ⟨rfl, ior_inr _ _⟩
    · have : t = -1 := by omega
      subst this
      rw [if_neg (fun z => ht0 z.1), sgn_0 d2 d3, ishl_0 j (by omega), ior_r0 _ e2]
      exact ⟨rfl, e2⟩) 16 0 (0, 0) (Int.le_refl _) hN.1 (by omega) ⟨rfl, inr_0⟩
  have pr : ∀ (n : Nat) (i : Int) (q : Int × Int), fW N (fun i (q : Int × Int) => (dwtG σ t i q.1, tgG τ t i q.2)) n i q = (fW N (dwtG σ t) n i q.1, fW N (tgG τ t) n i q.2) := by
    intro n
    induction n with
    | zero => intro i q; rfl
    | succ n ih =>
      intro i q
      rw [fW_s, fW_s, fW_s]
      by_cases c : i < N
      · rw [if_pos c, if_pos c, if_pos c, ih]
      · rw [if_neg c, if_neg c, if_neg c]
  rw [pr] at this
  exact this.1
/-- what choices need of the rows -/
def RN (σ τ : Sg) : Prop :=
  (0 ≤ τ 84 15 ∧ τ 84 15 ≤ 16) ∧ (0 ≤ τ 84 36 ∧ τ 84 36 ≤ 16) ∧ σ 12 2 = τ 84 15 ∧ σ 16 2 = τ 84 36 ∧ (∀ j : Nat, (j : Int) < τ 84 15 → σ 13 j = τ 93 j ∧ σ 29 j = τ 97 j ∧ inr (τ 97 j) ∧ 0 ≤ τ 97 j) ∧ (∀ j : Nat, (j : Int) < τ 84 36 → σ 17 j = τ 110 j) ∧ Uq (τ 93) (τ 84 15) ∧ Uq (τ 110) (τ 84 36)
theorem dn_e (h : RN σ τ) {ah v : Int} (hah : 0 ≤ ah ∧ ah ≤ τ 84 15) (h50 : σ 50 3 = ah) : dnC σ v = nmE τ ah v := by
  obtain ⟨hN, hT, e12, e16, hd, ht, ud, ut⟩ := h
  unfold dnC nmE
  rw [h50, i32_n ah (by omega)]
  have e1 := idx_fn (v := v) hN e12 (fun j hj => (hd j hj).1) ud hah
  have e2 := idx_fn0 (v := v) hT e16 ht ut
  by_cases c : ¬ idxC σ 12 v = -1 ∧ idxC σ 12 v < ah
  · rw [if_pos c] at e1
    rw [if_pos c, e1, if_neg c.1]
  · rw [if_neg c] at e1
    rw [if_neg c, e1, if_pos rfl, e2]
    exact dwt_e hN e12 rfl (fun j hj => (hd j hj).2) (idxC_in σ 16 v)
theorem nmE_inr (ah v : Int) : inr (nmE τ ah v) := by
  unfold nmE
  split
  · unfold tgV
    exact fW_inv (fun a : Int => inr a) (fun i a _ _ _ => ior_inr _ _) 16 0 0 (Int.le_refl _) inr_0
  · exact ishl_inr _ _
/-! expressions -/
def OneH (e : Int) (p : Ps) (one oneX : Int → Int × Int) : Prop := ∀ s : Pp, 0 ≤ s.2 → s.2 ≤ s.1 → s.1 ≤ e → s.1 ≤ s.2 + 30 → (p s).1 = true → one s.1 = oneX s.1 ∧ inr (oneX s.1).1 ∧ (oneX s.1).2 = (p s).2.1 ∧ (p s).2.2 = s.2 ∧ s.1 < (p s).2.1 ∧ (p s).2.1 ≤ e ∧ (p s).2.1 ≤ s.2 + 30
theorem rG_30 {s : Pp} (h : (rG s).1 = true) : s.1 - s.2 ≠ 30 := by
  unfold rG at h
  intro z
  rw [if_pos z] at h
  exact ff h
theorem ev_l {K J : Int → Int} {e : Int} (hK : HK K J e) {p : Ps} {one oneX : Int → Int × Int} (h1 : OneH e p one oneX) : ∀ (M n n13 n14 : Nat) (a cf s1 s2 : Int), 0 ≤ cf → cf < a → a ≤ cf + 30 → a ≤ e → cf + 30 - a ≤ M → M < n → M < n13 → M < n14 → M < 1501 → inr s2 →
    (pA (rJ J 13 p n13) (rJ J 14 (pA p (rJ J 13 p 1501)) n14) (a, cf)).1 = true →
    inr (xJ J 13 iand oneX n13 (s2, a)).1 ∧ (ior (evJ K one n (s1, s2, a)).1 (evJ K one n (s1, s2, a)).2.1, (evJ K one n (s1, s2, a)).2.2) = xJ J 14 ior (xB J oneX) n14 (ior s1 (xJ J 13 iand oneX n13 (s2, a)).1, (xJ J 13 iand oneX n13 (s2, a)).2) := by
  intro M
  induction M with
  | zero =>
    intro n n13 n14 a cf s1 s2 c0 ca a1 a2 hM hn h13 h14 hM1 hs2 hf
    obtain ⟨n, rfl⟩ : ∃ q, n = q + 1 := ⟨n - 1, by omega⟩
    obtain ⟨n13, rfl⟩ : ∃ q, n13 = q + 1 := ⟨n13 - 1, by omega⟩
    obtain ⟨n14, rfl⟩ : ∃ q, n14 = q + 1 := ⟨n14 - 1, by omega⟩
    have hj := hK.j (t := a) (by omega) a2
    have hG : rG (a, cf) = (false, (a, cf)) := if_pos (by show a - cf = 30; omega)
    have hy : ∀ p : Ps, pA rG p (a, cf) = (false, (a, cf)) := fun p => by rw [pA_f (by rw [hG]; exact fun z => ff z), hG]
    have c13 : ¬ J a = 13 := by
      intro c
      have e2 : rJ J 13 p (n13 + 1) (a, cf) = (false, (a, cf)) := (if_pos c).trans (by rw [hy]; rfl)
      rw [pA_f (by rw [e2]; exact fun z => ff z)] at hf
      exact ff hf
    have e2 : rJ J 13 p (n13 + 1) (a, cf) = (true, (a, cf)) := if_neg c13
    rw [pA_t (by rw [e2]), e2] at hf
    have c14 : ¬ J a = 14 := by
      intro c
      have e3 : rJ J 14 (pA p (rJ J 13 p 1501)) (n14 + 1) (a, cf) = (false, (a, cf)) := (if_pos c).trans (by rw [hy]; rfl)
      rw [e3] at hf
      exact ff hf
    have x13 : xJ J 13 iand oneX (n13 + 1) (s2, a) = (s2, a) := if_neg c13
    have ev : evJ K one (n + 1) (s1, s2, a) = (s1, s2, a) := if_neg (by rw [hj] at c13 c14; exact fun z => z.elim c14 c13)
    rw [x13, ev]
    exact ⟨hs2, (if_neg c14 : xJ J 14 ior (xB J oneX) (n14 + 1) (ior s1 s2, a) = _).symm⟩
  | succ M ih =>
    intro n n13 n14 a cf s1 s2 c0 ca a1 a2 hM hn h13 h14 hM1 hs2 hf
    obtain ⟨n, rfl⟩ : ∃ q, n = q + 1 := ⟨n - 1, by omega⟩
    obtain ⟨n13, rfl⟩ : ∃ q, n13 = q + 1 := ⟨n13 - 1, by omega⟩
    obtain ⟨n14, rfl⟩ : ∃ q, n14 = q + 1 := ⟨n14 - 1, by omega⟩
    have hj := hK.j (t := a) (by omega) a2
    by_cases c13 : J a = 13
    · have k13 : K a = 13 := hj.symm.trans c13
      have hlt := hK.lt k13 (by decide) a2
      have e3 : rJ J 13 p (n13 + 1) (a, cf) = if (pA rG p (a, cf)).1 = true then rJ J 13 p n13 (pA rG p (a, cf)).2 else (false, (pA rG p (a, cf)).2) := if_pos c13
      have hy1 : (pA rG p (a, cf)).1 = true := by
        by_cases c : (pA rG p (a, cf)).1 = true
        · exact c
        · rw [if_neg c] at e3
          rw [pA_f (by rw [e3]; exact fun z => ff z)] at hf
          exact ff hf
      rw [if_pos hy1] at e3
      obtain ⟨g1, g2, g3⟩ := pA_ok hy1
      have g30 := rG_30 g1
      have g30 : a - cf ≠ 30 := g30
      rw [rG_ok g1] at g2 g3
      obtain ⟨o1, o2, o3, o4, o5, o6, o7⟩ := h1 (a + 1, cf) c0 (by show cf ≤ a + 1; omega) (by show a + 1 ≤ e; omega) (by show a + 1 ≤ cf + 30; omega) g2
      have o1 : one (a + 1) = oneX (a + 1) := o1
      have o5 : a + 1 < (p (a + 1, cf)).2.1 := o5
      have eY : (pA rG p (a, cf)).2 = ((oneX (a + 1)).2, cf) := by rw [g3]; exact pp_eq o3.symm o4
      rw [eY] at e3
      have hf2 : (pA (rJ J 13 p n13) (rJ J 14 (pA p (rJ J 13 p 1501)) (n14 + 1)) ((oneX (a + 1)).2, cf)).1 = true := by
        unfold pA at hf ⊢
        rw [e3] at hf
        exact hf
      have o3 : (oneX (a + 1)).2 = (p (a + 1, cf)).2.1 := o3
      have o7 : (p (a + 1, cf)).2.1 ≤ cf + 30 := o7
      have r := ih n n13 (n14 + 1) (oneX (a + 1)).2 cf s1 (iand s2 (oneX (a + 1)).1) c0 (by omega) (by omega) (by omega) (by omega) (by omega) (by omega) (by omega) (by omega) (iand_inr _ _) hf2
      have x13 : xJ J 13 iand oneX (n13 + 1) (s2, a) = xJ J 13 iand oneX n13 (iand s2 (oneX (a + 1)).1, (oneX (a + 1)).2) := if_pos c13
      have ev : evJ K one (n + 1) (s1, s2, a) = evJ K one n (s1, iand s2 (oneX (a + 1)).1, (oneX (a + 1)).2) := by
        rw [← o1]
        exact (if_pos (Or.inr k13)).trans (if_neg (by rw [k13]; decide))
      rw [x13, ev]
      exact r
    · have e2 : rJ J 13 p (n13 + 1) (a, cf) = (true, (a, cf)) := if_neg c13
      rw [pA_t (by rw [e2]), e2] at hf
      have x13 : xJ J 13 iand oneX (n13 + 1) (s2, a) = (s2, a) := if_neg c13
      rw [x13]
      refine ⟨hs2, ?_⟩
      by_cases c14 : J a = 14
      · have k14 : K a = 14 := hj.symm.trans c14
        have hlt := hK.lt k14 (by decide) a2
        have e3 : rJ J 14 (pA p (rJ J 13 p 1501)) (n14 + 1) (a, cf) = pA (pA rG (pA p (rJ J 13 p 1501))) (rJ J 14 (pA p (rJ J 13 p 1501)) n14) (a, cf) := if_pos c14
        have hf : (rJ J 14 (pA p (rJ J 13 p 1501)) (n14 + 1) (a, cf)).1 = true := hf
        rw [e3, pA_as rG p (rJ J 13 p 1501), ← pA_as] at hf
        obtain ⟨y1, y2, y3⟩ := pA_ok hf
        obtain ⟨g1, g2, g3⟩ := pA_ok y1
        have g30 : a - cf ≠ 30 := rG_30 g1
        rw [rG_ok g1] at g2 g3
        obtain ⟨o1, o2, o3, o4, o5, o6, o7⟩ := h1 (a + 1, cf) c0 (by show cf ≤ a + 1; omega) (by show a + 1 ≤ e; omega) (by show a + 1 ≤ cf + 30; omega) g2
        have o1 : one (a + 1) = oneX (a + 1) := o1
        have o5 : a + 1 < (p (a + 1, cf)).2.1 := o5
        have eY : (pA rG p (a, cf)).2 = ((oneX (a + 1)).2, cf) := by rw [g3]; exact pp_eq o3.symm o4
        rw [eY] at y2
        have o3 : (oneX (a + 1)).2 = (p (a + 1, cf)).2.1 := o3
        have o7 : (p (a + 1, cf)).2.1 ≤ cf + 30 := o7
        have r := ih n 1501 n14 (oneX (a + 1)).2 cf (ior s1 s2) (oneX (a + 1)).1 c0 (by omega) (by omega) (by omega) (by omega) (by omega) (by omega) (by omega) (by omega) o2 y2
        have ev : evJ K one (n + 1) (s1, s2, a) = evJ K one n (ior s1 s2, (oneX (a + 1)).1, (oneX (a + 1)).2) := by
          rw [← o1]
          exact (if_pos (Or.inl k14)).trans (if_pos k14)
        have x14 : xJ J 14 ior (xB J oneX) (n14 + 1) (ior s1 s2, a) = xJ J 14 ior (xB J oneX) n14 (ior (ior s1 s2) (xB J oneX (a + 1)).1, (xB J oneX (a + 1)).2) := if_pos c14
        rw [ev, x14]
        exact r.2
      · have ev : evJ K one (n + 1) (s1, s2, a) = (s1, s2, a) := if_neg (by rw [hj] at c13 c14; exact fun z => z.elim c14 c13)
        rw [ev]
        exact (if_neg c14 : xJ J 14 ior (xB J oneX) (n14 + 1) (ior s1 s2, a) = _).symm
theorem xJ_inr {J : Int → Int} {k : Int} {op : Int → Int → Int} {one : Int → Int × Int} (ho : ∀ x y, inr (op x y)) : ∀ (n : Nat) (q : Int × Int), inr q.1 → inr (xJ J k op one n q).1
  | 0, q, h => h
  | n + 1, q, h => by
    simp only [xJ]
    split
    · exact xJ_inr ho n _ (ho _ _)
    · exact h
theorem ev_E {K J : Int → Int} {e : Int} (hK : HK K J e) {p : Ps} {one oneX : Int → Int × Int} (h1 : OneH e p one oneX) (s : Pp) (h20 : 0 ≤ s.2) (h21 : s.2 ≤ s.1) (hse : s.1 ≤ e) (hs30 : s.1 ≤ s.2 + 30) (hf : (rAny J p s).1 = true) : evE K one s.1 = xA J oneX s.1 ∧ inr (xA J oneX s.1).1 := by
  have hf : (pA (pA p (rJ J 13 p 1501)) (rJ J 14 (pA p (rJ J 13 p 1501)) 1501) s).1 = true := hf
  rw [← pA_as] at hf
  obtain ⟨g1, g2, g3⟩ := pA_ok hf
  obtain ⟨o1, o2, o3, o4, o5, o6, o7⟩ := h1 s h20 h21 hse hs30 g1
  have eY : (p s).2 = ((oneX s.1).2, s.2) := pp_eq o3.symm o4
  rw [eY] at g2
  obtain ⟨r1, r2⟩ := ev_l hK h1 29 30 1501 1501 (oneX s.1).2 s.2 0 (oneX s.1).1 h20 (by omega) (by omega) (by omega) (by omega) (by omega) (by omega) (by omega) (by omega) o2 g2
  have e1 : xB J oneX s.1 = xJ J 13 iand oneX 1501 ((oneX s.1).1, (oneX s.1).2) := rfl
  have e2 : xA J oneX s.1 = xJ J 14 ior (xB J oneX) 1501 (xB J oneX s.1) := rfl
  rw [ior_0 _ r1] at r2
  have e3 : evE K one s.1 = xA J oneX s.1 := by
    unfold evE
    rw [o1, r2, e2, e1]
  refine ⟨e3, ?_⟩
  rw [e2]
  exact xJ_inr ior_inr _ _ (by rw [e1]; exact r1)
theorem OneH_all {J V nm : Int → Int} {all e : Int} (hK : HK (KC σ) J e) (hnm : ∀ a, 0 ≤ a → a < e → KC σ a = 22 → dnC σ (VC σ a) = nm (V a)) (hni : ∀ v, inr (nm v)) (hall : all = ishl 1 (σ 12 2) - 1) : ∀ m : Nat, OneH e (rOne J m) (evO σ m) (xO J V nm all m) := by
  intro m
  induction m with
  | zero =>
    intro s h20 h21 hse hs30 hf
    have hp := xO_pos (K := J) (V := V) nm all 0 s hf
    have hS := Sm_one (e := e) (cf := s.2) h20 hK 0 s.1 h21 hs30 hse
    have hS2 : rOne J 0 (s.1, s.2) = rOne J 0 s := rfl
    rw [hS2] at hS
    obtain ⟨b1, b2, b3, b4, b5, b6, b7, b8⟩ := hS
    have hj := hK.j (t := s.1) (by omega) hse
    by_cases c : J s.1 = 22
    · have k22 : KC σ s.1 = 22 := hj.symm.trans c
      have hlt := hK.lt k22 (by decide) hse
      have ev : evO σ 0 s.1 = (dnC σ (VC σ s.1), s.1 + 1) := if_pos k22
      refine ⟨by rw [ev, hnm s.1 (by omega) hlt k22]; rfl, hni _, hp.1, hp.2, by rw [← b2]; exact b8 (b1.trans hf), by rw [← b2]; exact b7, by rw [← b2]; exact b6⟩
    · have : rOne J 0 s = (false, s) := if_neg c
      rw [this] at hf
      exact ff hf
  | succ m ih =>
    intro s h20 h21 hse hs30 hf
    have hp := xO_pos (K := J) (V := V) nm all (m + 1) s hf
    have hS := Sm_one (e := e) (cf := s.2) h20 hK (m + 1) s.1 h21 hs30 hse
    have hS2 : rOne J (m + 1) (s.1, s.2) = rOne J (m + 1) s := rfl
    rw [hS2] at hS
    obtain ⟨b1, b2, b3, b4, b5, b6, b7, b8⟩ := hS
    have hj := hK.j (t := s.1) (by omega) hse
    have fin : evO σ (m + 1) s.1 = xO J V nm all (m + 1) s.1 ∧ inr (xO J V nm all (m + 1) s.1).1 → evO σ (m + 1) s.1 = xO J V nm all (m + 1) s.1 ∧ inr (xO J V nm all (m + 1) s.1).1 ∧ (xO J V nm all (m + 1) s.1).2 = (rOne J (m + 1) s).2.1 ∧ (rOne J (m + 1) s).2.2 = s.2 ∧ s.1 < (rOne J (m + 1) s).2.1 ∧ (rOne J (m + 1) s).2.1 ≤ e ∧ (rOne J (m + 1) s).2.1 ≤ s.2 + 30 := fun h =>
      ⟨h.1, h.2, hp.1, hp.2, by rw [← b2]; exact b8 (b1.trans hf), by rw [← b2]; exact b7, by rw [← b2]; exact b6⟩
    refine fin ?_
    by_cases c : J s.1 = 22
    · have k22 : KC σ s.1 = 22 := hj.symm.trans c
      have hlt := hK.lt k22 (by decide) hse
      have ev : evO σ (m + 1) s.1 = (dnC σ (VC σ s.1), s.1 + 1) := if_pos k22
      have xv : xO J V nm all (m + 1) s.1 = (nm (V s.1), s.1 + 1) := (if_neg (by rw [c]; decide)).trans (if_neg (by rw [c]; decide))
      rw [ev, xv, hnm s.1 (by omega) hlt k22]
      exact ⟨rfl, hni _⟩
    · by_cases c15 : J s.1 = 15
      · have k15 : KC σ s.1 = 15 := hj.symm.trans c15
        have hlt := hK.lt k15 (by decide) hse
        have e1 : rOne J (m + 1) s = pA rG (rOne J m) s := (if_neg c).trans (if_pos c15)
        rw [e1] at hf
        obtain ⟨g1, g2, g3⟩ := pA_ok hf
        have g30 := rG_30 g1
        rw [rG_ok g1] at g2
        obtain ⟨o1, o2, -⟩ := ih (s.1 + 1, s.2) h20 (by dsimp only; omega) (by dsimp only; omega) (by dsimp only; omega) g2
        have o1 : evO σ m (s.1 + 1) = xO J V nm all m (s.1 + 1) := o1
        have ev : evO σ (m + 1) s.1 = (iand (ishl 1 (σ 12 2) - 1) (ixor (evO σ m (s.1 + 1)).1 (-1)), (evO σ m (s.1 + 1)).2) := (if_neg (by rw [k15]; decide)).trans (if_pos k15)
        have xv : xO J V nm all (m + 1) s.1 = (iand all (ixor (xO J V nm all m (s.1 + 1)).1 (-1)), (xO J V nm all m (s.1 + 1)).2) := if_pos c15
        rw [ev, xv, o1, hall]
        exact ⟨rfl, iand_inr _ _⟩
      · by_cases c20 : J s.1 = 20
        · have k20 : KC σ s.1 = 20 := hj.symm.trans c20
          have hlt := hK.lt k20 (by decide) hse
          have e1 : rOne J (m + 1) s = pA rG (pA (rAny J (rOne J m)) (rC J 21)) s := (if_neg c).trans ((if_neg c15).trans (if_pos c20))
          rw [e1] at hf
          obtain ⟨g1, g2, g3⟩ := pA_ok hf
          have g30 := rG_30 g1
          rw [rG_ok g1] at g2
          obtain ⟨y1, -, -⟩ := pA_ok g2
          obtain ⟨o1, o2⟩ := ev_E hK ih (s.1 + 1, s.2) h20 (by dsimp only; omega) (by dsimp only; omega) (by dsimp only; omega) y1
          have o1 : evE (KC σ) (evO σ m) (s.1 + 1) = xA J (xO J V nm all m) (s.1 + 1) := o1
          have ev : evO σ (m + 1) s.1 = ((evE (KC σ) (evO σ m) (s.1 + 1)).1, (evE (KC σ) (evO σ m) (s.1 + 1)).2 + 1) := (if_neg (by rw [k20]; decide)).trans (if_neg (by rw [k20]; decide))
          have xv : xO J V nm all (m + 1) s.1 = ((xA J (xO J V nm all m) (s.1 + 1)).1, (xA J (xO J V nm all m) (s.1 + 1)).2 + 1) := (if_neg c15).trans (if_pos c20)
          rw [ev, xv, o1]
          exact ⟨rfl, o2⟩
        · have e1 : rOne J (m + 1) s = (false, s) := (if_neg c).trans ((if_neg c15).trans (if_neg c20))
          rw [e1] at hf
          exact ff hf
/-- a choice, worked out on both sides -/
theorem su_e {J V : Int → Int} {e ah a : Int} (hK : HK (KC σ) J e) (hR : RN σ τ) (hV : ∀ t, 0 ≤ t → t < e → KC σ t = 22 → VC σ t = V t) (hah : 0 ≤ ah ∧ ah ≤ τ 84 15) (ha : 0 ≤ a ∧ a ≤ e) (hf : (rAny J (rOne J 8) (a, a)).1 = true) : suV σ a ah = chV J V τ ah a ∧ inr (suV σ a ah) := by
  have hK2 : HK (KC (up σ 50 3 ah)) J e := hK
  have hR2 : RN (up σ 50 3 ah) τ := hR
  have h1 := OneH_all (σ := up σ 50 3 ah) (V := V) (nm := nmE τ ah) (all := allE τ) hK2 (fun t t0 t1 t2 => by
    have e1 : VC (up σ 50 3 ah) t = V t := hV t t0 t1 t2
    rw [e1]; exact dn_e hR2 hah (up_s _ _ _ _)) (fun v => nmE_inr ah v) (by unfold allE; rw [hR2.2.2.1]) 8
  obtain ⟨o1, o2⟩ := ev_E hK2 h1 (a, a) ha.1 (Int.le_refl _) ha.2 (by dsimp only; omega) hf
  unfold suV chV
  have o1 : evE (KC σ) (evO (up σ 50 3 ah) 8) a = xA J (xO J V (nmE τ ah) (allE τ) 8) a := o1
  rw [o1]
  exact ⟨rfl, o2⟩
end S62
