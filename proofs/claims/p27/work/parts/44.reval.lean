/-! the reference: choices worked out, compile, test -/
section S44
variable {l : Launch} {G : Gx}
variable {σ : Sg} {e : Int} {K V N S : Int → Int}
def tgG (σ : Sg) (t d s : Int) : Int := ior s (ishl (iand (ishr (σ 97 d.toNat) t) 1) d)
def tgV (σ : Sg) (t : Int) : Int := fW (σ 84 15) (tgG σ t) 16 0 0
def nmE (σ : Sg) (ah v : Int) : Int := if fnC σ 93 ah v = -1 then tgV σ (fnC σ 110 (σ 84 36) v) else ishl 1 (fnC σ 93 ah v)
def allE (σ : Sg) : Int := ishl 1 (σ 84 15) - 1
def xJ (K : Int → Int) (k : Int) (op : Int → Int → Int) (one : Int → Int × Int) : Nat → Int × Int → Int × Int
  | 0, q => q
  | n + 1, q => if K q.2 = k then xJ K k op one n (op q.1 (one (q.2 + 1)).1, (one (q.2 + 1)).2) else q
def xB (K : Int → Int) (one : Int → Int × Int) (a : Int) : Int × Int := xJ K 13 iand one 1501 (one a)
def xA (K : Int → Int) (one : Int → Int × Int) (a : Int) : Int × Int := xJ K 14 ior (xB K one) 1501 (xB K one a)
def xO (K V nm : Int → Int) (all : Int) : Nat → Int → Int × Int
  | 0, a => (nm (V a), a + 1)
  | m + 1, a => if K a = 15 then (iand all (ixor (xO K V nm all m (a + 1)).1 (-1)), (xO K V nm all m (a + 1)).2) else if K a = 20 then ((xA K (xO K V nm all m) (a + 1)).1, (xA K (xO K V nm all m) (a + 1)).2 + 1) else (nm (V a), a + 1)
theorem tgV_cg {σ τ : Sg} (h1 : τ 84 15 = σ 84 15) (h2 : τ 97 = σ 97) (t : Int) : tgV τ t = tgV σ t := by
  unfold tgV
  rw [h1, show tgG τ t = tgG σ t from by funext d s; unfold tgG; rw [h2]]
theorem nmE_cg {σ τ : Sg} (h1 : τ 84 15 = σ 84 15) (h2 : τ 97 = σ 97) (h3 : τ 93 = σ 93) (h4 : τ 110 = σ 110) (h5 : τ 84 36 = σ 84 36) (ah v : Int) : nmE τ ah v = nmE σ ah v := by
  unfold nmE
  rw [fnC_cg h3, fnC_cg h4, h5, tgV_cg h1 h2]
theorem tgV_8 (a t : Int) : tgV (up σ 84 8 a) t = tgV σ t := tgV_cg (up_j _ _ (by decide)) (up_r _ _ _ (by decide)) t
/-- where each stops: as the form did -/
theorem xJ_pos {k : Int} {op : Int → Int → Int} {one : Int → Int × Int} {p : Ps} (h1 : ∀ s : Pp, (p s).1 = true → (one s.1).2 = (p s).2.1 ∧ (p s).2.2 = s.2) : ∀ (n : Nat) (s : Pp) (v : Int), (rJ K k p n s).1 = true → (xJ K k op one n (v, s.1)).2 = (rJ K k p n s).2.1 ∧ (rJ K k p n s).2.2 = s.2 := by
  intro n
  induction n with
  | zero => intro s v h; exact ⟨rfl, rfl⟩
  | succ n ih =>
    intro s v h
    simp only [rJ, xJ] at h ⊢
    by_cases c : K s.1 = k
    · rw [if_pos c] at h ⊢
      rw [if_pos c]
      by_cases c2 : (pA rG p s).1 = true
      · rw [if_pos c2] at h ⊢
        obtain ⟨q1, q2, q3⟩ := pA_ok c2
        rw [rG_ok q1] at q2 q3
        obtain ⟨q4, q5⟩ := h1 _ q2
        rw [q3] at h ⊢
        have q4 : (one (s.1 + 1)).2 = _ := q4
        rw [q4]
        have r := ih _ (op v (one (s.1 + 1)).1) h
        exact ⟨r.1, r.2.trans q5⟩
      · rw [if_neg c2] at h; cases h
    · rw [if_neg c, if_neg c]; exact ⟨rfl, rfl⟩
theorem xB_pos {one : Int → Int × Int} {p : Ps} (h1 : ∀ s : Pp, (p s).1 = true → (one s.1).2 = (p s).2.1 ∧ (p s).2.2 = s.2) (s : Pp) (h : (rBoth K p s).1 = true) : (xB K one s.1).2 = (rBoth K p s).2.1 ∧ (rBoth K p s).2.2 = s.2 := by
  obtain ⟨q1, q2, q3⟩ := pA_ok h
  obtain ⟨q4, q5⟩ := h1 s q1
  have e1 : (rBoth K p s).2 = (rJ K 13 p 1501 (p s).2).2 := q3
  obtain ⟨r1, r2⟩ := xJ_pos (op := iand) h1 1501 (p s).2 (one s.1).1 q2
  rw [e1, ← r1]
  unfold xB
  rw [← q4]
  exact ⟨rfl, r2.trans q5⟩
theorem xA_pos {one : Int → Int × Int} {p : Ps} (h1 : ∀ s : Pp, (p s).1 = true → (one s.1).2 = (p s).2.1 ∧ (p s).2.2 = s.2) (s : Pp) (h : (rAny K p s).1 = true) : (xA K one s.1).2 = (rAny K p s).2.1 ∧ (rAny K p s).2.2 = s.2 := by
  obtain ⟨q1, q2, q3⟩ := pA_ok h
  obtain ⟨q4, q5⟩ := xB_pos h1 s q1
  have e1 : (rAny K p s).2 = (rJ K 14 (rBoth K p) 1501 (rBoth K p s).2).2 := q3
  obtain ⟨r1, r2⟩ := xJ_pos (op := ior) (fun s h => xB_pos h1 s h) 1501 (rBoth K p s).2 (xB K one s.1).1 q2
  rw [e1, ← r1]
  unfold xA
  rw [← q4]
  exact ⟨rfl, r2.trans q5⟩
theorem xO_pos (nm : Int → Int) (all : Int) : ∀ (m : Nat) (s : Pp), (rOne K m s).1 = true → (xO K V nm all m s.1).2 = (rOne K m s).2.1 ∧ (rOne K m s).2.2 = s.2 := by
  intro m
  induction m with
  | zero =>
    intro s h
    simp only [rOne, xO] at h ⊢
    by_cases c : K s.1 = 22
    · rw [if_pos c] at h ⊢; rw [rG_ok h]; exact ⟨rfl, rfl⟩
    · rw [if_neg c] at h; cases h
  | succ m ih =>
    intro s h
    simp only [rOne, xO] at h ⊢
    by_cases c : K s.1 = 22
    · rw [if_pos c] at h ⊢
      rw [if_neg (by rw [c]; decide), if_neg (by rw [c]; decide), rG_ok h]; exact ⟨rfl, rfl⟩
    · rw [if_neg c] at h ⊢
      by_cases c2 : K s.1 = 15
      · rw [if_pos c2] at h ⊢
        rw [if_pos c2]
        obtain ⟨q1, q2, q3⟩ := pA_ok h
        rw [rG_ok q1] at q2 q3
        rw [q3]
        exact ih _ q2
      · rw [if_neg c2] at h ⊢
        rw [if_neg c2]
        by_cases c3 : K s.1 = 20
        · rw [if_pos c3] at h ⊢
          rw [if_pos c3]
          obtain ⟨q1, q2, q3⟩ := pA_ok h
          rw [rG_ok q1] at q2 q3
          obtain ⟨q4, q5, q6⟩ := pA_ok q2
          obtain ⟨q7, q8⟩ := xA_pos ih _ q4
          rw [q3, q6]
          unfold rC at q5 ⊢
          by_cases c4 : K ((rAny K (rOne K m) (s.1 + 1, s.2)).2).1 = 21
          · rw [if_pos c4] at q5 ⊢
            rw [rG_ok q5]
            have q7 : (xA K (xO K V nm all m) (s.1 + 1)).2 = _ := q7
            exact ⟨congrArg (fun z => z + 1) q7, q8⟩
          · rw [if_neg c4] at q5; cases q5
        · rw [if_neg c3] at h; cases h
theorem incS_8 (a : Int) : incS 8 (up σ 84 8 a) = up σ 84 8 (a + 1) := by
  unfold incS
  rw [up_s, up_up]
theorem bd_in (hT : Tk σ e K V N S) {p : Ps} (hp : gF e p) {a cf : Int} (ha : 0 ≤ a ∧ a ≤ e) (hcf : 0 ≤ cf ∧ cf ≤ 1500) : 0 ≤ (p (a, cf)).2.1 ∧ (p (a, cf)).2.1 ≤ e := (hp (a, cf) ⟨ha, hcf⟩).1.1
/-- a choice worked out from a token on, with so many dishes told ahead -/
def chV (K V : Int → Int) (σ : Sg) (ah a : Int) : Int := (xA K (xO K V (nmE σ ah) (allE σ) 8) a).1
def chE (K V : Int → Int) (σ : Sg) (ah a : Int) : Int := (xA K (xO K V (nmE σ ah) (allE σ) 8) a).2
end S44
