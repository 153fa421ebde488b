/-! the reference: meaning: names, tags, foods -/
section S36
variable {l : Launch} {G : Gx}
section AINC
variable {f : Fm} {own : String} {cc : ByteArray} {nL : Nat} {rt : Option FieldType} {b : Nat × Nat × Nat} {Q : State → Prop} {xs : va_W} {k n pc : Nat} {lv : List (Nat × Value)} {rest : List Value} {σ : Sg}
def incS (j : Nat) (σ : Sg) : Sg := up σ 84 j (σ 84 j + 1)
theorem incS_s (j : Nat) (σ : Sg) : incS j σ 84 j = σ 84 j + 1 := up_s _ _ _ _
theorem incS_k {j k : Nat} (σ : Sg) (h : k ≠ 84) (i : Nat) : incS j σ k i = σ k i := up_k _ _ h
theorem incS_j {j i k : Nat} (σ : Sg) (h : i ≠ j) : incS j σ k i = σ k i := up_j _ _ h
theorem incS_r {j k : Nat} (σ : Sg) (h : k ≠ 84) : incS j σ k = σ k := up_r _ _ _ h
theorem A_inc {idx j : Nat} {cs : List Nat} (hf : FL own idx 11 j .int false) (hk : (lkG G)[84]? = some (.inl (11, cs))) (hc : cs[j]? = some 0) (q : Nat) (hq : lv[q]? = some (0, .ref (lay G 84))) (d0 : decode cc pc = .ok (.aload_n 0, 1)) (d1 : decode cc (pc + 1) = .ok (.dup, 1)) (d2 : decode cc (pc + 1 + 1) = .ok (.getfield idx, 3)) (d3 : decode cc (pc + 1 + 1 + 3) = .ok (.iconst 1, 1)) (d4 : decode cc (pc + 1 + 1 + 3 + 1) = .ok (.iadd, 1)) (d5 : decode cc (pc + 1 + 1 + 3 + 1 + 1) = .ok (.putfield idx, 3))
    (g : AW l G f (own, cc, nL, rt) b Q xs k n (pc + 1 + 1 + 3 + 1 + 1 + 3) lv rest (incS j σ)) : AW l G f (own, cc, nL, rt) b Q xs k n pc lv rest σ := by
  refine A_aload_n d0 rfl q hq ?_
  refine A_dup d1 rfl ?_
  refine A_geti hf hk hc d2 ?_
  refine A_iconst d3 ?_
  refine A_iadd d4 ?_
  exact A_puti hf hk hc d5 g
end AINC
theorem ad11 (x : Int) : x + 1 + 1 = x + 2 := by omega
theorem ad21 (x : Int) : x + 2 + 1 = x + 3 := by omega
theorem ad31 (x : Int) : x + 3 + 1 = x + 4 := by omega
theorem ad41 (x : Int) : x + 4 + 1 = x + 5 := by omega
theorem ad51 (x : Int) : x + 5 + 1 = x + 6 := by omega
theorem ad12 (x : Int) : x + 1 + 2 = x + 3 := by omega
/-- the tokens that a form was right of: kinds K, names V, numbers N, where they stand S -/
def Tk (σ : Sg) (e : Int) (K V N S : Int → Int) : Prop := FmH σ e ∧ KR σ e = K ∧ (∀ t : Int, 0 ≤ t → t ≤ e → nmV σ t.toNat = V t ∧ nuV σ t.toNat = N t ∧ σ 87 t.toNat = S t) ∧ (∀ t, K t = 23 → 0 ≤ N t ∧ N t ≤ 9999) ∧ (0 ≤ σ 84 9 ∧ σ 84 9 ≤ 1500)
theorem isR_cg {σ τ : Sg} (h5 : τ 85 = σ 85) (h6 : τ 86 = σ 86) (h7 : τ 87 = σ 87) (h8 : τ 88 = σ 88) : isR τ = isR σ := by
  have h : ∀ t i n k, isF τ t i n k = isF σ t i n k := by
    intro t i n
    induction n with
    | zero => intro k; rfl
    | succ n ih => intro k; simp only [isF, ih, h5, h7]
  funext t i
  unfold isR
  rw [h, h6, h7, h8]
theorem KR_cg {σ τ : Sg} (h5 : τ 85 = σ 85) (h6 : τ 86 = σ 86) (h7 : τ 87 = σ 87) (h8 : τ 88 = σ 88) (e : Int) : KR τ e = KR σ e := by
  have h : ∀ t n i, kdF τ t n i = kdF σ t n i := by
    intro t n
    induction n with
    | zero => intro i; rfl
    | succ n ih => intro i; simp only [kdF, ih, isR_cg h5 h6 h7 h8]
  funext t
  unfold KR kdR
  rw [h, h6]
theorem nmV_cg {σ τ : Sg} (h5 : τ 85 = σ 85) (h7 : τ 87 = σ 87) (h8 : τ 88 = σ 88) : nmV τ = nmV σ := by
  funext t
  unfold nmV
  rw [h7, h8, show nmG τ = nmG σ from by funext k a; unfold nmG; rw [h5]]
theorem nuV_cg {σ τ : Sg} (h5 : τ 85 = σ 85) (h7 : τ 87 = σ 87) (h8 : τ 88 = σ 88) : nuV τ = nuV σ := by
  funext t
  unfold nuV
  rw [h7, h8, show nuG τ = nuG σ from by funext k a; unfold nuG; rw [h5]]
theorem Tk.cg {σ τ : Sg} {e : Int} {K V N S : Int → Int} (h : Tk σ e K V N S) (h2 : τ 84 2 = σ 84 2) (h9 : τ 84 9 = σ 84 9) (h5 : τ 85 = σ 85) (h6 : τ 86 = σ 86) (h7 : τ 87 = σ 87) (h8 : τ 88 = σ 88) : Tk τ e K V N S := by
  obtain ⟨⟨⟨a1, a2⟩, a3, a4, a5, a6⟩, b1, b2, b3, b4⟩ := h
  refine ⟨⟨⟨by rw [h2]; exact a1, by rw [h5]; exact a2⟩, by unfold Rt; rw [h6, h7, h8]; exact a3, a4, by rw [h6]; exact a5, by unfold TkOk; rw [h5, h6, h7, h8]; exact a6⟩, by rw [KR_cg h5 h6 h7 h8]; exact b1, by rw [nmV_cg h5 h7 h8, nuV_cg h5 h7 h8, h7]; exact b2, b3, by rw [h9]; exact b4⟩
theorem Tk.x {σ : Sg} {e : Int} {K V N S : Int → Int} {k j : Nat} {v : Int} (hk : 89 ≤ k) (h : Tk σ e K V N S) : Tk (up σ k j v) e K V N S := h.cg (up_k _ _ (by omega)) (up_k _ _ (by omega)) (up_r _ _ _ (by omega)) (up_r _ _ _ (by omega)) (up_r _ _ _ (by omega)) (up_r _ _ _ (by omega))
theorem Tk.o {σ : Sg} {e : Int} {K V N S : Int → Int} {j : Nat} {v : Int} (hj : 2 ≠ j ∧ 9 ≠ j) (h : Tk σ e K V N S) : Tk (up σ 84 j v) e K V N S := h.cg (up_j _ _ hj.1) (up_j _ _ hj.2) (up_r _ _ _ (by decide)) (up_r _ _ _ (by decide)) (up_r _ _ _ (by decide)) (up_r _ _ _ (by decide))
theorem Tk.i {σ : Sg} {e : Int} {K V N S : Int → Int} {j : Nat} (hj : 2 ≠ j ∧ 9 ≠ j) (h : Tk σ e K V N S) : Tk (incS j σ) e K V N S := h.o hj
theorem Tk.E {σ : Sg} {e : Int} {K V N S : Int → Int} (h : Tk σ e K V N S) : K e = 25 := by rw [← h.2.1]; exact h.1.e
theorem Tk.in {σ : Sg} {e : Int} {K V N S : Int → Int} (h : Tk σ e K V N S) {t k : Int} (hK : K t = k) (hk : k ≠ 25) : 0 ≤ t ∧ t < e := by
  have hE := h.E
  rw [← h.2.1] at hK hE
  by_cases c : 0 ≤ t ∧ t ≤ e
  · refine ⟨c.1, ?_⟩
    by_cases c2 : t = e
    · subst c2; exact absurd (hK.symm.trans hE) hk
    · omega
  · unfold KR at hK; rw [if_neg c] at hK; exact absurd hK.symm hk
theorem Tk.e {σ : Sg} {e : Int} {K V N S : Int → Int} (h : Tk σ e K V N S) : 0 ≤ e ∧ e ≤ 1500 := h.1.2.2.1
theorem Tk.bd {σ : Sg} {e : Int} {K V N S : Int → Int} (h : Tk σ e K V N S) (ha : 0 ≤ σ 84 8 ∧ σ 84 8 ≤ e) : bd e (σ 84 8, σ 84 9) := ⟨ha, h.2.2.2.2⟩
/-! the leaves over such tokens -/
def tkS (K : Int → Int) (i : Int) (σ : Sg) : Sg := if K (σ 84 8) = i then incS 8 σ else σ
theorem tkS_t {K : Int → Int} {i : Int} {σ : Sg} (h : K (σ 84 8) = i) : tkS K i σ = incS 8 σ := if_pos h
theorem tkS_f {K : Int → Int} {i : Int} {σ : Sg} (h : ¬ K (σ 84 8) = i) : tkS K i σ = σ := if_neg h
variable {σ : Sg} {e : Int} {K V N S : Int → Int}
theorem inR_n {v lo hi : Int} (h1 : -1000000 ≤ v ∧ v ≤ 1000000) (h2 : -1000000 ≤ lo ∧ lo ≤ 1000000) (h3 : -1000000 ≤ hi ∧ hi ≤ 1000000) : inR v lo hi = decide (lo ≤ v ∧ v ≤ hi) := by unfold inR; rw [i32_n _ h1, i32_n _ h2, i32_n _ h3]
/-! the functions -/
def Cn (σ : Sg) : Prop := (0 ≤ σ 84 10 ∧ σ 84 10 ≤ 16) ∧ (0 ≤ σ 84 15 ∧ σ 84 15 ≤ 16) ∧ (0 ≤ σ 84 23 ∧ σ 84 23 ≤ 4) ∧ (0 ≤ σ 84 25 ∧ σ 84 25 ≤ 8) ∧ (0 ≤ σ 84 30 ∧ σ 84 30 ≤ 8) ∧ (0 ≤ σ 84 36 ∧ σ 84 36 ≤ 16)
def knR (σ : Sg) (v : Int) : Bool := decide (¬ fnC σ 93 (σ 84 15) v = -1 ∨ ¬ fnC σ 110 (σ 84 36) v = -1)
def thI (σ : Sg) (v : Int) : Int := fnC σ 110 (σ 84 36) v
def th1 (σ : Sg) (v : Int) : Sg := if thI σ v = -1 then incS 36 (up σ 110 (σ 84 36).toNat v) else σ
def th2 (σ : Sg) (v : Int) : Int := if thI σ v = -1 then σ 84 36 else thI σ v
def thL (K V : Int → Int) : Nat → Int → Sg → Int × Sg
  | 0, set, σ => (set, σ)
  | n + 1, set, σ => if thI σ (V (σ 84 8)) = -1 ∧ σ 84 36 = 16 then (-1, σ) else if K (σ 84 8 + 1) = 19 then thL K V n (ior set (ishl 1 (th2 σ (V (σ 84 8))))) (incS 8 (incS 8 (th1 σ (V (σ 84 8))))) else (ior set (ishl 1 (th2 σ (V (σ 84 8)))), incS 8 (th1 σ (V (σ 84 8))))
def thC (K V : Int → Int) (σ : Sg) : Int × Sg := if K (σ 84 8) = 3 then thL K V 1501 0 (incS 8 σ) else (0, σ)
def fdT (K V S : Int → Int) (f : Nat) (v en pr : Int) (σ : Sg) : Int × Sg := if (thC K V σ).1 = -1 then (4, up (thC K V σ).2 84 4 (S ((thC K V σ).2 84 8))) else (0, incS 10 (up (up (up (up (thC K V σ).2 89 f v) 90 f en) 91 f pr) 92 f (thC K V σ).1))
def foM (K V N S : Int → Int) (first : Int) (σ : Sg) : Int × Sg :=
  if σ 84 10 = 16 then (4, up σ 84 4 (S first))
  else if tknR σ (V (σ 84 8)) = true then (3, up σ 84 4 (S (σ 84 8)))
  else if 900 < N (σ 84 8 + 1) then (5, up (incS 8 σ) 84 4 (S (σ 84 8 + 1)))
  else if K (σ 84 8 + 2) = 16 then (if 999 < N (σ 84 8 + 3) then (5, up (incS 8 (incS 8 (incS 8 σ))) 84 4 (S (σ 84 8 + 3))) else fdT K V S (σ 84 10).toNat (V (σ 84 8)) (N (σ 84 8 + 1)) (N (σ 84 8 + 3)) (incS 8 (incS 8 (incS 8 (incS 8 σ)))))
  else fdT K V S (σ 84 10).toNat (V (σ 84 8)) (N (σ 84 8 + 1)) 0 (incS 8 (incS 8 σ))
theorem th1_k (σ : Sg) (v : Int) {k : Nat} (h : k ≠ 84 ∧ k ≠ 110) : th1 σ v k = σ k := by
  unfold th1
  split
  · rw [incS_r _ h.1, up_r _ _ _ h.2]
  · rfl
theorem th1_j (σ : Sg) (v : Int) {j : Nat} (h : j ≠ 36) : th1 σ v 84 j = σ 84 j := by
  unfold th1
  split
  · rw [incS_j _ h, up_k _ _ (by decide)]
  · rfl
theorem thI_in (h : 0 ≤ σ 84 36 ∧ σ 84 36 ≤ 16) (v : Int) : -1 ≤ thI σ v ∧ thI σ v < σ 84 36 := fnC_in h
theorem th1_36 (h : 0 ≤ σ 84 36 ∧ σ 84 36 ≤ 16) (v : Int) (h2 : ¬ (thI σ v = -1 ∧ σ 84 36 = 16)) : 0 ≤ th1 σ v 84 36 ∧ th1 σ v 84 36 ≤ 16 := by
  unfold th1
  split
  · rw [incS_s, up_k _ _ (by decide)]; omega
  · exact h
theorem Tk.t1 (h : Tk σ e K V N S) (v : Int) : Tk (th1 σ v) e K V N S := h.cg (th1_j _ _ (by decide)) (th1_j _ _ (by decide)) (th1_k _ _ (by decide)) (th1_k _ _ (by decide)) (th1_k _ _ (by decide)) (th1_k _ _ (by decide))
theorem thL_keep {k j : Nat} (h : k ≠ 110 ∧ (k ≠ 84 ∨ (j ≠ 8 ∧ j ≠ 36))) : ∀ (n : Nat) (set : Int) (σ : Sg), (thL K V n set σ).2 k j = σ k j := by
  intro n
  have h1 : ∀ (τ : Sg) (v : Int), th1 τ v k j = τ k j := by
    intro τ v
    by_cases c : k = 84
    · subst c; exact th1_j _ _ (by omega)
    · rw [th1_k _ _ ⟨c, h.1⟩]
  have h2 : ∀ (τ : Sg), incS 8 τ k j = τ k j := by
    intro τ
    by_cases c : k = 84
    · subst c; exact incS_j _ (by omega)
    · exact incS_k _ c _
  induction n with
  | zero => intro set σ; rfl
  | succ n ih =>
    intro set σ
    simp only [thL]
    split
    · rfl
    · split
      · rw [ih, h2, h2, h1]
      · exact (h2 _).trans (h1 _ _)
theorem thC_keep {k j : Nat} (h : k ≠ 110 ∧ (k ≠ 84 ∨ (j ≠ 8 ∧ j ≠ 36))) (σ : Sg) : (thC K V σ).2 k j = σ k j := by
  unfold thC
  split
  · rw [thL_keep h]
    by_cases c : k = 84
    · subst c; exact incS_j _ (by omega)
    · exact incS_k _ c _
  · rfl
theorem Tk.tC (h : Tk σ e K V N S) (V2 : Int → Int) : Tk (thC K V2 σ).2 e K V N S := h.cg (thC_keep (by decide) σ) (thC_keep (by decide) σ) (funext fun _ => thC_keep (by omega) σ) (funext fun _ => thC_keep (by omega) σ) (funext fun _ => thC_keep (by omega) σ) (funext fun _ => thC_keep (by omega) σ)
theorem thL_at {b : Int} : ∀ (m n : Nat) (set : Int) (σ : Sg), m < n → K (σ 84 8) = 22 → TgC K m (σ 84 8 + 1) b → K ((thL K V n set σ).2 84 8) = 22 ∨ (thL K V n set σ).2 84 8 = b := by
  intro m
  induction m with
  | zero =>
    intro n set σ hn hk hg
    obtain ⟨n, rfl⟩ : ∃ q, n = q + 1 := ⟨n - 1, by omega⟩
    obtain ⟨g1, g2⟩ := hg
    simp only [thL]
    split
    · exact Or.inl hk
    · have g3 : ¬ K (σ 84 8 + 1) = 19 := by rw [← g1]; exact g2
      try rw [if_neg g3]
      exact Or.inr (by show incS 8 _ 84 8 = b; rw [incS_s, th1_j _ _ (by decide)]; exact g1.symm)
  | succ m ih =>
    intro n set σ hn hk hg
    obtain ⟨n, rfl⟩ : ∃ q, n = q + 1 := ⟨n - 1, by omega⟩
    obtain ⟨g1, g2, g3⟩ := hg
    simp only [thL]
    split
    · exact Or.inl hk
    · try rw [if_pos g1]
      have e1 : (incS 8 (incS 8 (th1 σ (V (σ 84 8))))) 84 8 = σ 84 8 + 2 := by rw [incS_s, incS_s, th1_j _ _ (by decide)]; omega
      refine ih n _ _ (by omega) ?_ ?_
      · rw [e1]; rw [ad11] at g2; exact g2
      · rw [e1]
        have : σ 84 8 + 1 + 2 = σ 84 8 + 2 + 1 := by omega
        rw [← this]; exact g3
theorem thL_36 : ∀ (n : Nat) (set : Int) (σ : Sg), 0 ≤ σ 84 36 ∧ σ 84 36 ≤ 16 → 0 ≤ (thL K V n set σ).2 84 36 ∧ (thL K V n set σ).2 84 36 ≤ 16 := by
  intro n
  induction n with
  | zero => intro set σ h; exact h
  | succ n ih =>
    intro set σ h
    simp only [thL]
    split
    · exact h
    · rename_i c
      split
      · exact ih _ _ (by rw [incS_j _ (by decide), incS_j _ (by decide)]; exact th1_36 h _ c)
      · show 0 ≤ incS 8 _ 84 36 ∧ incS 8 _ 84 36 ≤ 16
        rw [incS_j _ (by decide)]; exact th1_36 h _ c
theorem thC_36 (h : 0 ≤ σ 84 36 ∧ σ 84 36 ≤ 16) : 0 ≤ (thC K V σ).2 84 36 ∧ (thC K V σ).2 84 36 ≤ 16 := by
  unfold thC
  split
  · exact thL_36 _ _ _ (by rw [incS_j _ (by decide)]; exact h)
  · exact h
theorem TgC_len (h : Tk σ e K V N S) {b : Int} : ∀ (m : Nat) (a : Int), TgC K m a b → 0 ≤ a → a + 2 * m = b
  | 0, a, hg, ha => by rw [hg.1]; omega
  | m + 1, a, ⟨g1, g2, g3⟩, ha => by have := TgC_len h m (a + 2) g3 (by omega); omega
theorem thC_at (h : Tk σ e K V N S) {b : Int} (hg : TgO K (σ 84 8) b) (hb : K b ≠ 25) : K ((thC K V σ).2 84 8) = 22 ∨ (thC K V σ).2 84 8 = b := by
  unfold thC
  rcases hg with ⟨g1, g2⟩ | ⟨g1, g2, m, g3⟩
  · rw [if_neg g1]; exact Or.inr g2.symm
  · rw [if_pos g1]
    have hin := h.in g1 (by decide)
    have hl := TgC_len h m _ g3 (by omega)
    have hbi := h.in (t := b) rfl hb
    have := h.e
    refine thL_at m 1501 0 (incS 8 σ) (by omega) ?_ ?_
    · rw [incS_s]; exact g2
    · rw [incS_s, ad11]; exact g3
theorem ior_i32 (x y : Int) : i32 (ior x y) = ior x y := i32_eq (I32_inr _)
theorem thL_i32 : ∀ (n : Nat) (set : Int) (σ : Sg), i32 set = set → i32 (thL K V n set σ).1 = (thL K V n set σ).1 := by
  intro n
  induction n with
  | zero => intro set σ h; exact h
  | succ n ih =>
    intro set σ h
    simp only [thL]
    split
    · exact i32_n (-1) (by decide)
    · split
      · exact ih _ _ (ior_i32 _ _)
      · exact ior_i32 _ _
theorem thC_i32 (K V : Int → Int) (σ : Sg) : i32 (thC K V σ).1 = (thC K V σ).1 := by
  unfold thC
  split
  · exact thL_i32 _ _ _ (i32_n _ (by decide))
  · exact i32_n 0 (by decide)
end S36
