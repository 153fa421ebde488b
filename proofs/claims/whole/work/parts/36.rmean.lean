/-! the reference: meaning: names, tags, foods -/
section S36
variable {l : Launch} {G : Gx}
section AINC
variable {f : Fm} {own : String} {cc : ByteArray} {nL : Nat} {rt : Option FieldType} {b : Nat × Nat × Nat} {Q : State → Prop} {xs : va_W} {k n pc : Nat} {lv : List (Nat × Value)} {rest : List Value} {σ : Sg}
def incS (j : Nat) (σ : Sg) : Sg := up σ 84 j (σ 84 j + 1)
theorem incS_s (j : Nat) (σ : Sg) : incS j σ 84 j = σ 84 j + 1 := up_s _ _ _ _
theorem incS_k {j k : Nat} (σ : Sg) (h : k ≠ 84) (i : Nat) : incS j σ k i = σ k i := up_k _ _ h
theorem incS_j {j i k : Nat} (σ : Sg) (h : i ≠ j) : incS j σ k i = σ k i := up_j _ _ h
theorem incS_r {j k : Nat} (σ : Sg) (h : k ≠ 84) : incS j σ k = σ k := up_r _ _ _ h
theorem A_inc {idx j : Nat} {cs : List Nat} (hf : FL own idx 11 j .int false) (hk : lkL[84]? = some (.inl (11, cs))) (hc : cs[j]? = some 0) (q : Nat) (hq : lv[q]? = some (0, .ref (lay G 84))) (d0 : decode cc pc = .ok (.aload_n 0, 1)) (d1 : decode cc (pc + 1) = .ok (.dup, 1)) (d2 : decode cc (pc + 1 + 1) = .ok (.getfield idx, 3)) (d3 : decode cc (pc + 1 + 1 + 3) = .ok (.iconst 1, 1)) (d4 : decode cc (pc + 1 + 1 + 3 + 1) = .ok (.iadd, 1)) (d5 : decode cc (pc + 1 + 1 + 3 + 1 + 1) = .ok (.putfield idx, 3))
    (g : AW l G f (own, cc, nL, rt) b Q xs k n (pc + 1 + 1 + 3 + 1 + 1 + 3) lv rest (incS j σ)) : AW l G f (own, cc, nL, rt) b Q xs k n pc lv rest σ := by
  refine A_aload_n d0 rfl q hq ?_
  refine A_dup d1 rfl ?_
  refine A_geti hf hk hc d2 ?_
  refine A_iconst d3 ?_
  refine A_iadd d4 ?_
  exact A_puti hf hk hc d5 g
end AINC
theorem ad11 (x : Int) : x + 1 + 1 = x + 2 := by omega
theorem ad21 (x : Int) : x + 2 + 1 = x + 3 := by omega
theorem ad31 (x : Int) : x + 3 + 1 = x + 4 := by omega
theorem ad41 (x : Int) : x + 4 + 1 = x + 5 := by omega
theorem ad51 (x : Int) : x + 5 + 1 = x + 6 := by omega
theorem ad12 (x : Int) : x + 1 + 2 = x + 3 := by omega
/-- the tokens that a form was right of: kinds K, names V, numbers N, where they stand S -/
def Tk (σ : Sg) (e : Int) (K V N S : Int → Int) : Prop := FmH σ e ∧ KR σ e = K ∧ (∀ t : Int, 0 ≤ t → t ≤ e → nmV σ t.toNat = V t ∧ nuV σ t.toNat = N t ∧ σ 87 t.toNat = S t) ∧ (∀ t, K t = 23 → 0 ≤ N t ∧ N t ≤ 9999) ∧ (0 ≤ σ 84 9 ∧ σ 84 9 ≤ 1500)
theorem isR_cg {σ τ : Sg} (h5 : τ 85 = σ 85) (h6 : τ 86 = σ 86) (h7 : τ 87 = σ 87) (h8 : τ 88 = σ 88) : isR τ = isR σ := by
  have h : ∀ t i n k, isF τ t i n k = isF σ t i n k := by
    intro t i n
    induction n with
    | zero => intro k; rfl
    | succ n ih => intro k; simp only [isF, ih, h5, h7]
  funext t i
  unfold isR
  rw [h, h6, h7, h8]
theorem KR_cg {σ τ : Sg} (h5 : τ 85 = σ 85) (h6 : τ 86 = σ 86) (h7 : τ 87 = σ 87) (h8 : τ 88 = σ 88) (e : Int) : KR τ e = KR σ e := by
  have h : ∀ t n i, kdF τ t n i = kdF σ t n i := by
    intro t n
    induction n with
    | zero => intro i; rfl
    | succ n ih => intro i; simp only [kdF, ih, isR_cg h5 h6 h7 h8]
  funext t
  unfold KR kdR
  rw [h, h6]
theorem nmV_cg {σ τ : Sg} (h5 : τ 85 = σ 85) (h7 : τ 87 = σ 87) (h8 : τ 88 = σ 88) : nmV τ = nmV σ := by
  funext t
  unfold nmV
  rw [h7, h8, show nmG τ = nmG σ from by funext k a; unfold nmG; rw [h5]]
theorem nuV_cg {σ τ : Sg} (h5 : τ 85 = σ 85) (h7 : τ 87 = σ 87) (h8 : τ 88 = σ 88) : nuV τ = nuV σ := by
  funext t
  unfold nuV
  rw [h7, h8, show nuG τ = nuG σ from by funext k a; unfold nuG; rw [h5]]
theorem Tk.cg {σ τ : Sg} {e : Int} {K V N S : Int → Int} (h : Tk σ e K V N S) (h2 : τ 84 2 = σ 84 2) (h9 : τ 84 9 = σ 84 9) (h5 : τ 85 = σ 85) (h6 : τ 86 = σ 86) (h7 : τ 87 = σ 87) (h8 : τ 88 = σ 88) : Tk τ e K V N S := by
  obtain ⟨⟨⟨a1, a2⟩, a3, a4, a5, a6⟩, b1, b2, b3, b4⟩ := h
  refine ⟨⟨⟨by rw [h2]; exact a1, by rw [h5]; exact a2⟩, by unfold Rt; rw [h6, h7, h8]; exact a3, a4, by rw [h6]; exact a5, by unfold TkOk; rw [h5, h6, h7, h8]; exact a6⟩, by rw [KR_cg h5 h6 h7 h8]; exact b1, by rw [nmV_cg h5 h7 h8, nuV_cg h5 h7 h8, h7]; exact b2, b3, by rw [h9]; exact b4⟩
theorem Tk.x {σ : Sg} {e : Int} {K V N S : Int → Int} {k j : Nat} {v : Int} (hk : 89 ≤ k) (h : Tk σ e K V N S) : Tk (up σ k j v) e K V N S := h.cg (up_k _ _ (by omega)) (up_k _ _ (by omega)) (up_r _ _ _ (by omega)) (up_r _ _ _ (by omega)) (up_r _ _ _ (by omega)) (up_r _ _ _ (by omega))
theorem Tk.o {σ : Sg} {e : Int} {K V N S : Int → Int} {j : Nat} {v : Int} (hj : 2 ≠ j ∧ 9 ≠ j) (h : Tk σ e K V N S) : Tk (up σ 84 j v) e K V N S := h.cg (up_j _ _ hj.1) (up_j _ _ hj.2) (up_r _ _ _ (by decide)) (up_r _ _ _ (by decide)) (up_r _ _ _ (by decide)) (up_r _ _ _ (by decide))
theorem Tk.i {σ : Sg} {e : Int} {K V N S : Int → Int} {j : Nat} (hj : 2 ≠ j ∧ 9 ≠ j) (h : Tk σ e K V N S) : Tk (incS j σ) e K V N S := h.o hj
theorem Tk.E {σ : Sg} {e : Int} {K V N S : Int → Int} (h : Tk σ e K V N S) : K e = 25 := by rw [← h.2.1]; exact h.1.e
theorem Tk.in {σ : Sg} {e : Int} {K V N S : Int → Int} (h : Tk σ e K V N S) {t k : Int} (hK : K t = k) (hk : k ≠ 25) : 0 ≤ t ∧ t < e := by
  have hE := h.E
  rw [← h.2.1] at hK hE
  by_cases c : 0 ≤ t ∧ t ≤ e
  · refine ⟨c.1, ?_⟩
    by_cases c2 : t = e
    · subst c2; exact absurd (hK.symm.trans hE) hk
    · omega
  · unfold KR at hK; rw [if_neg c] at hK; exact absurd hK.symm hk
theorem Tk.e {σ : Sg} {e : Int} {K V N S : Int → Int} (h : Tk σ e K V N S) : 0 ≤ e ∧ e ≤ 1500 := h.1.2.2.1
theorem Tk.bd {σ : Sg} {e : Int} {K V N S : Int → Int} (h : Tk σ e K V N S) (ha : 0 ≤ σ 84 8 ∧ σ 84 8 ≤ e) : bd e (σ 84 8, σ 84 9) := ⟨ha, h.2.2.2.2⟩
/-! the leaves over such tokens -/
def tkS (K : Int → Int) (i : Int) (σ : Sg) : Sg := if K (σ 84 8) = i then incS 8 σ else σ
theorem tkS_t {K : Int → Int} {i : Int} {σ : Sg} (h : K (σ 84 8) = i) : tkS K i σ = incS 8 σ := if_pos h
theorem tkS_f {K : Int → Int} {i : Int} {σ : Sg} (h : ¬ K (σ 84 8) = i) : tkS K i σ = σ := if_neg h
variable {σ : Sg} {e : Int} {K V N S : Int → Int}
theorem c_nameT (h : Tk σ e K V N S) (t : Int) (ht : 0 ≤ t ∧ t ≤ e) : Ct l G yX11_nameOf cX11_nameOf 5 (some .long) 0 0 0 [.ref (lay G 84), .int (I32 t)] σ (some (.long (I64 (V t)))) σ := by
  have := c_X11_nameOf (l := l) (G := G) σ t h.1.1 h.1.2.1 ⟨ht.1, Int.le_trans ht.2 h.e.2⟩
  rw [(h.2.2.1 t ht.1 ht.2).1] at this; exact this
theorem c_numT (h : Tk σ e K V N S) (t : Int) (ht : 0 ≤ t ∧ t ≤ e) : Ct l G yX11_numberOf cX11_numberOf 4 (some .int) 0 0 0 [.ref (lay G 84), .int (I32 t)] σ (some (.int (I32 (N t)))) σ := by
  have := c_X11_numberOf (l := l) (G := G) σ t h.1.1 h.1.2.1 ⟨ht.1, Int.le_trans ht.2 h.e.2⟩
  rw [(h.2.2.1 t ht.1 ht.2).2.1] at this; exact this
theorem c_wrongT (h : Tk σ e K V N S) (c t : Int) (ht : 0 ≤ t ∧ t ≤ e) : Ct l G yX11_wrong cX11_wrong 3 (some .int) 0 0 0 [.ref (lay G 84), .int (I32 c), .int (I32 t)] σ (some (.int (I32 c))) (up σ 84 4 (S t)) := by
  have := c_X11_wrong (l := l) (G := G) σ c t ⟨ht.1, Int.le_trans ht.2 h.e.2⟩
  rw [(h.2.2.1 t ht.1 ht.2).2.2] at this; exact this
theorem c_isT (h : Tk σ e K V N S) (t : Int) (ht : 0 ≤ t ∧ t ≤ e) (i : Nat) (hi : i < 22) : Ct l G yX11_is cX11_is 5 (some .boolean) 4 0 0 [.ref (lay G 84), .int (I32 t), .ref (G.2.2.2.1 i)] σ (some (.int (I32 (b2i (decide (K t = (i : Nat))))))) σ := by
  have := c_X11_is (l := l) (G := G) σ t i h.1.1 h.1.2.1 ⟨ht.1, Int.le_trans ht.2 h.e.2⟩ (by omega)
  rw [isR_kd _ _ _ hi, ← KR_in ht, h.2.1] at this; exact this
theorem c_isNameT (h : Tk σ e K V N S) (t : Int) (ht : 0 ≤ t ∧ t ≤ e) : Ct l G yX11_isName cX11_isName 7 (some .boolean) 5 0 0 [.ref (lay G 84), .int (I32 t)] σ (some (.int (I32 (b2i (decide (K t = 22)))))) σ := by
  have := c_X11_isName (l := l) (G := G) σ t h.1.1 h.1.2.1 ⟨ht.1, Int.le_trans ht.2 h.e.2⟩
  rw [nmR_kd h.1 (by omega), ← KR_in ht, h.2.1] at this; exact this
theorem c_seesT (h : Tk σ e K V N S) (i : Nat) (ha : 0 ≤ σ 84 8 ∧ σ 84 8 ≤ e) (hi : i < 22) : Ct l G yX11_sees cX11_sees 2 (some .boolean) 5 0 0 [.ref (lay G 84), .ref (G.2.2.2.1 i)] σ (some (.int (I32 (b2i (decide (K (σ 84 8) = (i : Nat))))))) σ := by
  have := c_X11_sees (l := l) (G := G) σ (σ 84 8, σ 84 9) e i h.1 (h.bd ha) hi
  rw [stR_I, h.2.1] at this; exact this
theorem c_takesT (h : Tk σ e K V N S) (i : Nat) (ha : 0 ≤ σ 84 8 ∧ σ 84 8 ≤ e) (hi : i < 22) : Ct l G yX11_takes cX11_takes 2 (some .boolean) 6 0 0 [.ref (lay G 84), .ref (G.2.2.2.1 i)] σ (some (.int (I32 (b2i (decide (K (σ 84 8) = (i : Nat))))))) (tkS K (i : Nat) σ) := by
  have := c_X11_takes (l := l) (G := G) σ (σ 84 8, σ 84 9) e i h.1 (h.bd ha) hi
  rw [stR_I, h.2.1] at this
  have e1 : (pT K (i : Nat) (σ 84 8, σ 84 9)).1 = decide (K (σ 84 8) = (i : Nat)) := by
    unfold pT; split
    · rename_i c; exact (decide_eq_true c).symm
    · rename_i c; exact (decide_eq_false c).symm
  have e2 : stR σ (pT K (i : Nat) (σ 84 8, σ 84 9)).2 = tkS K (i : Nat) σ := by
    unfold pT tkS
    by_cases c : K (σ 84 8) = (i : Nat)
    · rw [if_pos c, if_pos c, ← stR_u8, stR_I]; rfl
    · rw [if_neg c, if_neg c, stR_I]
  rw [e1, e2] at this; exact this
theorem inR_n {v lo hi : Int} (h1 : -1000000 ≤ v ∧ v ≤ 1000000) (h2 : -1000000 ≤ lo ∧ lo ≤ 1000000) (h3 : -1000000 ≤ hi ∧ hi ≤ 1000000) : inR v lo hi = decide (lo ≤ v ∧ v ≤ hi) := by unfold inR; rw [i32_n _ h1, i32_n _ h2, i32_n _ h3]
/-! the functions -/
def Cn (σ : Sg) : Prop := (0 ≤ σ 84 10 ∧ σ 84 10 ≤ 16) ∧ (0 ≤ σ 84 15 ∧ σ 84 15 ≤ 16) ∧ (0 ≤ σ 84 23 ∧ σ 84 23 ≤ 4) ∧ (0 ≤ σ 84 25 ∧ σ 84 25 ≤ 8) ∧ (0 ≤ σ 84 30 ∧ σ 84 30 ≤ 8) ∧ (0 ≤ σ 84 36 ∧ σ 84 36 ≤ 16)
def knR (σ : Sg) (v : Int) : Bool := decide (¬ fnC σ 93 (σ 84 15) v = -1 ∨ ¬ fnC σ 110 (σ 84 36) v = -1)
def thI (σ : Sg) (v : Int) : Int := fnC σ 110 (σ 84 36) v
def th1 (σ : Sg) (v : Int) : Sg := if thI σ v = -1 then incS 36 (up σ 110 (σ 84 36).toNat v) else σ
def th2 (σ : Sg) (v : Int) : Int := if thI σ v = -1 then σ 84 36 else thI σ v
def thL (K V : Int → Int) : Nat → Int → Sg → Int × Sg
  | 0, set, σ => (set, σ)
  | n + 1, set, σ => if thI σ (V (σ 84 8)) = -1 ∧ σ 84 36 = 16 then (-1, σ) else if K (σ 84 8 + 1) = 19 then thL K V n (ior set (ishl 1 (th2 σ (V (σ 84 8))))) (incS 8 (incS 8 (th1 σ (V (σ 84 8))))) else (ior set (ishl 1 (th2 σ (V (σ 84 8)))), incS 8 (th1 σ (V (σ 84 8))))
def thC (K V : Int → Int) (σ : Sg) : Int × Sg := if K (σ 84 8) = 3 then thL K V 1501 0 (incS 8 σ) else (0, σ)
def fdT (K V S : Int → Int) (f : Nat) (v en pr : Int) (σ : Sg) : Int × Sg := if (thC K V σ).1 = -1 then (4, up (thC K V σ).2 84 4 (S ((thC K V σ).2 84 8))) else (0, incS 10 (up (up (up (up (thC K V σ).2 89 f v) 90 f en) 91 f pr) 92 f (thC K V σ).1))
def foM (K V N S : Int → Int) (first : Int) (σ : Sg) : Int × Sg :=
  if σ 84 10 = 16 then (4, up σ 84 4 (S first))
  else if tknR σ (V (σ 84 8)) = true then (3, up σ 84 4 (S (σ 84 8)))
  else if 900 < N (σ 84 8 + 1) then (5, up (incS 8 σ) 84 4 (S (σ 84 8 + 1)))
  else if K (σ 84 8 + 2) = 16 then (if 999 < N (σ 84 8 + 3) then (5, up (incS 8 (incS 8 (incS 8 σ))) 84 4 (S (σ 84 8 + 3))) else fdT K V S (σ 84 10).toNat (V (σ 84 8)) (N (σ 84 8 + 1)) (N (σ 84 8 + 3)) (incS 8 (incS 8 (incS 8 (incS 8 σ)))))
  else fdT K V S (σ 84 10).toNat (V (σ 84 8)) (N (σ 84 8 + 1)) 0 (incS 8 (incS 8 σ))
theorem th1_k (σ : Sg) (v : Int) {k : Nat} (h : k ≠ 84 ∧ k ≠ 110) : th1 σ v k = σ k := by
  unfold th1
  split
  · rw [incS_r _ h.1, up_r _ _ _ h.2]
  · rfl
theorem th1_j (σ : Sg) (v : Int) {j : Nat} (h : j ≠ 36) : th1 σ v 84 j = σ 84 j := by
  unfold th1
  split
  · rw [incS_j _ h, up_k _ _ (by decide)]
  · rfl
theorem thI_in (h : 0 ≤ σ 84 36 ∧ σ 84 36 ≤ 16) (v : Int) : -1 ≤ thI σ v ∧ thI σ v < σ 84 36 := fnC_in h
theorem th1_36 (h : 0 ≤ σ 84 36 ∧ σ 84 36 ≤ 16) (v : Int) (h2 : ¬ (thI σ v = -1 ∧ σ 84 36 = 16)) : 0 ≤ th1 σ v 84 36 ∧ th1 σ v 84 36 ≤ 16 := by
  unfold th1
  split
  · rw [incS_s, up_k _ _ (by decide)]; omega
  · exact h
theorem Tk.t1 (h : Tk σ e K V N S) (v : Int) : Tk (th1 σ v) e K V N S := h.cg (th1_j _ _ (by decide)) (th1_j _ _ (by decide)) (th1_k _ _ (by decide)) (th1_k _ _ (by decide)) (th1_k _ _ (by decide)) (th1_k _ _ (by decide))
theorem thL_keep {k j : Nat} (h : k ≠ 110 ∧ (k ≠ 84 ∨ (j ≠ 8 ∧ j ≠ 36))) : ∀ (n : Nat) (set : Int) (σ : Sg), (thL K V n set σ).2 k j = σ k j := by
  intro n
  have h1 : ∀ (τ : Sg) (v : Int), th1 τ v k j = τ k j := by
    intro τ v
    by_cases c : k = 84
    · subst c; exact th1_j _ _ (by omega)
    · rw [th1_k _ _ ⟨c, h.1⟩]
  have h2 : ∀ (τ : Sg), incS 8 τ k j = τ k j := by
    intro τ
    by_cases c : k = 84
    · subst c; exact incS_j _ (by omega)
    · exact incS_k _ c _
  induction n with
  | zero => intro set σ; rfl
  | succ n ih =>
    intro set σ
    simp only [thL]
    split
    · rfl
    · split
      · rw [ih, h2, h2, h1]
      · exact (h2 _).trans (h1 _ _)
theorem thC_keep {k j : Nat} (h : k ≠ 110 ∧ (k ≠ 84 ∨ (j ≠ 8 ∧ j ≠ 36))) (σ : Sg) : (thC K V σ).2 k j = σ k j := by
  unfold thC
  split
  · rw [thL_keep h]
    by_cases c : k = 84
    · subst c; exact incS_j _ (by omega)
    · exact incS_k _ c _
  · rfl
theorem Tk.tC (h : Tk σ e K V N S) (V2 : Int → Int) : Tk (thC K V2 σ).2 e K V N S := h.cg (thC_keep (by decide) σ) (thC_keep (by decide) σ) (funext fun _ => thC_keep (by omega) σ) (funext fun _ => thC_keep (by omega) σ) (funext fun _ => thC_keep (by omega) σ) (funext fun _ => thC_keep (by omega) σ)
theorem thL_at {b : Int} : ∀ (m n : Nat) (set : Int) (σ : Sg), m < n → K (σ 84 8) = 22 → TgC K m (σ 84 8 + 1) b → K ((thL K V n set σ).2 84 8) = 22 ∨ (thL K V n set σ).2 84 8 = b := by
  intro m
  induction m with
  | zero =>
    intro n set σ hn hk hg
    obtain ⟨n, rfl⟩ : ∃ q, n = q + 1 := ⟨n - 1, by omega⟩
    obtain ⟨g1, g2⟩ := hg
    simp only [thL]
    split
    · exact Or.inl hk
    · have g3 : ¬ K (σ 84 8 + 1) = 19 := by rw [← g1]; exact g2
      try rw [if_neg g3]
      exact Or.inr (by show incS 8 _ 84 8 = b; rw [incS_s, th1_j _ _ (by decide)]; exact g1.symm)
  | succ m ih =>
    intro n set σ hn hk hg
    obtain ⟨n, rfl⟩ : ∃ q, n = q + 1 := ⟨n - 1, by omega⟩
    obtain ⟨g1, g2, g3⟩ := hg
    simp only [thL]
    split
    · exact Or.inl hk
    · try rw [if_pos g1]
      have e1 : (incS 8 (incS 8 (th1 σ (V (σ 84 8))))) 84 8 = σ 84 8 + 2 := by rw [incS_s, incS_s, th1_j _ _ (by decide)]; omega
      refine ih n _ _ (by omega) ?_ ?_
      · rw [e1]; rw [ad11] at g2; exact g2
      · rw [e1]
        have : σ 84 8 + 1 + 2 = σ 84 8 + 2 + 1 := by omega
        rw [← this]; exact g3
theorem thL_36 : ∀ (n : Nat) (set : Int) (σ : Sg), 0 ≤ σ 84 36 ∧ σ 84 36 ≤ 16 → 0 ≤ (thL K V n set σ).2 84 36 ∧ (thL K V n set σ).2 84 36 ≤ 16 := by
  intro n
  induction n with
  | zero => intro set σ h; exact h
  | succ n ih =>
    intro set σ h
    simp only [thL]
    split
    · exact h
    · rename_i c
      split
      · exact ih _ _ (by rw [incS_j _ (by decide), incS_j _ (by decide)]; exact th1_36 h _ c)
      · show 0 ≤ incS 8 _ 84 36 ∧ incS 8 _ 84 36 ≤ 16
        rw [incS_j _ (by decide)]; exact th1_36 h _ c
theorem thC_36 (h : 0 ≤ σ 84 36 ∧ σ 84 36 ≤ 16) : 0 ≤ (thC K V σ).2 84 36 ∧ (thC K V σ).2 84 36 ≤ 16 := by
  unfold thC
  split
  · exact thL_36 _ _ _ (by rw [incS_j _ (by decide)]; exact h)
  · exact h
theorem TgC_len (h : Tk σ e K V N S) {b : Int} : ∀ (m : Nat) (a : Int), TgC K m a b → 0 ≤ a → a + 2 * m = b
  | 0, a, hg, ha => by rw [hg.1]; omega
  | m + 1, a, ⟨g1, g2, g3⟩, ha => by have := TgC_len h m (a + 2) g3 (by omega); omega
theorem thC_at (h : Tk σ e K V N S) {b : Int} (hg : TgO K (σ 84 8) b) (hb : K b ≠ 25) : K ((thC K V σ).2 84 8) = 22 ∨ (thC K V σ).2 84 8 = b := by
  unfold thC
  rcases hg with ⟨g1, g2⟩ | ⟨g1, g2, m, g3⟩
  · rw [if_neg g1]; exact Or.inr g2.symm
  · rw [if_pos g1]
    have hin := h.in g1 (by decide)
    have hl := TgC_len h m _ g3 (by omega)
    have hbi := h.in (t := b) rfl hb
    have := h.e
    refine thL_at m 1501 0 (incS 8 σ) (by omega) ?_ ?_
    · rw [incS_s]; exact g2
    · rw [incS_s, ad11]; exact g3
theorem ior_i32 (x y : Int) : i32 (ior x y) = ior x y := i32_eq (I32_inr _)
theorem thL_i32 : ∀ (n : Nat) (set : Int) (σ : Sg), i32 set = set → i32 (thL K V n set σ).1 = (thL K V n set σ).1 := by
  intro n
  induction n with
  | zero => intro set σ h; exact h
  | succ n ih =>
    intro set σ h
    simp only [thL]
    split
    · exact i32_n (-1) (by decide)
    · split
      · exact ih _ _ (ior_i32 _ _)
      · exact ior_i32 _ _
theorem thC_i32 (K V : Int → Int) (σ : Sg) : i32 (thC K V σ).1 = (thC K V σ).1 := by
  unfold thC
  split
  · exact thL_i32 _ _ _ (i32_n _ (by decide))
  · exact i32_n 0 (by decide)
set_option maxRecDepth 100000 in
set_option maxHeartbeats 4000000 in
theorem c_X11_isKnown (t : Int) (hT : Tk σ e K V N S) (h15 : 0 ≤ σ 84 15 ∧ σ 84 15 ≤ 16) (h36 : 0 ≤ σ 84 36 ∧ σ 84 36 ≤ 16) (ht : 0 ≤ t ∧ t ≤ e) : Ct l G yX11_isKnown cX11_isKnown 2 (some .boolean) 1 0 0 [.ref (lay G 84), .int (I32 t)] σ (some (.int (I32 (b2i (knR σ (V t)))))) (σ) := by
  refine Ct.of (by decide +kernel) (Nat.le_of_ble_eq_true rfl) (fun f => ?_)
  show AW _ _ _ _ _ _ _ _ _ _ [(0, _), (1, _)] _ _
  refine A_aload_n dX11_isKnown_0 rfl 0 rfl ?_
  refine A_getr fl_X11_39 lk_84 rfl dX11_isKnown_1 ?_
  refine A_aload_n dX11_isKnown_4 rfl 0 rfl ?_
  refine A_geti fl_X11_247 lk_84 rfl dX11_isKnown_5 ?_
  refine A_aload_n dX11_isKnown_8 rfl 0 rfl ?_
  refine A_iload_n dX11_isKnown_9 rfl 1 rfl ?_
  refine A_Va1 mv_X11_265 lk_84 rfl rfl (c_nameT hT t ht) (Nat.le_of_ble_eq_true rfl) (by omega) (by omega) dX11_isKnown_10 ?_
  refine A_Sa3 ms_X11_243 (c_X11_find_93 σ _ _ h15) (Nat.le_of_ble_eq_true rfl) (by omega) (by omega) dX11_isKnown_13 ?_
  refine A_iconst dX11_isKnown_16 ?_
  refine J_icmp_ne (tgt := 40) dX11_isKnown_17 (by decide) (by first | with_reducible exact fnC_i32 (by assumption) | exact hti | with_reducible exact thC_i32 _ _ _ | exact i32_eq (by assumption) | exact i32_eq ⟨by omega, by omega⟩ | with_reducible exact i32_i32 _ | with_reducible exact i32_eq (b2i_inr _) | rfl) (by first | with_reducible exact fnC_i32 (by assumption) | exact hti | with_reducible exact thC_i32 _ _ _ | exact i32_eq (by assumption) | exact i32_eq ⟨by omega, by omega⟩ | with_reducible exact i32_i32 _ | with_reducible exact i32_eq (b2i_inr _) | rfl) (fun h17 => ?_) (fun h17 => ?_)
  · refine A_iconst dX11_isKnown_40 ?_
    refine A_goto (tgt := 45) dX11_isKnown_41 (by decide) ?_
    exact A_zret2 dX11_isKnown_45 (by decide) (by simp only [knR]; first | (rw [decide_eq_true (by omega), b2i_t]; done) | (rw [decide_eq_false (by omega), b2i_f]; done)) (by rfl)
  · refine A_aload_n dX11_isKnown_20 rfl 0 rfl ?_
    refine A_getr fl_X11_90 lk_84 rfl dX11_isKnown_21 ?_
    refine A_aload_n dX11_isKnown_24 rfl 0 rfl ?_
    refine A_geti fl_X11_269 lk_84 rfl dX11_isKnown_25 ?_
    try simp (disch := omega) only [up_k, up_j, up_s]
    refine A_aload_n dX11_isKnown_28 rfl 0 rfl ?_
    refine A_iload_n dX11_isKnown_29 rfl 1 rfl ?_
    refine A_Va1 mv_X11_265 lk_84 rfl rfl (c_nameT hT t ht) (Nat.le_of_ble_eq_true rfl) (by omega) (by omega) dX11_isKnown_30 ?_
    refine A_Sa3 ms_X11_243 (c_X11_find_110 σ _ _ h36) (Nat.le_of_ble_eq_true rfl) (by omega) (by omega) dX11_isKnown_33 ?_
    refine A_iconst dX11_isKnown_36 ?_
    refine J_icmp_eq (tgt := 44) dX11_isKnown_37 (by decide) (by first | with_reducible exact fnC_i32 (by assumption) | exact hti | with_reducible exact thC_i32 _ _ _ | exact i32_eq (by assumption) | exact i32_eq ⟨by omega, by omega⟩ | with_reducible exact i32_i32 _ | with_reducible exact i32_eq (b2i_inr _) | rfl) (by first | with_reducible exact fnC_i32 (by assumption) | exact hti | with_reducible exact thC_i32 _ _ _ | exact i32_eq (by assumption) | exact i32_eq ⟨by omega, by omega⟩ | with_reducible exact i32_i32 _ | with_reducible exact i32_eq (b2i_inr _) | rfl) (fun h37 => ?_) (fun h37 => ?_)
    · refine A_iconst dX11_isKnown_44 ?_
      exact A_zret2 dX11_isKnown_45 (by decide) (by simp only [knR]; first | (rw [decide_eq_true (by omega), b2i_t]; done) | (rw [decide_eq_false (by omega), b2i_f]; done)) (by rfl)
    · refine A_iconst dX11_isKnown_40 ?_
      refine A_goto (tgt := 45) dX11_isKnown_41 (by decide) ?_
      exact A_zret2 dX11_isKnown_45 (by decide) (by simp only [knR]; first | (rw [decide_eq_true (by omega), b2i_t]; done) | (rw [decide_eq_false (by omega), b2i_f]; done)) (by rfl)
set_option maxRecDepth 100000 in
set_option maxHeartbeats 4000000 in
theorem w_X11_tagsHere {f : Fm} (e : Int) (K V N S : Int → Int) (b : Int) : ∀ (m n : Nat) (set : Int) (σ : Sg) (r : Option Value) (σ1 : Sg), Tk σ e K V N S → 0 ≤ σ 84 36 ∧ σ 84 36 ≤ 16 → K (σ 84 8) = 22 → TgC K m (σ 84 8 + 1) b → m < n → r = some (.int (I32 (thL K V n set σ).1)) → σ1 = (thL K V n set σ).2 → AW l G f (RX11, cX11_tagsHere, 5, (some .int)) (7, 0, 0) (QT G f 0 0 r σ1) [] 0 0 13 [(1, .int (I32 set)), (0, .ref (lay G 84))] [] σ := by
  intro m
  induction m using Nat.strongRecOn with | _ m ih =>
  intro n set σ r σ1 hT h36 hk hg hn hr hs
  obtain ⟨n, rfl⟩ : ∃ q, n = q + 1 := ⟨n - 1, by omega⟩
  have ha := hT.in hk (by decide)
  have hthi := thI_in h36 (V (σ 84 8))
  have hti : i32 (thI σ (V (σ 84 8))) = thI σ (V (σ 84 8)) := i32_n _ (by omega)
  refine A_aload_n dX11_tagsHere_13 rfl 1 rfl ?_
  refine A_aload_n dX11_tagsHere_14 rfl 1 rfl ?_
  refine A_geti fl_X11_144 lk_84 rfl dX11_tagsHere_15 ?_
  try simp (disch := omega) only [up_k, up_j, up_s, incS_s, incS_k, incS_j, thC_keep, ad11, ad21, ad31, ad41, ad12, nc0, nc1, nc2, nc3, nc4, nc5, nc6, nc7, nc8, nc9, nc10, nc11, nc12, nc13, nc14, nc15, nc16, nc17, nc18, nc19, nc20, nc21]
  refine A_Va1 mv_X11_265 lk_84 rfl rfl (c_nameT hT _ ⟨by omega, by omega⟩) (Nat.le_of_ble_eq_true rfl) (by omega) (by omega) dX11_tagsHere_18 ?_
  try simp (disch := omega) only [incS_s, incS_k, incS_j, thC_keep, ad11, ad21, ad31, ad41, ad12, nc0, nc1, nc2, nc3, nc4, nc5, nc6, nc7, nc8, nc9, nc10, nc11, nc12, nc13, nc14, nc15, nc16, nc17, nc18, nc19, nc20, nc21]
  refine A_lstore_n (lv2 := [(2, _), (1, _), (0, _)]) dX11_tagsHere_21 rfl (by decide) rfl ?_
  refine A_aload_n dX11_tagsHere_22 rfl 2 rfl ?_
  refine A_getr fl_X11_90 lk_84 rfl dX11_tagsHere_23 ?_
  refine A_aload_n dX11_tagsHere_26 rfl 2 rfl ?_
  refine A_geti fl_X11_269 lk_84 rfl dX11_tagsHere_27 ?_
  try simp (disch := omega) only [up_k, up_j, up_s, incS_s, incS_k, incS_j, thC_keep, ad11, ad21, ad31, ad41, ad12, nc0, nc1, nc2, nc3, nc4, nc5, nc6, nc7, nc8, nc9, nc10, nc11, nc12, nc13, nc14, nc15, nc16, nc17, nc18, nc19, nc20, nc21]
  refine A_lload_n dX11_tagsHere_30 rfl 0 rfl ?_
  refine A_Sa3 ms_X11_243 (c_X11_find_110 σ _ _ h36) (Nat.le_of_ble_eq_true rfl) (by omega) (by omega) dX11_tagsHere_31 ?_
  try simp (disch := omega) only [incS_s, incS_k, incS_j, thC_keep, ad11, ad21, ad31, ad41, ad12, nc0, nc1, nc2, nc3, nc4, nc5, nc6, nc7, nc8, nc9, nc10, nc11, nc12, nc13, nc14, nc15, nc16, nc17, nc18, nc19, nc20, nc21]
  rw [show fnC σ 110 (σ 84 36) (V (σ 84 8)) = thI σ (V (σ 84 8)) from rfl]
  refine A_istore (lv2 := [(4, _), (2, _), (1, _), (0, _)]) dX11_tagsHere_34 (by decide) rfl ?_
  refine A_iload dX11_tagsHere_36 0 rfl ?_
  refine A_iconst dX11_tagsHere_38 ?_
  refine J_icmp_ne (tgt := 53) dX11_tagsHere_39 (by decide) (by first | with_reducible exact fnC_i32 (by assumption) | exact hti | with_reducible exact thC_i32 _ _ _ | exact i32_eq (by assumption) | exact i32_eq ⟨by omega, by omega⟩ | with_reducible exact i32_i32 _ | with_reducible exact i32_eq (b2i_inr _) | rfl) (by first | with_reducible exact fnC_i32 (by assumption) | exact hti | with_reducible exact thC_i32 _ _ _ | exact i32_eq (by assumption) | exact i32_eq ⟨by omega, by omega⟩ | with_reducible exact i32_i32 _ | with_reducible exact i32_eq (b2i_inr _) | rfl) (fun h39 => ?_) (fun h39 => ?_)
  · refine A_iload dX11_tagsHere_53 0 rfl ?_
    refine A_iconst dX11_tagsHere_55 ?_
    refine J_icmp_ne (tgt := 85) dX11_tagsHere_56 (by decide) (by first | with_reducible exact fnC_i32 (by assumption) | exact hti | with_reducible exact thC_i32 _ _ _ | exact i32_eq (by assumption) | exact i32_eq ⟨by omega, by omega⟩ | with_reducible exact i32_i32 _ | with_reducible exact i32_eq (b2i_inr _) | rfl) (by first | with_reducible exact fnC_i32 (by assumption) | exact hti | with_reducible exact thC_i32 _ _ _ | exact i32_eq (by assumption) | exact i32_eq ⟨by omega, by omega⟩ | with_reducible exact i32_i32 _ | with_reducible exact i32_eq (b2i_inr _) | rfl) (fun h56 => ?_) (fun h56 => ?_)
    · have e1 : th1 σ (V (σ 84 8)) = σ := if_neg h39
      have e2 : th2 σ (V (σ 84 8)) = thI σ (V (σ 84 8)) := if_neg h39
      have hc : ¬ (thI σ (V (σ 84 8)) = -1 ∧ σ 84 36 = 16) := fun z => h39 z.1
      have hX1 : Tk σ e K V N S := by have := hT.t1 (V (σ 84 8)); rw [e1] at this; exact this
      have hX36 : 0 ≤ σ 84 36 ∧ σ 84 36 ≤ 16 := by have := th1_36 h36 (V (σ 84 8)) hc; rw [e1] at this; exact this
      have hX8 : σ 84 8 = σ 84 8 := (congrFun (congrFun e1 84) 8).symm.trans (th1_j _ _ (by decide))
      refine A_iload_n dX11_tagsHere_85 rfl 2 rfl ?_
      refine A_iconst dX11_tagsHere_86 ?_
      refine A_iload dX11_tagsHere_87 0 rfl ?_
      refine A_ishl dX11_tagsHere_89 ?_
      refine A_ior dX11_tagsHere_90 ?_
      refine A_istore_n (lv2 := [(1, _), (4, _), (2, _), (0, _)]) dX11_tagsHere_91 rfl (by decide) rfl ?_
      refine A_inc fl_X11_144 lk_84 rfl 3 rfl dX11_tagsHere_92 dX11_tagsHere_93 dX11_tagsHere_94 dX11_tagsHere_97 dX11_tagsHere_98 dX11_tagsHere_99 ?_
      refine A_aload_n dX11_tagsHere_102 rfl 3 rfl ?_
      refine A_ldcs (i := 19) (by decide +kernel) dX11_tagsHere_103 ?_
      refine A_Va1 mv_X11_160 lk_84 rfl rfl (c_takesT (hX1.i (by decide)) 19 (by rw [incS_s, hX8]; omega) (by decide)) (Nat.le_of_ble_eq_true rfl) (by omega) (by omega) dX11_tagsHere_105 ?_
      try simp (disch := omega) only [incS_s, incS_k, incS_j, thC_keep, ad11, ad21, ad31, ad41, ad12, nc0, nc1, nc2, nc3, nc4, nc5, nc6, nc7, nc8, nc9, nc10, nc11, nc12, nc13, nc14, nc15, nc16, nc17, nc18, nc19, nc20, nc21]
      try rw [hX8]
      refine A_ifne_b (tgt := 13) dX11_tagsHere_108 (by decide) (fun h108 => ?_) (fun h108 => ?_)
      · rw [tkS_t (by rw [incS_s, hX8]; exact of_decide_eq_true h108)]
        refine A_lv [0, 3] rfl ?_
        have hk8 : K (σ 84 8 + 1) = 19 := of_decide_eq_true h108
        rcases m with _ | m
        · exact absurd hk8 (by rw [← hg.1]; exact hg.2)
        obtain ⟨g1, g2, g3⟩ := hg
        rw [show thL K V (n + 1) set σ = thL K V n _ _ from by simp only [thL]; rw [if_neg hc, if_pos hk8, e1, e2]] at hr hs
        refine ih m (by omega) n _ _ r σ1 ((hX1.i (by decide)).i (by decide)) ?_ ?_ ?_ (by omega) hr hs
        · rw [incS_j _ (by decide), incS_j _ (by decide)]; exact hX36
        · rw [incS_s, incS_s, hX8, ad11]; rw [ad11] at g2; exact g2
        · rw [incS_s, incS_s, hX8, ad11]; exact g3
      · rw [tkS_f (by rw [incS_s, hX8]; exact of_decide_eq_false h108)]
        refine A_iload_n dX11_tagsHere_111 rfl 0 rfl ?_
        exact A_iret dX11_tagsHere_112 (by have hk8 : ¬ K (σ 84 8 + 1) = 19 := of_decide_eq_false h108; rw [hr]; simp only [thL]; rw [if_neg hc, if_neg hk8, e2]) (by have hk8 : ¬ K (σ 84 8 + 1) = 19 := of_decide_eq_false h108; rw [hs]; simp only [thL]; rw [if_neg hc, if_neg hk8, e1])
    · exact absurd h56 h39
      --end
  · refine A_aload_n dX11_tagsHere_42 rfl 3 rfl ?_
    refine A_geti fl_X11_269 lk_84 rfl dX11_tagsHere_43 ?_
    try simp (disch := omega) only [up_k, up_j, up_s, incS_s, incS_k, incS_j, thC_keep, ad11, ad21, ad31, ad41, ad12, nc0, nc1, nc2, nc3, nc4, nc5, nc6, nc7, nc8, nc9, nc10, nc11, nc12, nc13, nc14, nc15, nc16, nc17, nc18, nc19, nc20, nc21]
    refine A_bipush dX11_tagsHere_46 (by decide +kernel) ?_
    refine J_icmp_ne (tgt := 53) dX11_tagsHere_48 (by decide) (by first | with_reducible exact fnC_i32 (by assumption) | exact hti | with_reducible exact thC_i32 _ _ _ | exact i32_eq (by assumption) | exact i32_eq ⟨by omega, by omega⟩ | with_reducible exact i32_i32 _ | with_reducible exact i32_eq (b2i_inr _) | rfl) (by first | with_reducible exact fnC_i32 (by assumption) | exact hti | with_reducible exact thC_i32 _ _ _ | exact i32_eq (by assumption) | exact i32_eq ⟨by omega, by omega⟩ | with_reducible exact i32_i32 _ | with_reducible exact i32_eq (b2i_inr _) | rfl) (fun h48 => ?_) (fun h48 => ?_)
    · refine A_iload dX11_tagsHere_53 0 rfl ?_
      refine A_iconst dX11_tagsHere_55 ?_
      refine J_icmp_ne (tgt := 85) dX11_tagsHere_56 (by decide) (by first | with_reducible exact fnC_i32 (by assumption) | exact hti | with_reducible exact thC_i32 _ _ _ | exact i32_eq (by assumption) | exact i32_eq ⟨by omega, by omega⟩ | with_reducible exact i32_i32 _ | with_reducible exact i32_eq (b2i_inr _) | rfl) (by first | with_reducible exact fnC_i32 (by assumption) | exact hti | with_reducible exact thC_i32 _ _ _ | exact i32_eq (by assumption) | exact i32_eq ⟨by omega, by omega⟩ | with_reducible exact i32_i32 _ | with_reducible exact i32_eq (b2i_inr _) | rfl) (fun h56 => ?_) (fun h56 => ?_)
      · exact absurd h39 h56
        --end
      · have e1 : th1 σ (V (σ 84 8)) = (incS 36 (up σ 110 (σ 84 36).toNat (V (σ 84 8)))) := if_pos h39
        have e2 : th2 σ (V (σ 84 8)) = σ 84 36 := if_pos h39
        have hc : ¬ (thI σ (V (σ 84 8)) = -1 ∧ σ 84 36 = 16) := fun z => h48 z.2
        have hX1 : Tk (incS 36 (up σ 110 (σ 84 36).toNat (V (σ 84 8)))) e K V N S := by have := hT.t1 (V (σ 84 8)); rw [e1] at this; exact this
        have hX36 : 0 ≤ (incS 36 (up σ 110 (σ 84 36).toNat (V (σ 84 8)))) 84 36 ∧ (incS 36 (up σ 110 (σ 84 36).toNat (V (σ 84 8)))) 84 36 ≤ 16 := by have := th1_36 h36 (V (σ 84 8)) hc; rw [e1] at this; exact this
        have hX8 : (incS 36 (up σ 110 (σ 84 36).toNat (V (σ 84 8)))) 84 8 = σ 84 8 := (congrFun (congrFun e1 84) 8).symm.trans (th1_j _ _ (by decide))
        refine A_aload_n dX11_tagsHere_59 rfl 3 rfl ?_
        refine A_geti fl_X11_269 lk_84 rfl dX11_tagsHere_60 ?_
        try simp (disch := omega) only [up_k, up_j, up_s, incS_s, incS_k, incS_j, thC_keep, ad11, ad21, ad31, ad41, ad12, nc0, nc1, nc2, nc3, nc4, nc5, nc6, nc7, nc8, nc9, nc10, nc11, nc12, nc13, nc14, nc15, nc16, nc17, nc18, nc19, nc20, nc21]
        refine A_istore (lv2 := [(4, _), (2, _), (1, _), (0, _)]) dX11_tagsHere_63 (by decide) rfl ?_
        refine A_aload_n dX11_tagsHere_65 rfl 3 rfl ?_
        refine A_getr fl_X11_90 lk_84 rfl dX11_tagsHere_66 ?_
        refine A_aload_n dX11_tagsHere_69 rfl 3 rfl ?_
        refine A_geti fl_X11_269 lk_84 rfl dX11_tagsHere_70 ?_
        try simp (disch := omega) only [up_k, up_j, up_s, incS_s, incS_k, incS_j, thC_keep, ad11, ad21, ad31, ad41, ad12, nc0, nc1, nc2, nc3, nc4, nc5, nc6, nc7, nc8, nc9, nc10, nc11, nc12, nc13, nc14, nc15, nc16, nc17, nc18, nc19, nc20, nc21]
        refine A_lload_n dX11_tagsHere_73 rfl 1 rfl ?_
        refine J_last lk_110 (by first | with_reducible exact fnC_i32 (by assumption) | exact hti | with_reducible exact thC_i32 _ _ _ | exact i32_eq (by assumption) | exact i32_eq ⟨by omega, by omega⟩ | with_reducible exact i32_i32 _ | with_reducible exact i32_eq (b2i_inr _) | rfl) (by omega) (by omega) (by decide) dX11_tagsHere_74 ?_
        refine A_inc fl_X11_269 lk_84 rfl 3 rfl dX11_tagsHere_75 dX11_tagsHere_76 dX11_tagsHere_77 dX11_tagsHere_80 dX11_tagsHere_81 dX11_tagsHere_82 ?_
        refine A_iload_n dX11_tagsHere_85 rfl 2 rfl ?_
        refine A_iconst dX11_tagsHere_86 ?_
        refine A_iload dX11_tagsHere_87 0 rfl ?_
        refine A_ishl dX11_tagsHere_89 ?_
        refine A_ior dX11_tagsHere_90 ?_
        refine A_istore_n (lv2 := [(1, _), (4, _), (2, _), (0, _)]) dX11_tagsHere_91 rfl (by decide) rfl ?_
        refine A_inc fl_X11_144 lk_84 rfl 3 rfl dX11_tagsHere_92 dX11_tagsHere_93 dX11_tagsHere_94 dX11_tagsHere_97 dX11_tagsHere_98 dX11_tagsHere_99 ?_
        refine A_aload_n dX11_tagsHere_102 rfl 3 rfl ?_
        refine A_ldcs (i := 19) (by decide +kernel) dX11_tagsHere_103 ?_
        refine A_Va1 mv_X11_160 lk_84 rfl rfl (c_takesT (hX1.i (by decide)) 19 (by rw [incS_s, hX8]; omega) (by decide)) (Nat.le_of_ble_eq_true rfl) (by omega) (by omega) dX11_tagsHere_105 ?_
        try simp (disch := omega) only [incS_s, incS_k, incS_j, thC_keep, ad11, ad21, ad31, ad41, ad12, nc0, nc1, nc2, nc3, nc4, nc5, nc6, nc7, nc8, nc9, nc10, nc11, nc12, nc13, nc14, nc15, nc16, nc17, nc18, nc19, nc20, nc21]
        try rw [hX8]
        refine A_ifne_b (tgt := 13) dX11_tagsHere_108 (by decide) (fun h108 => ?_) (fun h108 => ?_)
        · rw [tkS_t (by rw [incS_s, hX8]; exact of_decide_eq_true h108)]
          refine A_lv [0, 3] rfl ?_
          have hk8 : K (σ 84 8 + 1) = 19 := of_decide_eq_true h108
          rcases m with _ | m
          · exact absurd hk8 (by rw [← hg.1]; exact hg.2)
          obtain ⟨g1, g2, g3⟩ := hg
          rw [show thL K V (n + 1) set σ = thL K V n _ _ from by simp only [thL]; rw [if_neg hc, if_pos hk8, e1, e2]] at hr hs
          refine ih m (by omega) n _ _ r σ1 ((hX1.i (by decide)).i (by decide)) ?_ ?_ ?_ (by omega) hr hs
          · rw [incS_j _ (by decide), incS_j _ (by decide)]; exact hX36
          · rw [incS_s, incS_s, hX8, ad11]; rw [ad11] at g2; exact g2
          · rw [incS_s, incS_s, hX8, ad11]; exact g3
        · rw [tkS_f (by rw [incS_s, hX8]; exact of_decide_eq_false h108)]
          refine A_iload_n dX11_tagsHere_111 rfl 0 rfl ?_
          exact A_iret dX11_tagsHere_112 (by have hk8 : ¬ K (σ 84 8 + 1) = 19 := of_decide_eq_false h108; rw [hr]; simp only [thL]; rw [if_neg hc, if_neg hk8, e2]) (by have hk8 : ¬ K (σ 84 8 + 1) = 19 := of_decide_eq_false h108; rw [hs]; simp only [thL]; rw [if_neg hc, if_neg hk8, e1])
    · refine A_iconst dX11_tagsHere_51 ?_
      exact A_iret dX11_tagsHere_52 (by rw [hr]; simp only [thL]; rw [if_pos ⟨h39, h48⟩]) (by rw [hs]; simp only [thL]; rw [if_pos ⟨h39, h48⟩])
set_option maxRecDepth 100000 in
set_option maxHeartbeats 4000000 in
theorem c_X11_tagsHere (b : Int) (hT : Tk σ e K V N S) (h36 : 0 ≤ σ 84 36 ∧ σ 84 36 ≤ 16) (ha : 0 ≤ σ 84 8 ∧ σ 84 8 ≤ e) (hg : TgO K (σ 84 8) b) (hb : K b ≠ 25) : Ct l G yX11_tagsHere cX11_tagsHere 5 (some .int) 7 0 0 [.ref (lay G 84)] σ (some (.int (I32 (thC K V σ).1))) ((thC K V σ).2) := by
  refine Ct.of (by decide +kernel) (Nat.le_of_ble_eq_true rfl) (fun f => ?_)
  show AW _ _ _ _ _ _ _ _ _ _ [(0, _)] _ _
  refine A_iconst dX11_tagsHere_0 ?_
  refine A_istore_n (lv2 := [(1, _), (0, _)]) dX11_tagsHere_1 rfl (by decide) rfl ?_
  refine A_aload_n dX11_tagsHere_2 rfl 1 rfl ?_
  refine A_ldcs (i := 3) (by decide +kernel) dX11_tagsHere_3 ?_
  refine A_Va1 mv_X11_160 lk_84 rfl rfl (c_takesT hT 3 ha (by decide)) (Nat.le_of_ble_eq_true rfl) (by omega) (by omega) dX11_tagsHere_5 ?_
  try simp (disch := omega) only [incS_s, incS_k, incS_j, thC_keep, ad11, ad21, ad31, ad41, ad12, nc0, nc1, nc2, nc3, nc4, nc5, nc6, nc7, nc8, nc9, nc10, nc11, nc12, nc13, nc14, nc15, nc16, nc17, nc18, nc19, nc20, nc21]
  refine A_ifne_b (tgt := 13) dX11_tagsHere_8 (by decide) (fun h8 => ?_) (fun h8 => ?_)
  · rw [tkS_t (of_decide_eq_true h8)]
    refine A_lv [0, 1] rfl ?_
    have hk8 : K (σ 84 8) = 3 := of_decide_eq_true h8
    obtain ⟨g2, m, g3⟩ : K (σ 84 8 + 1) = 22 ∧ ∃ n, TgC K n (σ 84 8 + 2) b := by
      rcases hg with z | z
      · exact absurd hk8 z.1
      · exact z.2
    have hl := TgC_len hT m _ g3 (by omega)
    have hbi := hT.in (t := b) rfl hb
    have he := hT.e
    refine w_X11_tagsHere e K V N S b m 1501 0 (incS 8 σ) _ _ (hT.i (by decide)) ?_ ?_ ?_ (by omega) ?_ ?_
    · rw [incS_j _ (by decide)]; exact h36
    · rw [incS_s]; exact g2
    · rw [incS_s, ad11]; exact g3
    · unfold thC; rw [if_pos hk8]
    · unfold thC; rw [if_pos hk8]
  · rw [tkS_f (of_decide_eq_false h8)]
    refine A_iload_n dX11_tagsHere_11 rfl 0 rfl ?_
    exact A_iret dX11_tagsHere_12 (by unfold thC; rw [if_neg (of_decide_eq_false h8)]) (by unfold thC; rw [if_neg (of_decide_eq_false h8)])
set_option maxRecDepth 100000 in
set_option maxHeartbeats 4000000 in
theorem c_X11_food (first b : Int) (hT : Tk σ e K V N S) (hC : Cn σ) (hfi : 0 ≤ first ∧ first ≤ e) (hg : FdO K (σ 84 8) b) : Ct l G yX11_food cX11_food 7 (some .int) 8 0 0 [.ref (lay G 84), .int (I32 first)] σ (some (.int (I32 (foM K V N S first σ).1))) ((foM K V N S first σ).2) := by
  obtain ⟨g1, g2, g3, g4⟩ := hg
  obtain ⟨hC1, hC2, hC3, hC4, hC5, hC6⟩ := id hC
  have ha := hT.in g1 (by decide)
  have ha1 := hT.in g2 (by decide)
  have hN1 := hT.2.2.2.1 _ g2
  have hbi := hT.in g4 (by decide)
  refine Ct.of (by decide +kernel) (Nat.le_of_ble_eq_true rfl) (fun f => ?_)
  show AW _ _ _ _ _ _ _ _ _ _ [(0, _), (1, _)] _ _
  refine A_aload_n dX11_food_0 rfl 0 rfl ?_
  refine A_geti fl_X11_240 lk_84 rfl dX11_food_1 ?_
  try simp (disch := omega) only [up_k, up_j, up_s, incS_s, incS_k, incS_j, thC_keep, ad11, ad21, ad31, ad41, ad12, nc0, nc1, nc2, nc3, nc4, nc5, nc6, nc7, nc8, nc9, nc10, nc11, nc12, nc13, nc14, nc15, nc16, nc17, nc18, nc19, nc20, nc21]
  refine A_bipush dX11_food_4 (by decide +kernel) ?_
  refine J_icmp_ne (tgt := 16) dX11_food_6 (by decide) (by first | with_reducible exact fnC_i32 (by assumption) | exact hti | with_reducible exact thC_i32 _ _ _ | exact i32_eq (by assumption) | exact i32_eq ⟨by omega, by omega⟩ | with_reducible exact i32_i32 _ | with_reducible exact i32_eq (b2i_inr _) | rfl) (by first | with_reducible exact fnC_i32 (by assumption) | exact hti | with_reducible exact thC_i32 _ _ _ | exact i32_eq (by assumption) | exact i32_eq ⟨by omega, by omega⟩ | with_reducible exact i32_i32 _ | with_reducible exact i32_eq (b2i_inr _) | rfl) (fun h6 => ?_) (fun h6 => ?_)
  · refine A_aload_n dX11_food_16 rfl 0 rfl ?_
    refine A_aload_n dX11_food_17 rfl 0 rfl ?_
    refine A_aload_n dX11_food_18 rfl 0 rfl ?_
    refine A_geti fl_X11_144 lk_84 rfl dX11_food_19 ?_
    try simp (disch := omega) only [up_k, up_j, up_s, incS_s, incS_k, incS_j, thC_keep, ad11, ad21, ad31, ad41, ad12, nc0, nc1, nc2, nc3, nc4, nc5, nc6, nc7, nc8, nc9, nc10, nc11, nc12, nc13, nc14, nc15, nc16, nc17, nc18, nc19, nc20, nc21]
    refine A_Va1 mv_X11_265 lk_84 rfl rfl (c_nameT hT _ ⟨by omega, by omega⟩) (Nat.le_of_ble_eq_true rfl) (by omega) (by omega) dX11_food_22 ?_
    try simp (disch := omega) only [incS_s, incS_k, incS_j, thC_keep, ad11, ad21, ad31, ad41, ad12, nc0, nc1, nc2, nc3, nc4, nc5, nc6, nc7, nc8, nc9, nc10, nc11, nc12, nc13, nc14, nc15, nc16, nc17, nc18, nc19, nc20, nc21]
    refine A_Va1 mv_X11_272 lk_84 rfl rfl (c_X11_isTaken σ _ hC1 hC2 hC3) (Nat.le_of_ble_eq_true rfl) (by omega) (by omega) dX11_food_25 ?_
    try simp (disch := omega) only [incS_s, incS_k, incS_j, thC_keep, ad11, ad21, ad31, ad41, ad12, nc0, nc1, nc2, nc3, nc4, nc5, nc6, nc7, nc8, nc9, nc10, nc11, nc12, nc13, nc14, nc15, nc16, nc17, nc18, nc19, nc20, nc21]
    refine A_ifeq_b (tgt := 41) dX11_food_28 (by decide) (fun h28 => ?_) (fun h28 => ?_)
    · refine A_aload_n dX11_food_41 rfl 0 rfl ?_
      refine A_aload_n dX11_food_42 rfl 0 rfl ?_
      refine A_geti fl_X11_144 lk_84 rfl dX11_food_43 ?_
      try simp (disch := omega) only [up_k, up_j, up_s, incS_s, incS_k, incS_j, thC_keep, ad11, ad21, ad31, ad41, ad12, nc0, nc1, nc2, nc3, nc4, nc5, nc6, nc7, nc8, nc9, nc10, nc11, nc12, nc13, nc14, nc15, nc16, nc17, nc18, nc19, nc20, nc21]
      refine A_Va1 mv_X11_265 lk_84 rfl rfl (c_nameT hT _ ⟨by omega, by omega⟩) (Nat.le_of_ble_eq_true rfl) (by omega) (by omega) dX11_food_46 ?_
      try simp (disch := omega) only [incS_s, incS_k, incS_j, thC_keep, ad11, ad21, ad31, ad41, ad12, nc0, nc1, nc2, nc3, nc4, nc5, nc6, nc7, nc8, nc9, nc10, nc11, nc12, nc13, nc14, nc15, nc16, nc17, nc18, nc19, nc20, nc21]
      refine A_lstore_n (lv2 := [(2, _), (0, _), (1, _)]) dX11_food_49 rfl (by decide) rfl ?_
      refine A_inc fl_X11_144 lk_84 rfl 1 rfl dX11_food_50 dX11_food_51 dX11_food_52 dX11_food_55 dX11_food_56 dX11_food_57 ?_
      refine A_aload_n dX11_food_60 rfl 1 rfl ?_
      refine A_aload_n dX11_food_61 rfl 1 rfl ?_
      refine A_geti fl_X11_144 lk_84 rfl dX11_food_62 ?_
      try simp (disch := omega) only [up_k, up_j, up_s, incS_s, incS_k, incS_j, thC_keep, ad11, ad21, ad31, ad41, ad12, nc0, nc1, nc2, nc3, nc4, nc5, nc6, nc7, nc8, nc9, nc10, nc11, nc12, nc13, nc14, nc15, nc16, nc17, nc18, nc19, nc20, nc21]
      refine A_Va1 mv_X11_276 lk_84 rfl rfl (c_numT (by repeat (first | exact hT | refine Tk.i (by decide) ?_ | refine Tk.tC ?_ _ | refine Tk.x (by decide) ?_ | refine Tk.o (by decide) ?_)) _ ⟨by omega, by omega⟩) (Nat.le_of_ble_eq_true rfl) (by omega) (by omega) dX11_food_65 ?_
      try simp (disch := omega) only [incS_s, incS_k, incS_j, thC_keep, ad11, ad21, ad31, ad41, ad12, nc0, nc1, nc2, nc3, nc4, nc5, nc6, nc7, nc8, nc9, nc10, nc11, nc12, nc13, nc14, nc15, nc16, nc17, nc18, nc19, nc20, nc21]
      refine A_sipush dX11_food_68 (by decide +kernel) ?_
      refine J_icmp_le (tgt := 84) dX11_food_71 (by decide) (by first | with_reducible exact fnC_i32 (by assumption) | exact hti | with_reducible exact thC_i32 _ _ _ | exact i32_eq (by assumption) | exact i32_eq ⟨by omega, by omega⟩ | with_reducible exact i32_i32 _ | with_reducible exact i32_eq (b2i_inr _) | rfl) (by first | with_reducible exact fnC_i32 (by assumption) | exact hti | with_reducible exact thC_i32 _ _ _ | exact i32_eq (by assumption) | exact i32_eq ⟨by omega, by omega⟩ | with_reducible exact i32_i32 _ | with_reducible exact i32_eq (b2i_inr _) | rfl) (fun h71 => ?_) (fun h71 => ?_)
      · refine A_aload_n dX11_food_84 rfl 1 rfl ?_
        refine A_aload_n dX11_food_85 rfl 1 rfl ?_
        refine A_geti fl_X11_144 lk_84 rfl dX11_food_86 ?_
        try simp (disch := omega) only [up_k, up_j, up_s, incS_s, incS_k, incS_j, thC_keep, ad11, ad21, ad31, ad41, ad12, nc0, nc1, nc2, nc3, nc4, nc5, nc6, nc7, nc8, nc9, nc10, nc11, nc12, nc13, nc14, nc15, nc16, nc17, nc18, nc19, nc20, nc21]
        refine A_Va1 mv_X11_276 lk_84 rfl rfl (c_numT (by repeat (first | exact hT | refine Tk.i (by decide) ?_ | refine Tk.tC ?_ _ | refine Tk.x (by decide) ?_ | refine Tk.o (by decide) ?_)) _ ⟨by omega, by omega⟩) (Nat.le_of_ble_eq_true rfl) (by omega) (by omega) dX11_food_89 ?_
        try simp (disch := omega) only [incS_s, incS_k, incS_j, thC_keep, ad11, ad21, ad31, ad41, ad12, nc0, nc1, nc2, nc3, nc4, nc5, nc6, nc7, nc8, nc9, nc10, nc11, nc12, nc13, nc14, nc15, nc16, nc17, nc18, nc19, nc20, nc21]
        refine A_istore (lv2 := [(4, _), (2, _), (0, _), (1, _)]) dX11_food_92 (by decide) rfl ?_
        refine A_inc fl_X11_144 lk_84 rfl 2 rfl dX11_food_94 dX11_food_95 dX11_food_96 dX11_food_99 dX11_food_100 dX11_food_101 ?_
        refine A_iconst dX11_food_104 ?_
        refine A_istore (lv2 := [(5, _), (4, _), (2, _), (0, _), (1, _)]) dX11_food_105 (by decide) rfl ?_
        refine A_aload_n dX11_food_107 rfl 3 rfl ?_
        refine A_ldcs (i := 16) (by decide +kernel) dX11_food_108 ?_
        refine A_Va1 mv_X11_160 lk_84 rfl rfl (c_takesT (by repeat (first | exact hT | refine Tk.i (by decide) ?_ | refine Tk.tC ?_ _ | refine Tk.x (by decide) ?_ | refine Tk.o (by decide) ?_)) 16 (by simp (disch := omega) only [up_k, up_j, up_s, incS_s, incS_k, incS_j, thC_keep, ad11, ad21, ad31, ad41, ad12, nc0, nc1, nc2, nc3, nc4, nc5, nc6, nc7, nc8, nc9, nc10, nc11, nc12, nc13, nc14, nc15, nc16, nc17, nc18, nc19, nc20, nc21]; omega) (by decide)) (Nat.le_of_ble_eq_true rfl) (by omega) (by omega) dX11_food_110 ?_
        try simp (disch := omega) only [incS_s, incS_k, incS_j, thC_keep, ad11, ad21, ad31, ad41, ad12, nc0, nc1, nc2, nc3, nc4, nc5, nc6, nc7, nc8, nc9, nc10, nc11, nc12, nc13, nc14, nc15, nc16, nc17, nc18, nc19, nc20, nc21]
        refine A_ifeq_b (tgt := 160) dX11_food_113 (by decide) (fun h113 => ?_) (fun h113 => ?_)
        · have hk16 : ¬ K (σ 84 8 + 2) = 16 := of_decide_eq_false h113
          have g7 : TgO K (σ 84 8 + 2) b := by
            rcases g3 with z | z
            · exact absurd z.1 hk16
            · exact z.2
          rw [tkS_f (by simp (disch := omega) only [up_k, up_j, up_s, incS_s, incS_k, incS_j, thC_keep, ad11, ad21, ad31, ad41, ad12, nc0, nc1, nc2, nc3, nc4, nc5, nc6, nc7, nc8, nc9, nc10, nc11, nc12, nc13, nc14, nc15, nc16, nc17, nc18, nc19, nc20, nc21]; exact hk16)]
          refine A_aload_n dX11_food_160 rfl 3 rfl ?_
          refine A_Va0 mv_X11_279 lk_84 rfl rfl (c_X11_tagsHere b (by repeat (first | exact hT | refine Tk.i (by decide) ?_ | refine Tk.tC ?_ _ | refine Tk.x (by decide) ?_ | refine Tk.o (by decide) ?_)) (by simp (disch := omega) only [up_k, up_j, up_s, incS_s, incS_k, incS_j, thC_keep, ad11, ad21, ad31, ad41, ad12, nc0, nc1, nc2, nc3, nc4, nc5, nc6, nc7, nc8, nc9, nc10, nc11, nc12, nc13, nc14, nc15, nc16, nc17, nc18, nc19, nc20, nc21]; exact hC6) (by simp (disch := omega) only [up_k, up_j, up_s, incS_s, incS_k, incS_j, thC_keep, ad11, ad21, ad31, ad41, ad12, nc0, nc1, nc2, nc3, nc4, nc5, nc6, nc7, nc8, nc9, nc10, nc11, nc12, nc13, nc14, nc15, nc16, nc17, nc18, nc19, nc20, nc21]; omega) (by simp (disch := omega) only [up_k, up_j, up_s, incS_s, incS_k, incS_j, thC_keep, ad11, ad21, ad31, ad41, ad12, nc0, nc1, nc2, nc3, nc4, nc5, nc6, nc7, nc8, nc9, nc10, nc11, nc12, nc13, nc14, nc15, nc16, nc17, nc18, nc19, nc20, nc21]; exact g7) (by rw [g4]; decide)) (Nat.le_of_ble_eq_true rfl) (by omega) (by omega) dX11_food_161 ?_
          try simp (disch := omega) only [incS_s, incS_k, incS_j, thC_keep, ad11, ad21, ad31, ad41, ad12, nc0, nc1, nc2, nc3, nc4, nc5, nc6, nc7, nc8, nc9, nc10, nc11, nc12, nc13, nc14, nc15, nc16, nc17, nc18, nc19, nc20, nc21]
          have hat := @thC_at (incS 8 (incS 8 σ)) _ K V N S (by repeat (first | exact hT | refine Tk.i (by decide) ?_ | refine Tk.tC ?_ _ | refine Tk.x (by decide) ?_ | refine Tk.o (by decide) ?_)) b (by simp (disch := omega) only [up_k, up_j, up_s, incS_s, incS_k, incS_j, thC_keep, ad11, ad21, ad31, ad41, ad12, nc0, nc1, nc2, nc3, nc4, nc5, nc6, nc7, nc8, nc9, nc10, nc11, nc12, nc13, nc14, nc15, nc16, nc17, nc18, nc19, nc20, nc21]; exact g7) (by rw [g4]; decide)
          have hTq := Tk.tC (show Tk (incS 8 (incS 8 σ)) e K V N S from (by repeat (first | exact hT | refine Tk.i (by decide) ?_ | refine Tk.tC ?_ _ | refine Tk.x (by decide) ?_ | refine Tk.o (by decide) ?_))) V
          have haq : 0 ≤ (thC K V (incS 8 (incS 8 σ))).2 84 8 ∧ (thC K V (incS 8 (incS 8 σ))).2 84 8 ≤ e := by
            rcases hat with z | z
            · have := hT.in z (by decide); omega
            · rw [z]; omega
          refine A_istore (lv2 := [(6, _), (5, _), (4, _), (2, _), (0, _), (1, _)]) dX11_food_164 (by decide) rfl ?_
          refine A_iload dX11_food_166 0 rfl ?_
          refine A_iconst dX11_food_168 ?_
          refine J_icmp_ne (tgt := 182) dX11_food_169 (by decide) (by first | with_reducible exact fnC_i32 (by assumption) | exact hti | with_reducible exact thC_i32 _ _ _ | exact i32_eq (by assumption) | exact i32_eq ⟨by omega, by omega⟩ | with_reducible exact i32_i32 _ | with_reducible exact i32_eq (b2i_inr _) | rfl) (by first | with_reducible exact fnC_i32 (by assumption) | exact hti | with_reducible exact thC_i32 _ _ _ | exact i32_eq (by assumption) | exact i32_eq ⟨by omega, by omega⟩ | with_reducible exact i32_i32 _ | with_reducible exact i32_eq (b2i_inr _) | rfl) (fun h169 => ?_) (fun h169 => ?_)
          · refine A_aload_n dX11_food_182 rfl 4 rfl ?_
            refine A_getr fl_X11_26 lk_84 rfl dX11_food_183 ?_
            refine A_aload_n dX11_food_186 rfl 4 rfl ?_
            refine A_geti fl_X11_240 lk_84 rfl dX11_food_187 ?_
            try simp (disch := omega) only [up_k, up_j, up_s, incS_s, incS_k, incS_j, thC_keep, ad11, ad21, ad31, ad41, ad12, nc0, nc1, nc2, nc3, nc4, nc5, nc6, nc7, nc8, nc9, nc10, nc11, nc12, nc13, nc14, nc15, nc16, nc17, nc18, nc19, nc20, nc21]
            refine A_lload_n dX11_food_190 rfl 3 rfl ?_
            refine J_last lk_89 (by first | with_reducible exact fnC_i32 (by assumption) | exact hti | with_reducible exact thC_i32 _ _ _ | exact i32_eq (by assumption) | exact i32_eq ⟨by omega, by omega⟩ | with_reducible exact i32_i32 _ | with_reducible exact i32_eq (b2i_inr _) | rfl) (by omega) (by omega) (by decide) dX11_food_191 ?_
            refine A_aload_n dX11_food_192 rfl 4 rfl ?_
            refine A_getr fl_X11_30 lk_84 rfl dX11_food_193 ?_
            refine A_aload_n dX11_food_196 rfl 4 rfl ?_
            refine A_geti fl_X11_240 lk_84 rfl dX11_food_197 ?_
            try simp (disch := omega) only [up_k, up_j, up_s, incS_s, incS_k, incS_j, thC_keep, ad11, ad21, ad31, ad41, ad12, nc0, nc1, nc2, nc3, nc4, nc5, nc6, nc7, nc8, nc9, nc10, nc11, nc12, nc13, nc14, nc15, nc16, nc17, nc18, nc19, nc20, nc21]
            refine A_iload dX11_food_200 2 rfl ?_
            refine J_iast lk_90 (by first | with_reducible exact fnC_i32 (by assumption) | exact hti | with_reducible exact thC_i32 _ _ _ | exact i32_eq (by assumption) | exact i32_eq ⟨by omega, by omega⟩ | with_reducible exact i32_i32 _ | with_reducible exact i32_eq (b2i_inr _) | rfl) (by omega) (by omega) (by decide) dX11_food_202 ?_
            refine A_aload_n dX11_food_203 rfl 4 rfl ?_
            refine A_getr fl_X11_33 lk_84 rfl dX11_food_204 ?_
            refine A_aload_n dX11_food_207 rfl 4 rfl ?_
            refine A_geti fl_X11_240 lk_84 rfl dX11_food_208 ?_
            try simp (disch := omega) only [up_k, up_j, up_s, incS_s, incS_k, incS_j, thC_keep, ad11, ad21, ad31, ad41, ad12, nc0, nc1, nc2, nc3, nc4, nc5, nc6, nc7, nc8, nc9, nc10, nc11, nc12, nc13, nc14, nc15, nc16, nc17, nc18, nc19, nc20, nc21]
            refine A_iload dX11_food_211 1 rfl ?_
            refine J_iast lk_91 (by first | with_reducible exact fnC_i32 (by assumption) | exact hti | with_reducible exact thC_i32 _ _ _ | exact i32_eq (by assumption) | exact i32_eq ⟨by omega, by omega⟩ | with_reducible exact i32_i32 _ | with_reducible exact i32_eq (b2i_inr _) | rfl) (by omega) (by omega) (by decide) dX11_food_213 ?_
            refine A_aload_n dX11_food_214 rfl 4 rfl ?_
            refine A_getr fl_X11_36 lk_84 rfl dX11_food_215 ?_
            refine A_aload_n dX11_food_218 rfl 4 rfl ?_
            refine A_geti fl_X11_240 lk_84 rfl dX11_food_219 ?_
            try simp (disch := omega) only [up_k, up_j, up_s, incS_s, incS_k, incS_j, thC_keep, ad11, ad21, ad31, ad41, ad12, nc0, nc1, nc2, nc3, nc4, nc5, nc6, nc7, nc8, nc9, nc10, nc11, nc12, nc13, nc14, nc15, nc16, nc17, nc18, nc19, nc20, nc21]
            refine A_iload dX11_food_222 0 rfl ?_
            refine J_iast lk_92 (by first | with_reducible exact fnC_i32 (by assumption) | exact hti | with_reducible exact thC_i32 _ _ _ | exact i32_eq (by assumption) | exact i32_eq ⟨by omega, by omega⟩ | with_reducible exact i32_i32 _ | with_reducible exact i32_eq (b2i_inr _) | rfl) (by omega) (by omega) (by decide) dX11_food_224 ?_
            refine A_inc fl_X11_240 lk_84 rfl 4 rfl dX11_food_225 dX11_food_226 dX11_food_227 dX11_food_230 dX11_food_231 dX11_food_232 ?_
            refine A_iconst dX11_food_235 ?_
            exact A_iret dX11_food_236 (by simp only [foM]; first | (rw [if_pos h6]; done) | (rw [if_neg h6, if_pos h28]; done) | (rw [if_neg h6, if_neg (by rw [h28]; decide), if_pos h71]; done) | (rw [if_neg h6, if_neg (by rw [h28]; decide), if_neg (by omega), if_pos hk16, if_pos h127]; done) | (rw [if_neg h6, if_neg (by rw [h28]; decide), if_neg (by omega), if_pos hk16, if_neg (by omega)]; unfold fdT; first | (rw [if_pos h169]; done) | (rw [if_neg h169]; done)) | (rw [if_neg h6, if_neg (by rw [h28]; decide), if_neg (by omega), if_neg hk16]; unfold fdT; first | (rw [if_pos h169]; done) | (rw [if_neg h169]; done))) (by simp only [foM]; first | (rw [if_pos h6]; done) | (rw [if_neg h6, if_pos h28]; done) | (rw [if_neg h6, if_neg (by rw [h28]; decide), if_pos h71]; done) | (rw [if_neg h6, if_neg (by rw [h28]; decide), if_neg (by omega), if_pos hk16, if_pos h127]; done) | (rw [if_neg h6, if_neg (by rw [h28]; decide), if_neg (by omega), if_pos hk16, if_neg (by omega)]; unfold fdT; first | (rw [if_pos h169]; done) | (rw [if_neg h169]; done)) | (rw [if_neg h6, if_neg (by rw [h28]; decide), if_neg (by omega), if_neg hk16]; unfold fdT; first | (rw [if_pos h169]; done) | (rw [if_neg h169]; done)))
          · refine A_aload_n dX11_food_172 rfl 4 rfl ?_
            refine A_iconst dX11_food_173 ?_
            refine A_aload_n dX11_food_174 rfl 4 rfl ?_
            refine A_geti fl_X11_144 lk_84 rfl dX11_food_175 ?_
            try simp (disch := omega) only [up_k, up_j, up_s, incS_s, incS_k, incS_j, thC_keep, ad11, ad21, ad31, ad41, ad12, nc0, nc1, nc2, nc3, nc4, nc5, nc6, nc7, nc8, nc9, nc10, nc11, nc12, nc13, nc14, nc15, nc16, nc17, nc18, nc19, nc20, nc21]
            refine A_Va2 mv_X11_261 lk_84 rfl rfl (c_wrongT hTq _ _ haq) (Nat.le_of_ble_eq_true rfl) (by omega) (by omega) dX11_food_178 ?_
            try simp (disch := omega) only [incS_s, incS_k, incS_j, thC_keep, ad11, ad21, ad31, ad41, ad12, nc0, nc1, nc2, nc3, nc4, nc5, nc6, nc7, nc8, nc9, nc10, nc11, nc12, nc13, nc14, nc15, nc16, nc17, nc18, nc19, nc20, nc21]
            exact A_iret dX11_food_181 (by simp only [foM]; first | (rw [if_pos h6]; done) | (rw [if_neg h6, if_pos h28]; done) | (rw [if_neg h6, if_neg (by rw [h28]; decide), if_pos h71]; done) | (rw [if_neg h6, if_neg (by rw [h28]; decide), if_neg (by omega), if_pos hk16, if_pos h127]; done) | (rw [if_neg h6, if_neg (by rw [h28]; decide), if_neg (by omega), if_pos hk16, if_neg (by omega)]; unfold fdT; first | (rw [if_pos h169]; done) | (rw [if_neg h169]; done)) | (rw [if_neg h6, if_neg (by rw [h28]; decide), if_neg (by omega), if_neg hk16]; unfold fdT; first | (rw [if_pos h169]; done) | (rw [if_neg h169]; done))) (by simp only [foM]; first | (rw [if_pos h6]; done) | (rw [if_neg h6, if_pos h28]; done) | (rw [if_neg h6, if_neg (by rw [h28]; decide), if_pos h71]; done) | (rw [if_neg h6, if_neg (by rw [h28]; decide), if_neg (by omega), if_pos hk16, if_pos h127]; done) | (rw [if_neg h6, if_neg (by rw [h28]; decide), if_neg (by omega), if_pos hk16, if_neg (by omega)]; unfold fdT; first | (rw [if_pos h169]; done) | (rw [if_neg h169]; done)) | (rw [if_neg h6, if_neg (by rw [h28]; decide), if_neg (by omega), if_neg hk16]; unfold fdT; first | (rw [if_pos h169]; done) | (rw [if_neg h169]; done)))
        · have hk16 : K (σ 84 8 + 2) = 16 := of_decide_eq_true h113
          obtain ⟨g6, g7⟩ : K (σ 84 8 + 3) = 23 ∧ TgO K (σ 84 8 + 4) b := by
            rcases g3 with z | z
            · exact z.2
            · exact absurd hk16 z.1
          have ha3 := hT.in g6 (by decide)
          have hN3 := hT.2.2.2.1 _ g6
          rw [tkS_t (by simp (disch := omega) only [up_k, up_j, up_s, incS_s, incS_k, incS_j, thC_keep, ad11, ad21, ad31, ad41, ad12, nc0, nc1, nc2, nc3, nc4, nc5, nc6, nc7, nc8, nc9, nc10, nc11, nc12, nc13, nc14, nc15, nc16, nc17, nc18, nc19, nc20, nc21]; exact hk16)]
          refine A_aload_n dX11_food_116 rfl 3 rfl ?_
          refine A_aload_n dX11_food_117 rfl 3 rfl ?_
          refine A_geti fl_X11_144 lk_84 rfl dX11_food_118 ?_
          try simp (disch := omega) only [up_k, up_j, up_s, incS_s, incS_k, incS_j, thC_keep, ad11, ad21, ad31, ad41, ad12, nc0, nc1, nc2, nc3, nc4, nc5, nc6, nc7, nc8, nc9, nc10, nc11, nc12, nc13, nc14, nc15, nc16, nc17, nc18, nc19, nc20, nc21]
          refine A_Va1 mv_X11_276 lk_84 rfl rfl (c_numT (by repeat (first | exact hT | refine Tk.i (by decide) ?_ | refine Tk.tC ?_ _ | refine Tk.x (by decide) ?_ | refine Tk.o (by decide) ?_)) _ ⟨by omega, by omega⟩) (Nat.le_of_ble_eq_true rfl) (by omega) (by omega) dX11_food_121 ?_
          try simp (disch := omega) only [incS_s, incS_k, incS_j, thC_keep, ad11, ad21, ad31, ad41, ad12, nc0, nc1, nc2, nc3, nc4, nc5, nc6, nc7, nc8, nc9, nc10, nc11, nc12, nc13, nc14, nc15, nc16, nc17, nc18, nc19, nc20, nc21]
          refine A_sipush dX11_food_124 (by decide +kernel) ?_
          refine J_icmp_le (tgt := 140) dX11_food_127 (by decide) (by first | with_reducible exact fnC_i32 (by assumption) | exact hti | with_reducible exact thC_i32 _ _ _ | exact i32_eq (by assumption) | exact i32_eq ⟨by omega, by omega⟩ | with_reducible exact i32_i32 _ | with_reducible exact i32_eq (b2i_inr _) | rfl) (by first | with_reducible exact fnC_i32 (by assumption) | exact hti | with_reducible exact thC_i32 _ _ _ | exact i32_eq (by assumption) | exact i32_eq ⟨by omega, by omega⟩ | with_reducible exact i32_i32 _ | with_reducible exact i32_eq (b2i_inr _) | rfl) (fun h127 => ?_) (fun h127 => ?_)
          · refine A_aload_n dX11_food_140 rfl 3 rfl ?_
            refine A_aload_n dX11_food_141 rfl 3 rfl ?_
            refine A_geti fl_X11_144 lk_84 rfl dX11_food_142 ?_
            try simp (disch := omega) only [up_k, up_j, up_s, incS_s, incS_k, incS_j, thC_keep, ad11, ad21, ad31, ad41, ad12, nc0, nc1, nc2, nc3, nc4, nc5, nc6, nc7, nc8, nc9, nc10, nc11, nc12, nc13, nc14, nc15, nc16, nc17, nc18, nc19, nc20, nc21]
            refine A_Va1 mv_X11_276 lk_84 rfl rfl (c_numT (by repeat (first | exact hT | refine Tk.i (by decide) ?_ | refine Tk.tC ?_ _ | refine Tk.x (by decide) ?_ | refine Tk.o (by decide) ?_)) _ ⟨by omega, by omega⟩) (Nat.le_of_ble_eq_true rfl) (by omega) (by omega) dX11_food_145 ?_
            try simp (disch := omega) only [incS_s, incS_k, incS_j, thC_keep, ad11, ad21, ad31, ad41, ad12, nc0, nc1, nc2, nc3, nc4, nc5, nc6, nc7, nc8, nc9, nc10, nc11, nc12, nc13, nc14, nc15, nc16, nc17, nc18, nc19, nc20, nc21]
            refine A_istore (lv2 := [(5, _), (4, _), (2, _), (0, _), (1, _)]) dX11_food_148 (by decide) rfl ?_
            refine A_inc fl_X11_144 lk_84 rfl 3 rfl dX11_food_150 dX11_food_151 dX11_food_152 dX11_food_155 dX11_food_156 dX11_food_157 ?_
            refine A_aload_n dX11_food_160 rfl 3 rfl ?_
            refine A_Va0 mv_X11_279 lk_84 rfl rfl (c_X11_tagsHere b (by repeat (first | exact hT | refine Tk.i (by decide) ?_ | refine Tk.tC ?_ _ | refine Tk.x (by decide) ?_ | refine Tk.o (by decide) ?_)) (by simp (disch := omega) only [up_k, up_j, up_s, incS_s, incS_k, incS_j, thC_keep, ad11, ad21, ad31, ad41, ad12, nc0, nc1, nc2, nc3, nc4, nc5, nc6, nc7, nc8, nc9, nc10, nc11, nc12, nc13, nc14, nc15, nc16, nc17, nc18, nc19, nc20, nc21]; exact hC6) (by simp (disch := omega) only [up_k, up_j, up_s, incS_s, incS_k, incS_j, thC_keep, ad11, ad21, ad31, ad41, ad12, nc0, nc1, nc2, nc3, nc4, nc5, nc6, nc7, nc8, nc9, nc10, nc11, nc12, nc13, nc14, nc15, nc16, nc17, nc18, nc19, nc20, nc21]; omega) (by simp (disch := omega) only [up_k, up_j, up_s, incS_s, incS_k, incS_j, thC_keep, ad11, ad21, ad31, ad41, ad12, nc0, nc1, nc2, nc3, nc4, nc5, nc6, nc7, nc8, nc9, nc10, nc11, nc12, nc13, nc14, nc15, nc16, nc17, nc18, nc19, nc20, nc21]; exact g7) (by rw [g4]; decide)) (Nat.le_of_ble_eq_true rfl) (by omega) (by omega) dX11_food_161 ?_
            try simp (disch := omega) only [incS_s, incS_k, incS_j, thC_keep, ad11, ad21, ad31, ad41, ad12, nc0, nc1, nc2, nc3, nc4, nc5, nc6, nc7, nc8, nc9, nc10, nc11, nc12, nc13, nc14, nc15, nc16, nc17, nc18, nc19, nc20, nc21]
            have hat := @thC_at (incS 8 (incS 8 (incS 8 (incS 8 σ)))) _ K V N S (by repeat (first | exact hT | refine Tk.i (by decide) ?_ | refine Tk.tC ?_ _ | refine Tk.x (by decide) ?_ | refine Tk.o (by decide) ?_)) b (by simp (disch := omega) only [up_k, up_j, up_s, incS_s, incS_k, incS_j, thC_keep, ad11, ad21, ad31, ad41, ad12, nc0, nc1, nc2, nc3, nc4, nc5, nc6, nc7, nc8, nc9, nc10, nc11, nc12, nc13, nc14, nc15, nc16, nc17, nc18, nc19, nc20, nc21]; exact g7) (by rw [g4]; decide)
            have hTq := Tk.tC (show Tk (incS 8 (incS 8 (incS 8 (incS 8 σ)))) e K V N S from (by repeat (first | exact hT | refine Tk.i (by decide) ?_ | refine Tk.tC ?_ _ | refine Tk.x (by decide) ?_ | refine Tk.o (by decide) ?_))) V
            have haq : 0 ≤ (thC K V (incS 8 (incS 8 (incS 8 (incS 8 σ))))).2 84 8 ∧ (thC K V (incS 8 (incS 8 (incS 8 (incS 8 σ))))).2 84 8 ≤ e := by
              rcases hat with z | z
              · have := hT.in z (by decide); omega
              · rw [z]; omega
            refine A_istore (lv2 := [(6, _), (5, _), (4, _), (2, _), (0, _), (1, _)]) dX11_food_164 (by decide) rfl ?_
            refine A_iload dX11_food_166 0 rfl ?_
            refine A_iconst dX11_food_168 ?_
            refine J_icmp_ne (tgt := 182) dX11_food_169 (by decide) (by first | with_reducible exact fnC_i32 (by assumption) | exact hti | with_reducible exact thC_i32 _ _ _ | exact i32_eq (by assumption) | exact i32_eq ⟨by omega, by omega⟩ | with_reducible exact i32_i32 _ | with_reducible exact i32_eq (b2i_inr _) | rfl) (by first | with_reducible exact fnC_i32 (by assumption) | exact hti | with_reducible exact thC_i32 _ _ _ | exact i32_eq (by assumption) | exact i32_eq ⟨by omega, by omega⟩ | with_reducible exact i32_i32 _ | with_reducible exact i32_eq (b2i_inr _) | rfl) (fun h169 => ?_) (fun h169 => ?_)
            · refine A_aload_n dX11_food_182 rfl 4 rfl ?_
              refine A_getr fl_X11_26 lk_84 rfl dX11_food_183 ?_
              refine A_aload_n dX11_food_186 rfl 4 rfl ?_
              refine A_geti fl_X11_240 lk_84 rfl dX11_food_187 ?_
              try simp (disch := omega) only [up_k, up_j, up_s, incS_s, incS_k, incS_j, thC_keep, ad11, ad21, ad31, ad41, ad12, nc0, nc1, nc2, nc3, nc4, nc5, nc6, nc7, nc8, nc9, nc10, nc11, nc12, nc13, nc14, nc15, nc16, nc17, nc18, nc19, nc20, nc21]
              refine A_lload_n dX11_food_190 rfl 3 rfl ?_
              refine J_last lk_89 (by first | with_reducible exact fnC_i32 (by assumption) | exact hti | with_reducible exact thC_i32 _ _ _ | exact i32_eq (by assumption) | exact i32_eq ⟨by omega, by omega⟩ | with_reducible exact i32_i32 _ | with_reducible exact i32_eq (b2i_inr _) | rfl) (by omega) (by omega) (by decide) dX11_food_191 ?_
              refine A_aload_n dX11_food_192 rfl 4 rfl ?_
              refine A_getr fl_X11_30 lk_84 rfl dX11_food_193 ?_
              refine A_aload_n dX11_food_196 rfl 4 rfl ?_
              refine A_geti fl_X11_240 lk_84 rfl dX11_food_197 ?_
              try simp (disch := omega) only [up_k, up_j, up_s, incS_s, incS_k, incS_j, thC_keep, ad11, ad21, ad31, ad41, ad12, nc0, nc1, nc2, nc3, nc4, nc5, nc6, nc7, nc8, nc9, nc10, nc11, nc12, nc13, nc14, nc15, nc16, nc17, nc18, nc19, nc20, nc21]
              refine A_iload dX11_food_200 2 rfl ?_
              refine J_iast lk_90 (by first | with_reducible exact fnC_i32 (by assumption) | exact hti | with_reducible exact thC_i32 _ _ _ | exact i32_eq (by assumption) | exact i32_eq ⟨by omega, by omega⟩ | with_reducible exact i32_i32 _ | with_reducible exact i32_eq (b2i_inr _) | rfl) (by omega) (by omega) (by decide) dX11_food_202 ?_
              refine A_aload_n dX11_food_203 rfl 4 rfl ?_
              refine A_getr fl_X11_33 lk_84 rfl dX11_food_204 ?_
              refine A_aload_n dX11_food_207 rfl 4 rfl ?_
              refine A_geti fl_X11_240 lk_84 rfl dX11_food_208 ?_
              try simp (disch := omega) only [up_k, up_j, up_s, incS_s, incS_k, incS_j, thC_keep, ad11, ad21, ad31, ad41, ad12, nc0, nc1, nc2, nc3, nc4, nc5, nc6, nc7, nc8, nc9, nc10, nc11, nc12, nc13, nc14, nc15, nc16, nc17, nc18, nc19, nc20, nc21]
              refine A_iload dX11_food_211 1 rfl ?_
              refine J_iast lk_91 (by first | with_reducible exact fnC_i32 (by assumption) | exact hti | with_reducible exact thC_i32 _ _ _ | exact i32_eq (by assumption) | exact i32_eq ⟨by omega, by omega⟩ | with_reducible exact i32_i32 _ | with_reducible exact i32_eq (b2i_inr _) | rfl) (by omega) (by omega) (by decide) dX11_food_213 ?_
              refine A_aload_n dX11_food_214 rfl 4 rfl ?_
              refine A_getr fl_X11_36 lk_84 rfl dX11_food_215 ?_
              refine A_aload_n dX11_food_218 rfl 4 rfl ?_
              refine A_geti fl_X11_240 lk_84 rfl dX11_food_219 ?_
              try simp (disch := omega) only [up_k, up_j, up_s, incS_s, incS_k, incS_j, thC_keep, ad11, ad21, ad31, ad41, ad12, nc0, nc1, nc2, nc3, nc4, nc5, nc6, nc7, nc8, nc9, nc10, nc11, nc12, nc13, nc14, nc15, nc16, nc17, nc18, nc19, nc20, nc21]
              refine A_iload dX11_food_222 0 rfl ?_
              refine J_iast lk_92 (by first | with_reducible exact fnC_i32 (by assumption) | exact hti | with_reducible exact thC_i32 _ _ _ | exact i32_eq (by assumption) | exact i32_eq ⟨by omega, by omega⟩ | with_reducible exact i32_i32 _ | with_reducible exact i32_eq (b2i_inr _) | rfl) (by omega) (by omega) (by decide) dX11_food_224 ?_
              refine A_inc fl_X11_240 lk_84 rfl 4 rfl dX11_food_225 dX11_food_226 dX11_food_227 dX11_food_230 dX11_food_231 dX11_food_232 ?_
              refine A_iconst dX11_food_235 ?_
              exact A_iret dX11_food_236 (by simp only [foM]; first | (rw [if_pos h6]; done) | (rw [if_neg h6, if_pos h28]; done) | (rw [if_neg h6, if_neg (by rw [h28]; decide), if_pos h71]; done) | (rw [if_neg h6, if_neg (by rw [h28]; decide), if_neg (by omega), if_pos hk16, if_pos h127]; done) | (rw [if_neg h6, if_neg (by rw [h28]; decide), if_neg (by omega), if_pos hk16, if_neg (by omega)]; unfold fdT; first | (rw [if_pos h169]; done) | (rw [if_neg h169]; done)) | (rw [if_neg h6, if_neg (by rw [h28]; decide), if_neg (by omega), if_neg hk16]; unfold fdT; first | (rw [if_pos h169]; done) | (rw [if_neg h169]; done))) (by simp only [foM]; first | (rw [if_pos h6]; done) | (rw [if_neg h6, if_pos h28]; done) | (rw [if_neg h6, if_neg (by rw [h28]; decide), if_pos h71]; done) | (rw [if_neg h6, if_neg (by rw [h28]; decide), if_neg (by omega), if_pos hk16, if_pos h127]; done) | (rw [if_neg h6, if_neg (by rw [h28]; decide), if_neg (by omega), if_pos hk16, if_neg (by omega)]; unfold fdT; first | (rw [if_pos h169]; done) | (rw [if_neg h169]; done)) | (rw [if_neg h6, if_neg (by rw [h28]; decide), if_neg (by omega), if_neg hk16]; unfold fdT; first | (rw [if_pos h169]; done) | (rw [if_neg h169]; done)))
            · refine A_aload_n dX11_food_172 rfl 4 rfl ?_
              refine A_iconst dX11_food_173 ?_
              refine A_aload_n dX11_food_174 rfl 4 rfl ?_
              refine A_geti fl_X11_144 lk_84 rfl dX11_food_175 ?_
              try simp (disch := omega) only [up_k, up_j, up_s, incS_s, incS_k, incS_j, thC_keep, ad11, ad21, ad31, ad41, ad12, nc0, nc1, nc2, nc3, nc4, nc5, nc6, nc7, nc8, nc9, nc10, nc11, nc12, nc13, nc14, nc15, nc16, nc17, nc18, nc19, nc20, nc21]
              refine A_Va2 mv_X11_261 lk_84 rfl rfl (c_wrongT hTq _ _ haq) (Nat.le_of_ble_eq_true rfl) (by omega) (by omega) dX11_food_178 ?_
              try simp (disch := omega) only [incS_s, incS_k, incS_j, thC_keep, ad11, ad21, ad31, ad41, ad12, nc0, nc1, nc2, nc3, nc4, nc5, nc6, nc7, nc8, nc9, nc10, nc11, nc12, nc13, nc14, nc15, nc16, nc17, nc18, nc19, nc20, nc21]
              exact A_iret dX11_food_181 (by simp only [foM]; first | (rw [if_pos h6]; done) | (rw [if_neg h6, if_pos h28]; done) | (rw [if_neg h6, if_neg (by rw [h28]; decide), if_pos h71]; done) | (rw [if_neg h6, if_neg (by rw [h28]; decide), if_neg (by omega), if_pos hk16, if_pos h127]; done) | (rw [if_neg h6, if_neg (by rw [h28]; decide), if_neg (by omega), if_pos hk16, if_neg (by omega)]; unfold fdT; first | (rw [if_pos h169]; done) | (rw [if_neg h169]; done)) | (rw [if_neg h6, if_neg (by rw [h28]; decide), if_neg (by omega), if_neg hk16]; unfold fdT; first | (rw [if_pos h169]; done) | (rw [if_neg h169]; done))) (by simp only [foM]; first | (rw [if_pos h6]; done) | (rw [if_neg h6, if_pos h28]; done) | (rw [if_neg h6, if_neg (by rw [h28]; decide), if_pos h71]; done) | (rw [if_neg h6, if_neg (by rw [h28]; decide), if_neg (by omega), if_pos hk16, if_pos h127]; done) | (rw [if_neg h6, if_neg (by rw [h28]; decide), if_neg (by omega), if_pos hk16, if_neg (by omega)]; unfold fdT; first | (rw [if_pos h169]; done) | (rw [if_neg h169]; done)) | (rw [if_neg h6, if_neg (by rw [h28]; decide), if_neg (by omega), if_neg hk16]; unfold fdT; first | (rw [if_pos h169]; done) | (rw [if_neg h169]; done)))
          · refine A_aload_n dX11_food_130 rfl 3 rfl ?_
            refine A_iconst dX11_food_131 ?_
            refine A_aload_n dX11_food_132 rfl 3 rfl ?_
            refine A_geti fl_X11_144 lk_84 rfl dX11_food_133 ?_
            try simp (disch := omega) only [up_k, up_j, up_s, incS_s, incS_k, incS_j, thC_keep, ad11, ad21, ad31, ad41, ad12, nc0, nc1, nc2, nc3, nc4, nc5, nc6, nc7, nc8, nc9, nc10, nc11, nc12, nc13, nc14, nc15, nc16, nc17, nc18, nc19, nc20, nc21]
            refine A_Va2 mv_X11_261 lk_84 rfl rfl (c_wrongT (by repeat (first | exact hT | refine Tk.i (by decide) ?_ | refine Tk.tC ?_ _ | refine Tk.x (by decide) ?_ | refine Tk.o (by decide) ?_)) _ _ ⟨by omega, by omega⟩) (Nat.le_of_ble_eq_true rfl) (by omega) (by omega) dX11_food_136 ?_
            try simp (disch := omega) only [incS_s, incS_k, incS_j, thC_keep, ad11, ad21, ad31, ad41, ad12, nc0, nc1, nc2, nc3, nc4, nc5, nc6, nc7, nc8, nc9, nc10, nc11, nc12, nc13, nc14, nc15, nc16, nc17, nc18, nc19, nc20, nc21]
            exact A_iret dX11_food_139 (by simp only [foM]; first | (rw [if_pos h6]; done) | (rw [if_neg h6, if_pos h28]; done) | (rw [if_neg h6, if_neg (by rw [h28]; decide), if_pos h71]; done) | (rw [if_neg h6, if_neg (by rw [h28]; decide), if_neg (by omega), if_pos hk16, if_pos h127]; done) | (rw [if_neg h6, if_neg (by rw [h28]; decide), if_neg (by omega), if_pos hk16, if_neg (by omega)]; unfold fdT; first | (rw [if_pos h169]; done) | (rw [if_neg h169]; done)) | (rw [if_neg h6, if_neg (by rw [h28]; decide), if_neg (by omega), if_neg hk16]; unfold fdT; first | (rw [if_pos h169]; done) | (rw [if_neg h169]; done))) (by simp only [foM]; first | (rw [if_pos h6]; done) | (rw [if_neg h6, if_pos h28]; done) | (rw [if_neg h6, if_neg (by rw [h28]; decide), if_pos h71]; done) | (rw [if_neg h6, if_neg (by rw [h28]; decide), if_neg (by omega), if_pos hk16, if_pos h127]; done) | (rw [if_neg h6, if_neg (by rw [h28]; decide), if_neg (by omega), if_pos hk16, if_neg (by omega)]; unfold fdT; first | (rw [if_pos h169]; done) | (rw [if_neg h169]; done)) | (rw [if_neg h6, if_neg (by rw [h28]; decide), if_neg (by omega), if_neg hk16]; unfold fdT; first | (rw [if_pos h169]; done) | (rw [if_neg h169]; done)))
      · refine A_aload_n dX11_food_74 rfl 1 rfl ?_
        refine A_iconst dX11_food_75 ?_
        refine A_aload_n dX11_food_76 rfl 1 rfl ?_
        refine A_geti fl_X11_144 lk_84 rfl dX11_food_77 ?_
        try simp (disch := omega) only [up_k, up_j, up_s, incS_s, incS_k, incS_j, thC_keep, ad11, ad21, ad31, ad41, ad12, nc0, nc1, nc2, nc3, nc4, nc5, nc6, nc7, nc8, nc9, nc10, nc11, nc12, nc13, nc14, nc15, nc16, nc17, nc18, nc19, nc20, nc21]
        refine A_Va2 mv_X11_261 lk_84 rfl rfl (c_wrongT (by repeat (first | exact hT | refine Tk.i (by decide) ?_ | refine Tk.tC ?_ _ | refine Tk.x (by decide) ?_ | refine Tk.o (by decide) ?_)) _ _ ⟨by omega, by omega⟩) (Nat.le_of_ble_eq_true rfl) (by omega) (by omega) dX11_food_80 ?_
        try simp (disch := omega) only [incS_s, incS_k, incS_j, thC_keep, ad11, ad21, ad31, ad41, ad12, nc0, nc1, nc2, nc3, nc4, nc5, nc6, nc7, nc8, nc9, nc10, nc11, nc12, nc13, nc14, nc15, nc16, nc17, nc18, nc19, nc20, nc21]
        exact A_iret dX11_food_83 (by simp only [foM]; first | (rw [if_pos h6]; done) | (rw [if_neg h6, if_pos h28]; done) | (rw [if_neg h6, if_neg (by rw [h28]; decide), if_pos h71]; done) | (rw [if_neg h6, if_neg (by rw [h28]; decide), if_neg (by omega), if_pos hk16, if_pos h127]; done) | (rw [if_neg h6, if_neg (by rw [h28]; decide), if_neg (by omega), if_pos hk16, if_neg (by omega)]; unfold fdT; first | (rw [if_pos h169]; done) | (rw [if_neg h169]; done)) | (rw [if_neg h6, if_neg (by rw [h28]; decide), if_neg (by omega), if_neg hk16]; unfold fdT; first | (rw [if_pos h169]; done) | (rw [if_neg h169]; done))) (by simp only [foM]; first | (rw [if_pos h6]; done) | (rw [if_neg h6, if_pos h28]; done) | (rw [if_neg h6, if_neg (by rw [h28]; decide), if_pos h71]; done) | (rw [if_neg h6, if_neg (by rw [h28]; decide), if_neg (by omega), if_pos hk16, if_pos h127]; done) | (rw [if_neg h6, if_neg (by rw [h28]; decide), if_neg (by omega), if_pos hk16, if_neg (by omega)]; unfold fdT; first | (rw [if_pos h169]; done) | (rw [if_neg h169]; done)) | (rw [if_neg h6, if_neg (by rw [h28]; decide), if_neg (by omega), if_neg hk16]; unfold fdT; first | (rw [if_pos h169]; done) | (rw [if_neg h169]; done)))
    · refine A_aload_n dX11_food_31 rfl 0 rfl ?_
      refine A_iconst dX11_food_32 ?_
      refine A_aload_n dX11_food_33 rfl 0 rfl ?_
      refine A_geti fl_X11_144 lk_84 rfl dX11_food_34 ?_
      try simp (disch := omega) only [up_k, up_j, up_s, incS_s, incS_k, incS_j, thC_keep, ad11, ad21, ad31, ad41, ad12, nc0, nc1, nc2, nc3, nc4, nc5, nc6, nc7, nc8, nc9, nc10, nc11, nc12, nc13, nc14, nc15, nc16, nc17, nc18, nc19, nc20, nc21]
      refine A_Va2 mv_X11_261 lk_84 rfl rfl (c_wrongT hT _ _ ⟨by omega, by omega⟩) (Nat.le_of_ble_eq_true rfl) (by omega) (by omega) dX11_food_37 ?_
      try simp (disch := omega) only [incS_s, incS_k, incS_j, thC_keep, ad11, ad21, ad31, ad41, ad12, nc0, nc1, nc2, nc3, nc4, nc5, nc6, nc7, nc8, nc9, nc10, nc11, nc12, nc13, nc14, nc15, nc16, nc17, nc18, nc19, nc20, nc21]
      exact A_iret dX11_food_40 (by simp only [foM]; first | (rw [if_pos h6]; done) | (rw [if_neg h6, if_pos h28]; done) | (rw [if_neg h6, if_neg (by rw [h28]; decide), if_pos h71]; done) | (rw [if_neg h6, if_neg (by rw [h28]; decide), if_neg (by omega), if_pos hk16, if_pos h127]; done) | (rw [if_neg h6, if_neg (by rw [h28]; decide), if_neg (by omega), if_pos hk16, if_neg (by omega)]; unfold fdT; first | (rw [if_pos h169]; done) | (rw [if_neg h169]; done)) | (rw [if_neg h6, if_neg (by rw [h28]; decide), if_neg (by omega), if_neg hk16]; unfold fdT; first | (rw [if_pos h169]; done) | (rw [if_neg h169]; done))) (by simp only [foM]; first | (rw [if_pos h6]; done) | (rw [if_neg h6, if_pos h28]; done) | (rw [if_neg h6, if_neg (by rw [h28]; decide), if_pos h71]; done) | (rw [if_neg h6, if_neg (by rw [h28]; decide), if_neg (by omega), if_pos hk16, if_pos h127]; done) | (rw [if_neg h6, if_neg (by rw [h28]; decide), if_neg (by omega), if_pos hk16, if_neg (by omega)]; unfold fdT; first | (rw [if_pos h169]; done) | (rw [if_neg h169]; done)) | (rw [if_neg h6, if_neg (by rw [h28]; decide), if_neg (by omega), if_neg hk16]; unfold fdT; first | (rw [if_pos h169]; done) | (rw [if_neg h169]; done)))
  · refine A_aload_n dX11_food_9 rfl 0 rfl ?_
    refine A_iconst dX11_food_10 ?_
    refine A_iload_n dX11_food_11 rfl 1 rfl ?_
    refine A_Va2 mv_X11_261 lk_84 rfl rfl (c_wrongT hT _ _ hfi) (Nat.le_of_ble_eq_true rfl) (by omega) (by omega) dX11_food_12 ?_
    try simp (disch := omega) only [incS_s, incS_k, incS_j, thC_keep, ad11, ad21, ad31, ad41, ad12, nc0, nc1, nc2, nc3, nc4, nc5, nc6, nc7, nc8, nc9, nc10, nc11, nc12, nc13, nc14, nc15, nc16, nc17, nc18, nc19, nc20, nc21]
    exact A_iret dX11_food_15 (by simp only [foM]; first | (rw [if_pos h6]; done) | (rw [if_neg h6, if_pos h28]; done) | (rw [if_neg h6, if_neg (by rw [h28]; decide), if_pos h71]; done) | (rw [if_neg h6, if_neg (by rw [h28]; decide), if_neg (by omega), if_pos hk16, if_pos h127]; done) | (rw [if_neg h6, if_neg (by rw [h28]; decide), if_neg (by omega), if_pos hk16, if_neg (by omega)]; unfold fdT; first | (rw [if_pos h169]; done) | (rw [if_neg h169]; done)) | (rw [if_neg h6, if_neg (by rw [h28]; decide), if_neg (by omega), if_neg hk16]; unfold fdT; first | (rw [if_pos h169]; done) | (rw [if_neg h169]; done))) (by simp only [foM]; first | (rw [if_pos h6]; done) | (rw [if_neg h6, if_pos h28]; done) | (rw [if_neg h6, if_neg (by rw [h28]; decide), if_pos h71]; done) | (rw [if_neg h6, if_neg (by rw [h28]; decide), if_neg (by omega), if_pos hk16, if_pos h127]; done) | (rw [if_neg h6, if_neg (by rw [h28]; decide), if_neg (by omega), if_pos hk16, if_neg (by omega)]; unfold fdT; first | (rw [if_pos h169]; done) | (rw [if_neg h169]; done)) | (rw [if_neg h6, if_neg (by rw [h28]; decide), if_neg (by omega), if_neg hk16]; unfold fdT; first | (rw [if_pos h169]; done) | (rw [if_neg h169]; done)))
end S36
