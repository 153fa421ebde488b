/-! the meaning, side by side: leaves, tags, foods -/
section S63
variable {σ τ : Sg} {e : Int} {K V N S : Int → Int}
/-- the class's tokens -/
def TC (σ : Sg) (e : Int) (K V N S : Int → Int) : Prop := (0 ≤ e ∧ e ≤ 1500) ∧ ∀ t : Int, 0 ≤ t → t ≤ e → KC σ t = K t ∧ (K t = 22 → VC σ t = V t) ∧ (K t = 23 → VC σ t = N t ∧ 0 ≤ N t ∧ N t ≤ 9999) ∧ SC σ t = S t
theorem TC.fr (h : TC σ e K V N S) {z : Sg} (h3 : z 3 = σ 3) (h5 : z 5 = σ 5) (h6 : z 6 = σ 6) (h7 : z 7 = σ 7) : TC z e K V N S := by
  refine ⟨h.1, fun t t0 t1 => ?_⟩
  have e1 : KC z t = KC σ t := by unfold KC; rw [h3, h5]
  have e2 : VC z t = VC σ t := by unfold VC; rw [h3, h7]
  have e3 : SC z t = SC σ t := by unfold SC; rw [h3, h6]
  rw [e1, e2, e3]; exact h.2 t t0 t1
/-- what reading leaves as it was -/
def FrM (σ z : Sg) : Prop := ∀ k, k < 9 ∨ k = 50 ∨ 54 < k → z k = σ k
theorem FrM.rf : FrM σ σ := fun _ _ => rfl
theorem FrM.tr {z y : Sg} (h : FrM σ z) (g : FrM z y) : FrM σ y := fun k hk => (g k hk).trans (h k hk)
theorem FrM.u {z : Sg} {k j : Nat} {v : Int} (h : FrM σ z) (hk : 9 ≤ k ∧ k ≠ 50 ∧ k ≤ 54) : FrM σ (up z k j v) := fun q hq => (up_r _ _ _ (by omega)).trans (h q hq)
theorem FrM.nx {z : Sg} (h : FrM σ z) : FrM σ (nxM z) := h.u (by decide)
theorem FrM.fl {z : Sg} {c t : Int} (h : FrM σ z) : FrM σ (flM z c t) := (h.u (by decide)).u (by decide)
theorem FrM.ad {z : Sg} {k : Nat} {v : Int} (h : FrM σ z) (hk : 9 ≤ k ∧ k < 40) : FrM σ (addC z k v) := by
  unfold addC
  split
  · exact (h.u (by omega)).u (by omega)
  · exact h
theorem FrM.tc {z : Sg} (h : FrM σ z) (g : TC σ e K V N S) : TC z e K V N S := g.fr (h 3 (by decide)) (h 5 (by decide)) (h 6 (by decide)) (h 7 (by decide))
theorem TC.nx (h : TC σ e K V N S) : TC (nxM σ) e K V N S := FrM.tc FrM.rf.nx h
theorem nxM_6 (σ : Sg) : nxM σ 51 6 = σ 51 6 + 1 := up_s _ _ _ _
theorem nxM_j (σ : Sg) {k j : Nat} (h : k ≠ 51 ∨ j ≠ 6) : nxM σ k j = σ k j := by
  unfold nxM
  rcases h with h | h
  · exact up_k _ _ h
  · by_cases c : k = 51
    · subst c; exact up_j _ _ h
    · exact up_k _ _ c
theorem nxM_r (σ : Sg) {k : Nat} (h : k ≠ 51) : nxM σ k = σ k := up_r _ _ _ h
theorem flM_7 (σ : Sg) (c t : Int) : flM σ c t 51 7 = c ∧ flM σ c t 51 8 = t := ⟨(up_j _ _ (by decide)).trans (up_s _ _ _ _), up_s _ _ _ _⟩
theorem flM_j (σ : Sg) (c t : Int) {k j : Nat} (h : k ≠ 51 ∨ (j ≠ 7 ∧ j ≠ 8)) : flM σ c t k j = σ k j := by
  unfold flM
  by_cases c : k = 51
  · subst c
    have : j ≠ 7 ∧ j ≠ 8 := by rcases h with h | h; exact absurd rfl h; exact h
    rw [up_j _ _ this.2, up_j _ _ this.1]
  · rw [up_k _ _ c, up_k _ _ c]
theorem flM_r (σ : Sg) (c t : Int) {k : Nat} (h : k ≠ 51) : flM σ c t k = σ k := by unfold flM; rw [up_r _ _ _ h, up_r _ _ _ h]
theorem addC_e {k : Nat} {n v : Int} (h : σ k 2 = n) (hn : 0 ≤ n ∧ n < 16) : addC σ k v = up (up σ (k + 1) n.toNat v) k 2 (n + 1) := by
  unfold addC
  rw [h, i32_n n (by omega), if_pos hn]
theorem full_e {k : Nat} {n m : Int} (h : σ k 2 = n) (hn : 0 ≤ n ∧ n ≤ 16) (h1 : σ k 1 = m) (hm : 0 ≤ m ∧ m ≤ 16) : fullC σ k = decide (m ≤ n) := by
  unfold fullC
  rw [h, h1, i32_n n (by omega), i32_n m (by omega)]
theorem Uq_add {f : Nat → Int} {n v : Int} (hn : 0 ≤ n) (h : Uq f n) (hv : ∀ j : Nat, (j : Int) < n → I64 (f j) ≠ I64 v) {g : Nat → Int} (hg : ∀ j : Nat, (j : Int) < n → g j = f j) (hgn : g n.toNat = v) : Uq g (n + 1) := by
  intro i j hi hj he
  by_cases c1 : (i : Int) = n
  · have ei : i = n.toNat := by omega
    by_cases c2 : (j : Int) = n
    · omega
    · rw [ei, hgn, hg j (by omega)] at he
      exact absurd he.symm (hv j (by omega))
  · by_cases c2 : (j : Int) = n
    · have ej : j = n.toNat := by omega
      rw [ej, hgn, hg i (by omega)] at he
      exact absurd he (hv i (by omega))
    · rw [hg i (by omega), hg j (by omega)] at he
      exact h i j (by omega) (by omega) he
/-! numbers and names -/
theorem tn_e (h : TC σ e K V N S) {a lo hi : Int} (ha : 0 ≤ a ∧ a ≤ e) (hK : K a = 23) (h6 : σ 51 6 = a) (hlo : -1000000 ≤ lo ∧ lo ≤ 1000000) (hhi : -1000000 ≤ hi ∧ hi ≤ 1000000) :
    tnM σ lo hi = if lo ≤ N a ∧ N a ≤ hi then (true, nxM (up σ 51 9 (N a))) else (false, flM σ 5 a) := by
  have hv := ((h.2 a ha.1 ha.2).2.2.1 hK).1
  unfold tnM
  rw [h6, hv, i32_n lo hlo, i32_n hi hhi]
  by_cases c : lo ≤ N a ∧ N a ≤ hi
  · rw [if_neg (by omega), if_pos c]
  · rw [if_pos (by omega), if_neg c]
/-- a row of names on both sides: the class's cell k, the reference's ka, n of them -/
def NmR (σ τ : Sg) (k ka : Nat) (n m : Int) : Prop := σ k 2 = n ∧ (0 ≤ n ∧ n ≤ m) ∧ m ≤ 16 ∧ σ k 1 = m ∧ (∀ j : Nat, (j : Int) < n → σ (k + 1) j = τ ka j) ∧ Uq (τ ka) n
theorem NmR.idx {k ka : Nat} {n m : Int} (h : NmR σ τ k ka n m) (v : Int) : idxC σ k v = fnC τ ka n v := (idx_fn0 ⟨h.2.1.1, Int.le_trans h.2.1.2 h.2.2.1⟩ h.1 h.2.2.2.2.1 h.2.2.2.2.2).symm
theorem NmR.full {k ka : Nat} {n m : Int} (h : NmR σ τ k ka n m) : fullC σ k = decide (m ≤ n) := full_e h.1 ⟨h.2.1.1, Int.le_trans h.2.1.2 h.2.2.1⟩ h.2.2.2.1 ⟨Int.le_trans h.2.1.1 h.2.1.2, h.2.2.1⟩
theorem NmR.fr {k ka : Nat} {n m : Int} (h : NmR σ τ k ka n m) {z y : Sg} (h1 : z k 1 = σ k 1) (h2 : z k 2 = σ k 2) (h3 : ∀ j : Nat, (j : Int) < n → z (k + 1) j = σ (k + 1) j) (h4 : ∀ j : Nat, (j : Int) < n → y ka j = τ ka j) : NmR z y k ka n m := by
  obtain ⟨a1, a2, a3, a4, a5, a6⟩ := h
  refine ⟨h2.trans a1, a2, a3, h1.trans a4, fun j hj => by rw [h3 j hj, h4 j hj]; exact a5 j hj, fun i j hi hj he => ?_⟩
  rw [h4 i hi, h4 j hj] at he
  exact a6 i j hi hj he
theorem NmR.add {k ka : Nat} {n m v : Int} (h : NmR σ τ k ka n m) (hn : n < m) (hv : fnC τ ka n v = -1) {z y : Sg} (h1 : z k 1 = σ k 1) (h2 : z k 2 = n + 1) (h3 : ∀ j : Nat, (j : Int) < n → z (k + 1) j = σ (k + 1) j) (h4 : ∀ j : Nat, (j : Int) < n → y ka j = τ ka j) (h5 : z (k + 1) n.toNat = v) (h6 : y ka n.toNat = v) : NmR z y k ka (n + 1) m := by
  obtain ⟨a1, a2, a3, a4, a5, a6⟩ := h
  refine ⟨h2, ⟨by omega, by omega⟩, a3, h1.trans a4, fun j hj => ?_, ?_⟩
  · by_cases c : (j : Int) = n
    · have ej : j = n.toNat := by omega
      rw [ej, h5, h6]
    · rw [h3 j (by omega), h4 j (by omega)]; exact a5 j (by omega)
  · have hs := fn_spec (τ := τ) (ka := ka) (m := n) (v := v) ⟨a2.1, by omega⟩
    refine Uq_add a2.1 a6 (fun j hj => ?_) h4 h6
    rcases hs with ⟨-, z⟩ | ⟨z, -⟩
    · exact z j hj
    · omega
theorem NmR.idx_new {k ka : Nat} {n m v : Int} {z y : Sg} (h : NmR z y k ka (n + 1) m) (h0 : 0 ≤ n) (h6 : y ka n.toNat = v) (hy : ∀ j : Nat, (j : Int) < n → I64 (y ka j) ≠ I64 v) : idxC z k v = n := by
  rw [h.idx v]
  obtain ⟨a1, a2, a3, a4, a5, a6⟩ := h
  rcases fn_spec (τ := y) (ka := ka) (m := n + 1) (v := v) ⟨by omega, by omega⟩ with ⟨-, b⟩ | ⟨b1, b2⟩
  · exact absurd (by rw [h6]) (b n.toNat (by omega))
  · by_cases c : fnC y ka (n + 1) v = n
    · exact c
    · exact absurd b2 (hy _ (by omega))
/-! tags -/
theorem I32_ior (x y : Int) : I32 (ior x y) = I32 x ||| I32 y := I32_of _
theorem ior_as (x y z : Int) : ior (ior x y) z = ior x (ior y z) := by
  have h : I32 (ior x y) ||| I32 z = I32 x ||| I32 (ior y z) := by
    rw [I32_ior, I32_ior]
    exact Int32.or_assoc (I32 x) (I32 y) (I32 z)
  unfold ior at h ⊢
  rw [h]
theorem ior_cm (x y : Int) : ior x y = ior y x := by
  unfold ior
  rw [Int32.or_comm]
abbrev TgR (σ τ : Sg) : Prop := NmR σ τ 16 110 (τ 84 36) 16
theorem tg_1 {a : Int} (hT : TC σ e K V N S) (hR : TgR σ τ) (h6 : σ 51 6 = a) (h0 : 0 ≤ a) (h1 : a + 1 ≤ e) (hk : K (a + 1) = 22) :
    ((thI τ (V (a + 1)) = -1 ∧ τ 84 36 = 16) → tg1M σ = (false, flM (nxM σ) 4 (a + 1))) ∧
    (¬ (thI τ (V (a + 1)) = -1 ∧ τ 84 36 = 16) → (tg1M σ).1 = true ∧ (∀ k, k ≠ 16 ∧ k ≠ 17 ∧ k ≠ 51 → tg2M (tg1M σ).2 (V (a + 1)) k = σ k) ∧ (∀ j, j ≠ 6 ∧ j ≠ 10 → tg2M (tg1M σ).2 (V (a + 1)) 51 j = σ 51 j) ∧ tg2M (tg1M σ).2 (V (a + 1)) 51 6 = a + 2 ∧ tg2M (tg1M σ).2 (V (a + 1)) 51 10 = ior (σ 51 10) (ishl 1 (th2 τ (V (a + 1)))) ∧ TgR (tg2M (tg1M σ).2 (V (a + 1))) (th1 τ (V (a + 1)))) := by
  have hv : VC σ (σ 51 6 + 1) = V (a + 1) := by rw [h6]; exact (hT.2 (a + 1) (by omega) h1).2.1 hk
  have hR2 : NmR (nxM σ) τ 16 110 (τ 84 36) 16 := hR.fr (nxM_j σ (Or.inl (by decide))) (nxM_j σ (Or.inl (by decide))) (fun j _ => nxM_j σ (Or.inl (by decide))) (fun _ _ => rfl)
  have hidx : idxC (nxM σ) 16 (V (a + 1)) = thI τ (V (a + 1)) := hR2.idx _
  have hful := hR2.full
  have hn := hR.2.1
  unfold tg1M
  rw [hv, hidx, hful, h6]
  by_cases c : thI τ (V (a + 1)) = -1
  · rw [if_pos c]
    by_cases c2 : τ 84 36 = 16
    · rw [if_pos (decide_eq_true (by omega))]
      exact ⟨fun _ => rfl, fun z => absurd ⟨c, c2⟩ z⟩
    · rw [if_neg (fun z => by have := of_decide_eq_true z; omega)]
      refine ⟨fun z => absurd z.2 c2, fun _ => ⟨rfl, ?_⟩⟩
      have hadd : addC (nxM σ) 16 (V (a + 1)) = up (up (nxM σ) 17 (τ 84 36).toNat (V (a + 1))) 16 2 (τ 84 36 + 1) := addC_e hR2.1 ⟨hn.1, by omega⟩
      have e1 : th1 τ (V (a + 1)) = incS 36 (up τ 110 (τ 84 36).toNat (V (a + 1))) := if_pos c
      have e2 : th2 τ (V (a + 1)) = τ 84 36 := if_pos c
      have e36 : th1 τ (V (a + 1)) 84 36 = τ 84 36 + 1 := by rw [e1, incS_s, up_k _ _ (by decide)]
      have h110 : ∀ j : Nat, (j : Int) < τ 84 36 → th1 τ (V (a + 1)) 110 j = τ 110 j := fun j hj => by rw [e1, incS_k _ (by decide), up_j _ _ (by omega)]
      have h110n : th1 τ (V (a + 1)) 110 (τ 84 36).toNat = V (a + 1) := by rw [e1, incS_k _ (by decide), up_s]
      dsimp only
      rw [hadd]
      generalize hp : up (up (nxM σ) 17 (τ 84 36).toNat (V (a + 1))) 16 2 (τ 84 36 + 1) = p
      have pk : ∀ k, k ≠ 16 ∧ k ≠ 17 → p k = nxM σ k := fun k hk => by rw [← hp, up_r _ _ _ hk.1, up_r _ _ _ hk.2]
      have hRp : NmR p (th1 τ (V (a + 1))) 16 110 (τ 84 36 + 1) 16 := hR2.add (by omega) c (by rw [← hp, up_j _ _ (by decide), up_k _ _ (by decide)]) (by rw [← hp, up_s]) (fun j hj => by rw [← hp, up_k _ _ (by decide), up_j _ _ (by omega)]) h110 (by rw [← hp, up_k _ _ (by decide), up_s]) h110n
      have hix : idxC p 16 (V (a + 1)) = τ 84 36 := hRp.idx_new hn.1 h110n (fun j hj => by
        rw [h110 j hj]
        rcases fn_spec (τ := τ) (ka := 110) (m := τ 84 36) (v := V (a + 1)) ⟨hn.1, hn.2⟩ with ⟨-, z⟩ | ⟨z, -⟩
        · exact z j hj
        · have c : fnC τ 110 (τ 84 36) (V (a + 1)) = -1 := c
          omega)
      unfold tg2M
      rw [hix, e2]
      refine ⟨fun k hk => ?_, fun j hj => ?_, ?_, ?_, ?_⟩
      · rw [nxM_r _ hk.2.2, up_r _ _ _ hk.2.2, pk k ⟨hk.1, hk.2.1⟩, nxM_r _ hk.2.2]
      · rw [nxM_j _ (Or.inr hj.1), up_j _ _ hj.2, pk 51 (by decide), nxM_j _ (Or.inr hj.1)]
      · rw [nxM_6, up_j _ _ (by decide), pk 51 (by decide), nxM_6, h6]; omega
      · rw [nxM_j _ (Or.inr (by decide)), up_s, pk 51 (by decide), nxM_j _ (Or.inr (by decide))]
      · unfold TgR
        rw [e36]
        exact hRp.fr (by rw [nxM_j _ (Or.inl (by decide)), up_k _ _ (by decide)]) (by rw [nxM_j _ (Or.inl (by decide)), up_k _ _ (by decide)]) (fun j _ => by rw [nxM_j _ (Or.inl (by decide)), up_k _ _ (by decide)]) (fun _ _ => rfl)
  · rw [if_neg c]
    refine ⟨fun z => absurd z.1 c, fun _ => ⟨rfl, ?_⟩⟩
    have e1 : th1 τ (V (a + 1)) = τ := if_neg c
    have e2 : th2 τ (V (a + 1)) = thI τ (V (a + 1)) := if_neg c
    dsimp only
    unfold tg2M
    rw [hidx, e2, e1]
    refine ⟨fun k hk => ?_, fun j hj => ?_, ?_, ?_, ?_⟩
    · rw [nxM_r _ hk.2.2, up_r _ _ _ hk.2.2, nxM_r _ hk.2.2]
    · rw [nxM_j _ (Or.inr hj.1), up_j _ _ hj.2, nxM_j _ (Or.inr hj.1)]
    · rw [nxM_6, up_j _ _ (by decide), nxM_6, h6]; omega
    · rw [nxM_j _ (Or.inr (by decide)), up_s, nxM_j _ (Or.inr (by decide))]
    · exact hR2.fr (by rw [nxM_j _ (Or.inl (by decide)), up_k _ _ (by decide)]) (by rw [nxM_j _ (Or.inl (by decide)), up_k _ _ (by decide)]) (fun j _ => by rw [nxM_j _ (Or.inl (by decide)), up_k _ _ (by decide)]) (fun _ _ => rfl)
/-- how a row of tags ends -/
def TgU (e : Int) (σ : Sg) (x : Bool × Sg) (y : Int × Sg) (b base : Int) : Prop :=
  (∀ k, k ≠ 16 ∧ k ≠ 17 ∧ k ≠ 51 → x.2 k = σ k) ∧ (∀ j, j < 6 ∨ j = 9 ∨ 10 < j → x.2 51 j = σ 51 j) ∧
  ((x.1 = true ∧ (0 ≤ y.1 ∧ inr y.1) ∧ x.2 51 6 = b ∧ x.2 51 10 = ior base y.1 ∧ x.2 51 7 = σ 51 7 ∧ x.2 51 8 = σ 51 8 ∧ TgR x.2 y.2) ∨ (x.1 = false ∧ y.1 = -1 ∧ x.2 51 7 = 4 ∧ x.2 51 8 = y.2 84 8 ∧ 0 ≤ y.2 84 8 ∧ y.2 84 8 ≤ e))
theorem TgU.tr {σ z : Sg} {x : Bool × Sg} {y : Int × Sg} {b base : Int} (h : TgU e z x y b base) (h1 : ∀ k, k ≠ 16 ∧ k ≠ 17 ∧ k ≠ 51 → z k = σ k) (h2 : ∀ j, j ≠ 6 ∧ j ≠ 10 → z 51 j = σ 51 j) : TgU e σ x y b base := by
  obtain ⟨a1, a2, a3⟩ := h
  refine ⟨fun k hk => (a1 k hk).trans (h1 k hk), fun j hj => (a2 j hj).trans (h2 j (by omega)), ?_⟩
  rcases a3 with ⟨b1, b2, b3, b4, b5, b6, b7⟩ | z
  · exact Or.inl ⟨b1, b2, b3, b4, b5.trans (h2 7 (by decide)), b6.trans (h2 8 (by decide)), b7⟩
  · exact Or.inr z
theorem TC.tg {z : Sg} (hT : TC σ e K V N S) (h1 : ∀ k, k ≠ 16 ∧ k ≠ 17 ∧ k ≠ 51 → z k = σ k) : TC z e K V N S := hT.fr (h1 3 (by decide)) (h1 5 (by decide)) (h1 6 (by decide)) (h1 7 (by decide))
theorem th2_bd (hR : TgR σ τ) {v : Int} (h : ¬ (thI τ v = -1 ∧ τ 84 36 = 16)) : 0 ≤ th2 τ v ∧ th2 τ v < 16 := by
  have hn := hR.2.1
  have := thI_in (σ := τ) ⟨hn.1, hn.2⟩ v
  unfold th2
  split <;> omega
theorem set_or {s d : Int} (hs : 0 ≤ s ∧ inr s) (hd : 0 ≤ d ∧ d < 16) : 0 ≤ ior s (ishl 1 d) ∧ inr (ior s (ishl 1 d)) := by
  have h := ishl_1nn d.toNat (by omega)
  rw [show ((d.toNat : Nat) : Int) = d from by omega] at h
  exact ⟨ior_nn hs.2 (ishl_inr _ _) hs.1 h, ior_inr _ _⟩
theorem tg_l {b base : Int} (hb : K b = 17) (hbe : b ≤ e) : ∀ (m n n2 : Nat) (σ τ : Sg) (a set : Int), m + 1 < n → m < n2 → TC σ e K V N S → TgR σ τ → ¬ K a = 17 → K (a + 1) = 22 → TgC K m (a + 2) b → 0 ≤ a → a + 2 ≤ b → σ 51 6 = a → τ 84 8 = a + 1 → (0 ≤ set ∧ inr set) → σ 51 10 = ior base set → TgU e σ (tgL n σ) (thL K V n2 set τ) b base := by
  intro m
  induction m with
  | zero =>
    intro n n2 σ τ a set hn hn2 hT hR ka k22 hg a0 ab h6 h8 hset h10
    obtain ⟨n, rfl⟩ : ∃ q, n = q + 1 + 1 := ⟨n - 2, by omega⟩
    obtain ⟨n2, rfl⟩ : ∃ q, n2 = q + 1 := ⟨n2 - 1, by omega⟩
    obtain ⟨g1, g2⟩ := hg
    have hkc : KC σ (σ 51 6) = K a := by rw [h6]; exact (hT.2 a a0 (by omega)).1
    have hv : VC σ (σ 51 6 + 1) = V (a + 1) := by rw [h6]; exact (hT.2 (a + 1) (by omega) (by omega)).2.1 k22
    obtain ⟨p1, p2⟩ := tg_1 hT hR h6 a0 (by omega) k22
    have ex : tgL (n + 1 + 1) σ = if (tg1M σ).1 = true then tgL (n + 1) (tg2M (tg1M σ).2 (V (a + 1))) else (false, (tg1M σ).2) := by
      show (if ¬ KC σ (σ 51 6) = 17 then _ else _) = _
      rw [hkc, if_pos ka, hv]
    have ey : thL K V (n2 + 1) set τ = if thI τ (V (a + 1)) = -1 ∧ τ 84 36 = 16 then (-1, τ) else (ior set (ishl 1 (th2 τ (V (a + 1)))), incS 8 (th1 τ (V (a + 1)))) := by
      show (if thI τ (V (τ 84 8)) = -1 ∧ τ 84 36 = 16 then _ else if K (τ 84 8 + 1) = 19 then _ else _) = _
      rw [h8, if_neg (show ¬ K (a + 1 + 1) = 19 by rw [ad11, ← g1]; exact g2)]
    rw [ex, ey]
    by_cases c : thI τ (V (a + 1)) = -1 ∧ τ 84 36 = 16
    · rw [p1 c, if_neg (by first | exact fun z => ff z | decide), if_pos c]
      refine ⟨fun k hk => by dsimp only; rw [flM_r _ _ _ hk.2.2, nxM_r _ hk.2.2], fun j hj => by dsimp only; rw [flM_j _ _ _ (Or.inr (by omega)), nxM_j _ (Or.inr (by omega))], Or.inr ⟨rfl, rfl, by dsimp only; rw [(flM_7 _ _ _).1], by dsimp only; rw [(flM_7 _ _ _).2, h8], by dsimp only; omega, by dsimp only; omega⟩⟩
    · obtain ⟨q1, q2, q3, q4, q5, q6⟩ := p2 c
      rw [if_pos q1, if_neg c]
      generalize tg2M (tg1M σ).2 (V (a + 1)) = z at q2 q3 q4 q5 q6 ⊢
      have hT2 := hT.tg q2
      have hkz : KC z (z 51 6) = 17 := by rw [q4, (hT2.2 (a + 2) (by omega) (by omega)).1, ← g1]; exact hb
      have ez : tgL (n + 1) z = (true, z) := by
        show (if ¬ KC z (z 51 6) = 17 then _ else _) = _
        rw [if_neg (fun w => w hkz)]
      rw [ez]
      refine ⟨q2, fun j hj => q3 j (by omega), Or.inl ⟨rfl, set_or hset (th2_bd hR c), q4.trans g1.symm, ?_, q3 7 (by decide), q3 8 (by decide), ?_⟩⟩
      · dsimp only; rw [q5, h10, ior_as]
      · exact q6
  | succ m ih =>
    intro n n2 σ τ a set hn hn2 hT hR ka k22 hg a0 ab h6 h8 hset h10
    obtain ⟨n, rfl⟩ : ∃ q, n = q + 1 := ⟨n - 1, by omega⟩
    obtain ⟨n2, rfl⟩ : ∃ q, n2 = q + 1 := ⟨n2 - 1, by omega⟩
    obtain ⟨g1, g2, g3⟩ := hg
    have hkc : KC σ (σ 51 6) = K a := by rw [h6]; exact (hT.2 a a0 (by omega)).1
    have hv : VC σ (σ 51 6 + 1) = V (a + 1) := by rw [h6]; exact (hT.2 (a + 1) (by omega) (by omega)).2.1 k22
    obtain ⟨p1, p2⟩ := tg_1 hT hR h6 a0 (by omega) k22
    have ex : tgL (n + 1) σ = if (tg1M σ).1 = true then tgL n (tg2M (tg1M σ).2 (V (a + 1))) else (false, (tg1M σ).2) := by
      show (if ¬ KC σ (σ 51 6) = 17 then _ else _) = _
      rw [hkc, if_pos ka, hv]
    have ey : thL K V (n2 + 1) set τ = if thI τ (V (a + 1)) = -1 ∧ τ 84 36 = 16 then (-1, τ) else thL K V n2 (ior set (ishl 1 (th2 τ (V (a + 1))))) (incS 8 (incS 8 (th1 τ (V (a + 1))))) := by
      show (if thI τ (V (τ 84 8)) = -1 ∧ τ 84 36 = 16 then _ else if K (τ 84 8 + 1) = 19 then _ else _) = _
      rw [h8, if_pos (show K (a + 1 + 1) = 19 by rw [ad11]; exact g1)]
    rw [ex, ey]
    by_cases c : thI τ (V (a + 1)) = -1 ∧ τ 84 36 = 16
    · rw [p1 c, if_neg (by first | exact fun z => ff z | decide), if_pos c]
      refine ⟨fun k hk => by dsimp only; rw [flM_r _ _ _ hk.2.2, nxM_r _ hk.2.2], fun j hj => by dsimp only; rw [flM_j _ _ _ (Or.inr (by omega)), nxM_j _ (Or.inr (by omega))], Or.inr ⟨rfl, rfl, by dsimp only; rw [(flM_7 _ _ _).1], by dsimp only; rw [(flM_7 _ _ _).2, h8], by dsimp only; omega, by dsimp only; omega⟩⟩
    · obtain ⟨q1, q2, q3, q4, q5, q6⟩ := p2 c
      rw [if_pos q1, if_neg c]
      generalize tg2M (tg1M σ).2 (V (a + 1)) = z at q2 q3 q4 q5 q6 ⊢
      have hT2 := hT.tg q2
      have hle : a + 2 + 2 ≤ b := by
        have : ∀ (m : Nat) (a : Int), TgC K m a b → a ≤ b := by
          intro m
          induction m with
          | zero => intro a h; have := h.1; omega
          | succ m ihm => intro a h; have := ihm _ h.2.2; omega
        exact this m _ g3
      refine TgU.tr (ih n n2 z (incS 8 (incS 8 (th1 τ (V (a + 1))))) (a + 2) _ (by omega) (by omega) hT2 q6 (by rw [g1]; decide) (by rw [show a + 2 + 1 = a + 3 from by omega]; rw [show a + 2 + 1 = a + 3 from by omega] at g2; exact g2) g3 (by omega) hle q4 (by rw [incS_s, incS_s, th1_j _ _ (by decide), h8]; omega) (set_or hset (th2_bd hR c)) (by rw [q5, h10, ior_as])) q2 q3
/-- the tags of an item, or none -/
theorem tg_ok {a b base : Int} {n : Nat} (hn : 1500 ≤ n) (hk : Tk τ e K V N S) (hT : TC σ e K V N S) (hR : TgR σ τ) (hb : K b = 17) (hg : TgO K a b) (h6 : σ 51 6 = a) (h8 : τ 84 8 = a) (h0 : 0 ≤ a) (h10 : σ 51 10 = ior base 0) : TgU e σ (tgL n σ) (thC K V τ) b base := by
  have hbi := hk.in hb (by decide)
  rcases hg with ⟨g1, g2⟩ | ⟨g1, g2, m, g3⟩
  · subst g2
    obtain ⟨n, rfl⟩ : ∃ q, n = q + 1 := ⟨n - 1, by omega⟩
    have hkc : KC σ (σ 51 6) = 17 := by rw [h6, (hT.2 b h0 (by omega)).1]; exact hb
    have ez : tgL (n + 1) σ = (true, σ) := by
      show (if ¬ KC σ (σ 51 6) = 17 then _ else _) = _
      rw [if_neg (fun w => w hkc)]
    have ey : thC K V τ = (0, τ) := by unfold thC; rw [h8, if_neg g1]
    rw [ez, ey]
    exact ⟨fun _ _ => rfl, fun _ _ => rfl, Or.inl ⟨rfl, ⟨Int.le_refl _, inr_0⟩, h6, h10, rfl, rfl, hR⟩⟩
  · have hl := TgC_len hk m _ g3 (by omega)
    have he := hk.e
    have ey : thC K V τ = thL K V 1501 0 (incS 8 τ) := by unfold thC; rw [h8, if_pos g1]
    rw [ey]
    exact tg_l hb (by omega) m n 1501 σ (incS 8 τ) a 0 (by omega) (by omega) hT hR (by rw [g1]; decide) g2 g3 h0 (by omega) h6 (by rw [incS_s, h8]) ⟨Int.le_refl _, inr_0⟩ h10
end S63
