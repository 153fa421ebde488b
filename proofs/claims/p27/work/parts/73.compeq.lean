/-! compile, side by side -/
section S73
variable {σ τ : Sg} {e : Int} {K V N S : Int → Int}
/-! what the reference's reading leaves as it was -/
def Fz (k j : Nat) : Prop := (k < 89 ∧ k ≠ 84) ∨ (k = 84 ∧ (j = 0 ∨ j = 2 ∨ j = 3 ∨ j = 9 ∨ j = 38 ∨ j = 39))
theorem Fz_i {k j q : Nat} (h : Fz k j) (hq : q = 4 ∨ q = 8 ∨ q = 10 ∨ q = 15 ∨ q = 23 ∨ q = 25 ∨ q = 30 ∨ q = 36) (σ : Sg) : incS q σ k j = σ k j := by
  rcases h with h | ⟨rfl, h⟩
  · exact incS_k _ (by omega) _
  · exact incS_j _ (by omega)
theorem Fz_o {k j q : Nat} {v : Int} (h : Fz k j) (hq : q = 4 ∨ q = 8) (σ : Sg) : up σ 84 q v k j = σ k j := by
  rcases h with h | ⟨rfl, h⟩
  · exact up_k _ _ (by omega)
  · exact up_j _ _ (by omega)
theorem Fz_u {k j q i : Nat} {v : Int} (h : Fz k j) (hq : 88 < q) (σ : Sg) : up σ q i v k j = σ k j := up_k _ _ (by unfold Fz at h; omega)
theorem Fz_t {k j : Nat} (h : Fz k j) (σ : Sg) : (thC K V σ).2 k j = σ k j := thC_keep (by unfold Fz at h; omega) σ
theorem foM_z {k j : Nat} (h : Fz k j) (first : Int) : (foM K V N S first σ).2 k j = σ k j := by
  have q : ∀ (f : Nat) (v en pr : Int) (x : Sg), (fdT K V S f v en pr x).2 k j = x k j := by
    intro f v en pr x
    unfold fdT
    split
    · dsimp only; rw [Fz_o h (by decide), Fz_t h]
    · dsimp only; rw [Fz_i h (by decide), Fz_u h (by decide), Fz_u h (by decide), Fz_u h (by decide), Fz_u h (by decide), Fz_t h]
  unfold foM
  split
  · exact Fz_o h (by decide) _
  · split
    · exact Fz_o h (by decide) _
    · split
      · dsimp only; rw [Fz_o h (by decide), Fz_i h (by decide)]
      · split
        · split
          · dsimp only; rw [Fz_o h (by decide), Fz_i h (by decide), Fz_i h (by decide), Fz_i h (by decide)]
          · rw [q, Fz_i h (by decide), Fz_i h (by decide), Fz_i h (by decide), Fz_i h (by decide)]
        · rw [q, Fz_i h (by decide), Fz_i h (by decide)]
theorem dpL_z {k j : Nat} (h : Fz k j) (n : Nat) (x : Sg) (hC : Cn x) : (dpL K V N S n x).2 k j = x k j := by
  rcases h with h | ⟨rfl, h⟩
  · rw [dpL_k (by omega) _ _ hC]
  · exact dpL_j (by omega) _ _ hC
theorem dsM_z {k j : Nat} (h : Fz k j) (hI : IV e K V N S σ) (first : Int) : (dsM K V N S first σ).2 k j = σ k j := by
  have q1 : ∀ n2 : Int, dsZ (σ 84 15) n2 σ k j = σ k j := by
    intro n2
    rcases h with h | ⟨rfl, h⟩
    · rw [dsZ_k (by omega)]
    · exact dsZ_j (by omega)
  unfold dsM
  split
  · exact Fz_o h (by decide) _
  · rename_i c1
    split
    · exact Fz_o h (by decide) _
    · split
      · rename_i c2
        have hC2 := (DI.z (n2 := N (σ 84 8 + 2)) hI.1 hI.2.1 hI.2.2.1 (by have := hI.2.1.2.1; omega)).2.1
        have q2 := dpL_z (K := K) (V := V) (N := N) (S := S) h 1501 _ hC2
        rw [q1] at q2
        unfold dsP
        split
        · unfold dsE
          split
          · dsimp only; rw [Fz_o h (by decide), Fz_t h]; exact q2
          · split
            · dsimp only; rw [Fz_o h (by decide)]; unfold dsT; rw [Fz_u h (by decide), Fz_t h]; exact q2
            · dsimp only; rw [Fz_i h (by decide), Fz_u h (by decide)]; unfold dsT; rw [Fz_u h (by decide), Fz_t h]; exact q2
        · exact q2
      · dsimp only; rw [Fz_o h (by decide), Fz_o h (by decide)]
theorem loL_z {k j : Nat} (h : Fz k j) : ∀ (n : Nat) (x : Sg), (loL K V S n x).2 k j = x k j := by
  intro n x
  rcases h with h | ⟨rfl, h⟩
  · rw [loL_k (by omega)]
  · exact loL_j (by omega) _ _
theorem meC_z {k j : Nat} (h : Fz k j) : (meC K V S σ).2 k j = σ k j := by
  unfold meC
  split
  · exact Fz_o h (by decide) _
  · unfold loM
    rw [loL_z h]
    unfold meT
    rw [Fz_i h (by decide), Fz_u h (by decide), Fz_u h (by decide), Fz_u h (by decide)]
theorem meL_z {k j : Nat} (h : Fz k j) : ∀ (n : Nat) (x : Sg), (meL K V S n x).2 k j = x k j
  | 0, x => rfl
  | n + 1, x => by
    simp only [meL]
    split
    · split
      · rw [meL_z h n, meC_z h, Fz_i h (by decide)]
      · dsimp only; rw [meC_z h, Fz_i h (by decide)]
    · dsimp only; rw [meC_z h, Fz_i h (by decide)]
theorem meM_z {k j : Nat} (h : Fz k j) (first : Int) : (meM K V S first σ).2 k j = σ k j := by
  unfold meM
  split
  · exact Fz_o h (by decide) _
  · split
    · exact Fz_o h (by decide) _
    · rw [meL_z h, Fz_i h (by decide), Fz_i h (by decide), Fz_u h (by decide)]
theorem ru1_z {k j : Nat} (h : Fz k j) (so : Int) : ru1 σ so k j = σ k j := by unfold ru1; rw [Fz_i h (by decide), Fz_u h (by decide)]
theorem ru2_z {k j : Nat} (h : Fz k j) (so : Int) : ru2 N σ so k j = σ k j := by unfold ru2; rw [Fz_i h (by decide), Fz_u h (by decide), Fz_u h (by decide), Fz_u h (by decide), Fz_u h (by decide), ru1_z h]
theorem ru3_z {k j : Nat} (h : Fz k j) (so : Int) : ru3 V N σ so k j = σ k j := by unfold ru3; rw [Fz_i h (by decide), Fz_u h (by decide), Fz_u h (by decide), ru2_z h]
theorem ruE_z {k j : Nat} (h : Fz k j) (r : Nat) (X : Sg) (p lo hi : Int) : (ruE N S r X p lo hi).2 k j = X k j := by
  unfold ruE
  split
  · dsimp only; rw [Fz_i h (by decide), Fz_i h (by decide), Fz_u h (by decide), Fz_i h (by decide)]
  · dsimp only; rw [Fz_o h (by decide), Fz_i h (by decide)]
theorem ruB_z {k j : Nat} (h : Fz k j) (so lo hi : Int) : (ruB V N S σ so lo hi).2 k j = σ k j := by
  unfold ruB
  split
  · split
    · rw [ruE_z h, ru2_z h]
    · split
      · split
        · dsimp only; rw [Fz_i h (by decide), ru3_z h]
        · rw [ruE_z h, ru3_z h]
      · dsimp only; rw [Fz_o h (by decide), ru2_z h]
  · dsimp only; rw [Fz_o h (by decide), ru1_z h]
theorem ruM_z {k j : Nat} (h : Fz k j) (first : Int) : (ruM K V N S first σ).2 k j = σ k j := by
  unfold ruM
  split
  · exact Fz_o h (by decide) _
  · split
    · exact ruB_z h _ _ _
    · split
      · exact ruB_z h _ _ _
      · split
        · exact ruB_z h _ _ _
        · exact ruB_z h _ _ _
theorem mnI_z {k j : Nat} (h : Fz k j) (hI : IV e K V N S σ) (first : Int) : (mnI K V N S first σ).2 k j = σ k j := by
  unfold mnI
  split
  · exact foM_z h first
  · split
    · exact dsM_z h hI first
    · split
      · exact meM_z h first
      · exact ruM_z h first
theorem mnL_z {k j : Nat} (h : Fz k j) : ∀ (m n : Nat) (σ : Sg), IV e K V N S σ → PgE K m (σ 84 8) → m < n → (mnL K V N S n σ).2 k j = σ k j := by
  intro m
  induction m with
  | zero =>
    intro n σ hI hg hn
    obtain ⟨n, rfl⟩ : ∃ q, n = q + 1 := ⟨n - 1, by omega⟩
    have hg : K (σ 84 8) = 25 := hg
    simp only [mnL]
    rw [if_pos hg]
    split
    · exact Fz_o h (by decide) _
    · rfl
  | succ m ih =>
    intro n σ hI hg hn
    obtain ⟨n, rfl⟩ : ∃ q, n = q + 1 := ⟨n - 1, by omega⟩
    obtain ⟨b, g1, g2⟩ := hg
    simp only [mnL]
    rw [if_neg (It_ne g1)]
    by_cases c : (mnI K V N S (σ 84 8) (incS 8 σ)).1 = 0
    · rw [if_pos c]
      obtain ⟨q1, q2, -⟩ := mnI_inv hI g1 c
      rw [ih n _ q1.i8 (by rw [incS_s, q2]; exact g2) (by omega), Fz_i h (by decide), mnI_z h hI.i8, Fz_i h (by decide)]
    · rw [if_neg c, mnI_z h hI.i8, Fz_i h (by decide)]
/-! the class's tokens behind a scan -/
theorem nm_bd (hb : Rb τ) {t : Nat} (hw : WfT τ t) (ht : Rt τ) (hk : kdR τ t = 22) : inl (nmV τ t) := by
  have h86 := (ht t).1
  have h87 := (ht t).2
  have hL : τ 88 t = τ 87 t + ((τ 88 t - τ 87 t).toNat : Nat) := by omega
  have e : nmV τ t = V27 (fun i => τ 85 (τ 87 t + i).toNat - 96) (τ 88 t - τ 87 t).toNat := by
    unfold nmV
    have := nm_V0 τ (τ 87 t) (τ 88 t - τ 87 t).toNat 1500 (by omega)
    rw [← hL] at this
    exact this
  rw [e]
  have c : τ 86 t = 1 ∨ τ 86 t = 3 := by
    unfold kdR at hk
    by_cases c0 : τ 86 t = 0
    · rw [if_pos c0] at hk; omega
    · rw [if_neg c0] at hk
      by_cases c2 : τ 86 t = 2
      · rw [if_pos c2] at hk; omega
      · rw [if_neg c2] at hk
        by_cases c4 : τ 86 t = 4
        · rw [if_pos c4] at hk; omega
        · omega
  rcases c with c | c
  · obtain ⟨w1, w2, w3⟩ := hw.1 c
    have := V27_10 (f := fun i => τ 85 (τ 87 t + i).toNat - 96) (n := (τ 88 t - τ 87 t).toNat) (by omega) (fun j j0 j1 => by
      have := let_rng (hb.2 _) (w3 (τ 87 t + j) (by omega) (by omega))
      omega)
    exact ⟨by omega, by omega⟩
  · obtain ⟨w1, -⟩ := hw.2.2 c
    have e1 : (τ 88 t - τ 87 t).toNat = 1 := by omega
    rw [e1]
    have h0 := hb.2 (τ 87 t + ((0 : Nat) : Int)).toNat
    show inl (27 * 0 + (τ 85 (τ 87 t + ((0 : Nat) : Int)).toNat - 96))
    exact ⟨by omega, by omega⟩
theorem TC_of {z : Sg} (h : TkS z τ (e + 1)) (hk : Tk τ e (KR τ e) (Vx τ) (Nx τ) (Sx τ)) (hw : ∀ t : Nat, (t : Int) ≤ e → WfT τ t) : TC z e (KR τ e) (Vx τ) (Nx τ) (Sx τ) := by
  have he := hk.e
  refine ⟨he, fun t t0 t1 => ?_⟩
  obtain ⟨n, rfl⟩ : ∃ n : Nat, t = n := ⟨t.toNat, by omega⟩
  have en : ((n : Int)).toNat = n := by omega
  obtain ⟨g1, g2, g3, g4⟩ := h.2 n (by omega)
  have kb : 0 ≤ kdR τ n ∧ kdR τ n ≤ 25 := by
    have := kdF_le τ n
    unfold kdR
    (repeat' split) <;> omega
  have e34 : i32 (z 3 4) = e + 1 := by rw [h.1]; exact i32_n _ (by omega)
  have eK : KR τ e n = kdR τ n := by rw [KR_in ⟨t0, t1⟩, en]
  have cond : 0 ≤ i32 (n : Int) ∧ i32 (n : Int) < i32 (z 3 4) ∧ i32 (n : Int) < 1501 := by rw [e34, i32_n (n : Int) (by omega)]; omega
  rw [eK]
  refine ⟨?_, fun k22 => ?_, fun k23 => ?_, ?_⟩
  · unfold KC
    rw [if_pos cond, i32_n (n : Int) (by omega), en, g1, i32_n _ (by omega)]
  · unfold VC
    rw [if_pos cond, i32_n (n : Int) (by omega), en, g3 k22, i64_eq (nm_bd hk.1.1 (hw n t1) hk.1.2.1 k22)]
    show _ = nmV τ ((n : Int)).toNat
    rw [en]
  · have hN := hk.2.2.2.1 n (by rw [eK]; exact k23)
    have hNe : Nx τ (n : Int) = nuV τ n := by show nuV τ ((n : Int)).toNat = _; rw [en]
    refine ⟨?_, hN⟩
    unfold VC
    rw [if_pos cond, i32_n (n : Int) (by omega), en, g4 k23]
    rw [hNe] at hN ⊢
    exact i64_eq ⟨by omega, by omega⟩
  · unfold SC
    rw [if_pos cond, i32_n (n : Int) (by omega), en, g2]
    show _ = τ 87 ((n : Int)).toNat
    rw [en]
/-- the forms, from the beginning of the tape -/
theorem PQ_0 {K J : Int → Int} {e : Int} (hK : HK K J e) (s t : Pp) (hs : s.1 = 0) (ht : t.1 = 0) (hb : bd e t) (hT : Tk τ e J V N S) : Sq e 0 (pQ K 1500 true s) (qProg J 1501 t) := by
  have he := hK.1
  by_cases c : e ≤ 1499
  · have := PQ_prog hK e.toNat 1500 1501 s t (by rw [hs, ht]) (by omega) (by omega) (by omega) (by omega)
    rw [hs] at this
    exact this
  · obtain ⟨⟨e1, e2, e3, e4⟩, e5⟩ := PQ_item hK s t (by rw [hs, ht]) (by omega)
    have a1 : pQ K 1500 true s = if (pItem K s).1 = true then pQ K 1499 false (pItem K s).2 else (false, (pItem K s).2) := if_pos (Or.inl rfl)
    have a2 : qProg J 1501 t = if (qItem J t).1 = true then (if J (qItem J t).2.1 = 25 then (true, (qItem J t).2) else qProg J 1500 (qItem J t).2) else (false, (qItem J t).2) := rfl
    rw [a1, a2]
    by_cases c1 : (pItem K s).1 = true
    · have h5 := e5 c1
      have c1' : (qItem J t).1 = true := e1 ▸ c1
      have hJ25 : J e = 25 := by rw [hK.j he.1 (Int.le_refl _)]; exact hK.2.1
      obtain ⟨b, g1, g2⟩ := qItem_ok hJ25 he.2 hb c1'
      obtain ⟨g3, -⟩ := It_b hT g1
      rw [ht] at g3
      rw [if_pos c1, if_pos c1', ← e2, hK.j (by omega) e4]
      by_cases c2 : K (pItem K s).2.1 = 25
      · rw [if_pos c2]
        have e6 : pQ K 1499 false (pItem K s).2 = (true, (pItem K s).2) := if_neg (fun z => z.elim (fun z => ff z) (fun z => z c2))
        rw [e6]
        exact ⟨rfl, e2, by show 0 ≤ (pItem K s).2.1; omega, e4⟩
      · rw [if_neg c2]
        have e6 : pQ K 1499 false (pItem K s).2 = pQ K 1499 true (pItem K s).2 := (if_pos (Or.inr c2)).trans (if_pos (Or.inl rfl)).symm
        rw [e6]
        obtain ⟨f1, f2, f3, f4⟩ := PQ_prog hK 1498 1499 1500 (pItem K s).2 (qItem J t).2 e2 ⟨by omega, e4⟩ (by omega) (by omega) (by omega)
        exact ⟨f1, f2, by omega, f4⟩
    · rw [if_neg c1, if_neg (e1 ▸ c1)]
      exact ⟨rfl, e2, by show 0 ≤ (pItem K s).2.1; omega, e4⟩
/-! nothing told -/
theorem gap_0 {y : Sg} (h : y 84 39 = 0) : gapV y = 0 := by unfold gapV; rw [h]; rfl
theorem Uq_0 {f : Nat → Int} : Uq f 0 := fun i j hi => by omega
theorem RM_0 {z y : Sg} (h1 : z 55 6 = 0) (h2 : z 55 7 = 0) (h3 : y 84 39 = 0) (h4 : ∀ x : Nat, (x : Int) < y 84 15 → z 59 x = 0) (h5 : ∀ r : Nat, (r : Int) < y 84 30 → z 60 r = 0) (hP : PI y) (hG : RuG y) : RM z y := by
  refine ⟨by rw [h1, h3], fun d c hd => by omega, by rw [h2, gap_0 h3], fun r d _ hd => by omega, fun d hd => by omega, fun x hx => ?_, fun r hr => ?_⟩
  · rw [h4 x hx]; unfold tiV; rw [h3]; rfl
  · rw [h5 r hr]
    have hR := hP.2.2.1 r hr
    have hg := hG r hr
    rw [ruV_e hP (r := r) ⟨by omega, hr⟩ hg.1 hg.2]
    have e1 : ((r : Int)).toNat = r := by omega
    rw [e1, h3]
    unfold rcN
    by_cases c0 : y 105 r = 0
    · rw [if_pos c0]; rfl
    · rw [if_neg c0]
      by_cases c3 : y 105 r = 3
      · rw [if_pos c3]; rfl
      · rw [if_neg c3]
        have := hg.2 (by omega)
        rw [if_pos (by omega), if_neg]
        rintro ⟨_, w⟩
        have w : y 106 r < 0 := w
        omega
theorem Rel_zero {z y : Sg} (c1 : z 10 2 = 0 ∧ z 12 2 = 0 ∧ z 14 2 = 0 ∧ z 16 2 = 0 ∧ z 18 4 = 0 ∧ z 9 16 = 0) (c2 : ∀ j, j = 10 ∨ j = 15 ∨ j = 23 ∨ j = 25 ∨ j = 30 ∨ j = 36 ∨ j = 39 → y 84 j = 0) (hk : KwOk z) (hc : z 10 1 = 16 ∧ z 12 1 = 16 ∧ z 14 1 = 4 ∧ z 16 1 = 16) (h1 : z 55 6 = 0) (h2 : z 55 7 = 0) (hS : ByS z y) (hb : Rb y) (ht : Rt y) (h9 : 0 ≤ y 84 9 ∧ y 84 9 ≤ 1500) (he : z 0 8 = y 84 4) (hs : z 0 9 = y 84 38) (h3 : y 84 3 = 0) : Rel z y := by
  have hP : PI y := by
    refine ⟨?_, ⟨fun j hj => ?_, fun j hj => ?_⟩, fun r hr => ?_, ?_, fun d c hd => ?_⟩
    · unfold Cn
      rw [c2 10 (by decide), c2 15 (by decide), c2 23 (by decide), c2 25 (by decide), c2 30 (by decide), c2 36 (by decide)]
      omega
    · rw [c2 15 (by decide)] at hj; omega
    · rw [c2 10 (by decide)] at hj; omega
    · rw [c2 30 (by decide)] at hr; omega
    · rw [c2 39 (by decide)]; omega
    · rw [c2 39 (by decide)] at hd; omega
  have hG : RuG y := fun r hr => by rw [c2 30 (by decide)] at hr; omega
  refine ⟨hP, hG, ⟨?_, fun j hj => ?_, fun j hj => ?_, fun j hj => ?_, fun c hcc => ?_, fun r hr => ?_⟩, RM_0 h1 h2 (c2 39 (by decide)) (fun x hx => ?_) (fun r hr => ?_) hP hG, ⟨?_, ?_, ?_, ?_, fun j hj => ?_, fun j hj => ?_, ?_, ?_⟩, hk, hc, hS, ⟨hb, ht, h9⟩, ⟨he, hs⟩, Or.inl ⟨h3, c2 15 (by decide)⟩⟩
  · rw [c1.1, c1.2.1, c1.2.2.1, c1.2.2.2.1, c1.2.2.2.2.1, c1.2.2.2.2.2, c2 10 (by decide), c2 15 (by decide), c2 23 (by decide), c2 25 (by decide), c2 30 (by decide), c2 36 (by decide)]
    exact ⟨rfl, rfl, rfl, rfl, rfl, rfl⟩
  · rw [c2 10 (by decide)] at hj; omega
  · rw [c2 15 (by decide)] at hj; omega
  · rw [c2 36 (by decide)] at hj; omega
  · rw [c2 25 (by decide)] at hcc; omega
  · rw [c2 30 (by decide)] at hr; omega
  · rw [c2 15 (by decide)] at hx; omega
  · rw [c2 30 (by decide)] at hr; omega
  · rw [c2 15 (by decide)]; omega
  · rw [c2 36 (by decide)]; omega
  · rw [c1.2.1, c2 15 (by decide)]
  · rw [c1.2.2.2.1, c2 36 (by decide)]
  · rw [c2 15 (by decide)] at hj; omega
  · rw [c2 36 (by decide)] at hj; omega
  · rw [c2 15 (by decide)]; exact Uq_0
  · rw [c2 36 (by decide)]; exact Uq_0
/-- an empty menu -/
theorem bg_0 {a : Sg} (h18 : a 18 4 = 0) (h9 : a 9 16 = 0) : bgC a 0 55 6 = 0 ∧ bgC a 0 55 7 = 0 ∧ (∀ x : Nat, x < 16 → bgC a 0 59 x = 0) ∧ (∀ r : Nat, r < 8 → bgC a 0 60 r = 0) := by
  have b0 : bg0 a 0 = up (up a 55 6 0) 55 7 0 := by
    unfold bg0
    rw [h9, Int.mul_zero, ite_self]
  have f3 : ∀ k, k < 58 ∨ k = 59 ∨ k = 60 → fW 14 bg3 14 0 (bg0 a 0) k = bg0 a 0 k := fun k hk => fW_r (fun i q _ => by
    unfold bg3
    rw [fW_r (fun i2 q2 _ => by unfold bg2; rw [up_r _ _ _ (by omega)]), fW_r (fun i2 q2 _ => by unfold bg1; rw [up_r _ _ _ (by omega)]), up_r _ _ _ (by omega)]) _ _ _
  have f4 : ∀ (m : Nat) (i : Int) (q : Sg), 0 ≤ i → i + m = 16 → (∀ x : Nat, (x : Int) < i → q 59 x = 0) → (∀ k, k ≠ 59 → fW 16 bg4 m i q k = q k) ∧ ∀ x : Nat, x < 16 → fW 16 bg4 m i q 59 x = 0 := by
    intro m
    induction m with
    | zero => intro i q i0 hi h; exact ⟨fun _ _ => rfl, fun x hx => h x (by omega)⟩
    | succ m ih =>
      intro i q i0 hi h
      rw [fW_s, if_pos (by omega)]
      obtain ⟨r1, r2⟩ := ih (i + 1) (bg4 i q) (by omega) (by omega) (fun x hx => by
        unfold bg4
        by_cases c : x = i.toNat
        · rw [c, up_s]
        · rw [up_j _ _ c]; exact h x (by omega))
      exact ⟨fun k hk => (r1 k hk).trans (up_r _ _ _ hk), r2⟩
  have f5 : ∀ (m : Nat) (i : Int) (q : Sg), 0 ≤ i → i + m = 8 → q 18 4 = 0 → (∀ r : Nat, (r : Int) < i → q 60 r = 0) → (∀ k, k ≠ 60 → fW 8 bg5 m i q k = q k) ∧ ∀ r : Nat, r < 8 → fW 8 bg5 m i q 60 r = 0 := by
    intro m
    induction m with
    | zero => intro i q i0 hi _ h; exact ⟨fun _ _ => rfl, fun x hx => h x (by omega)⟩
    | succ m ih =>
      intro i q i0 hi hq h
      have e5 : bg5 i q = up q 60 i.toNat 0 := by
        unfold bg5 rcC
        rw [if_neg]
        intro w
        have := rHas_b w
        rw [up_k _ _ (by decide), hq] at this
        have h0 : i32 0 = 0 := rfl
        omega
      rw [fW_s, if_pos (by omega), e5]
      obtain ⟨r1, r2⟩ := ih (i + 1) (up q 60 i.toNat 0) (by omega) (by omega) (by rw [up_k _ _ (by decide)]; exact hq) (fun x hx => by
        by_cases c : x = i.toNat
        · rw [c, up_s]
        · rw [up_j _ _ c]; exact h x (by omega))
      exact ⟨fun k hk => (r1 k hk).trans (up_r _ _ _ hk), r2⟩
  obtain ⟨g1, g2⟩ := f4 16 0 (fW 14 bg3 14 0 (bg0 a 0)) (Int.le_refl _) (by decide) (fun x hx => by omega)
  have hq18 : fW 16 bg4 16 0 (fW 14 bg3 14 0 (bg0 a 0)) 18 4 = 0 := by rw [g1 18 (by decide), f3 18 (by decide), b0, up_k _ _ (by decide), up_k _ _ (by decide)]; exact h18
  obtain ⟨k1, k2⟩ := f5 8 0 (fW 16 bg4 16 0 (fW 14 bg3 14 0 (bg0 a 0))) (Int.le_refl _) (by decide) hq18 (fun x hx => by omega)
  unfold bgC
  refine ⟨?_, ?_, fun x hx => ?_, k2⟩
  · rw [k1 55 (by decide), g1 55 (by decide), f3 55 (by decide), b0, up_j _ _ (by decide), up_s]
  · rw [k1 55 (by decide), g1 55 (by decide), f3 55 (by decide), b0, up_s]
  · rw [k1 59 (by decide)]; exact g2 x hx
end S73
