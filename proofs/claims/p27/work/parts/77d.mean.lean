/-! the meaning of the law's text, item by item -/
section S96
variable {σ : Sg}
theorem idx_no {k : Nat} {n v : Int} (h2 : σ k 2 = n) (hn : 0 ≤ n ∧ n ≤ 16) (hv : 0 ≤ v ∧ v ≤ 1000) (hj : ∀ j : Nat, (j : Int) < n → (0 ≤ σ (k + 1) j ∧ σ (k + 1) j ≤ 1000) ∧ σ (k + 1) j ≠ v) : idxC σ k v = -1 := by
  rcases idx_spec (v := v) hn h2 with ⟨h, -⟩ | ⟨⟨h0, h1⟩, h3⟩
  · exact h
  · obtain ⟨g1, g2⟩ := hj (idxC σ k v).toNat (by omega)
    rw [I64_eq ⟨by omega, by omega⟩ ⟨by omega, by omega⟩] at h3
    exact absurd h3 g2
theorem idx_is {k : Nat} {n v : Int} {i : Nat} (h2 : σ k 2 = n) (hn : 0 ≤ n ∧ n ≤ 16) (hv : 0 ≤ v ∧ v ≤ 1000) (hi : (i : Int) < n) (hiv : σ (k + 1) i = v) (hj : ∀ j : Nat, (j : Int) < n → (0 ≤ σ (k + 1) j ∧ σ (k + 1) j ≤ 1000) ∧ (σ (k + 1) j = v → j = i)) : idxC σ k v = i := by
  rcases idx_spec (v := v) hn h2 with ⟨-, h⟩ | ⟨⟨h0, h1⟩, h3⟩
  · exact absurd (by rw [hiv]) (h i hi)
  · obtain ⟨g1, g2⟩ := hj (idxC σ k v).toNat (by omega)
    rw [I64_eq ⟨by omega, by omega⟩ ⟨by omega, by omega⟩] at h3
    have := g2 h3
    omega
theorem idxF_cg {z : Sg} {k : Nat} {v : Int} (h1 : z k = σ k) (h2 : z (k + 1) = σ (k + 1)) : ∀ (n : Nat) (i : Int), idxF z k v n i = idxF σ k v n i
  | 0, _ => rfl
  | n + 1, i => by simp only [idxF]; rw [h1, h2, idxF_cg h1 h2 n (i + 1)]
theorem idxC_fr {z : Sg} {k : Nat} {v : Int} (h1 : z k = σ k) (h2 : z (k + 1) = σ (k + 1)) : idxC z k v = idxC σ k v := idxF_cg h1 h2 16 0
theorem VC_fr {z : Sg} (h3 : z 3 = σ 3) (h7 : z 7 = σ 7) (t : Int) : VC z t = VC σ t := by unfold VC; rw [h3, h7]
theorem KC_fr {z : Sg} (h3 : z 3 = σ 3) (h5 : z 5 = σ 5) (t : Int) : KC z t = KC σ t := by unfold KC; rw [h3, h5]
/-- the counts -/
def MB (σ : Sg) (a nf nd nm nt nc nr : Int) : Prop :=
  (σ 51 6 = a ∧ σ 51 7 = 0 ∧ σ 51 8 = -1) ∧ (σ 10 1 = 16 ∧ σ 12 1 = 16 ∧ σ 14 1 = 4 ∧ σ 16 1 = 16) ∧ (σ 10 2 = nf ∧ σ 12 2 = nd ∧ σ 14 2 = nm ∧ σ 16 2 = nt ∧ σ 9 16 = nc ∧ σ 18 4 = nr)
/-- the names -/
def MN (σ : Sg) (nf nd nm nt : Int) : Prop :=
  (∀ j : Nat, (j : Int) < nf → σ 11 j = 163 + j ∧ (0 ≤ σ 23 j ∧ σ 23 j ≤ 900) ∧ σ 24 j = 0) ∧ (∀ j : Nat, (j : Int) < nd → σ 13 j = 109 + j) ∧ (∀ j : Nat, (j : Int) < nm → σ 15 j = 13) ∧ (∀ j : Nat, (j : Int) < nt → σ 17 j = 20)
/-- names by their numbers -/
theorem nm_f {nf nd nm nt v : Int} (h2 : σ 10 2 = nf) (hN : MN σ nf nd nm nt) (hn : 0 ≤ nf ∧ nf ≤ 6) (hv : 0 ≤ v ∧ v ≤ 1000) : idxC σ 10 v = if 163 ≤ v ∧ v < 163 + nf then v - 163 else -1 := by
  by_cases c : 163 ≤ v ∧ v < 163 + nf
  · rw [if_pos c]
    have := idx_is (σ := σ) (k := 10) (n := nf) (v := v) (i := (v - 163).toNat) h2 ⟨hn.1, by omega⟩ hv (by omega) (by have := (hN.1 (v - 163).toNat (by omega)).1; show σ 11 _ = v; omega) (fun j hj => by have := (hN.1 j hj).1; refine ⟨by show 0 ≤ σ 11 j ∧ σ 11 j ≤ 1000; omega, fun z => ?_⟩; have z : σ 11 j = v := z; omega)
    rw [this]; omega
  · rw [if_neg c]
    exact idx_no (k := 10) (n := nf) h2 ⟨hn.1, by omega⟩ hv (fun j hj => by have := (hN.1 j hj).1; refine ⟨by show 0 ≤ σ 11 j ∧ σ 11 j ≤ 1000; omega, fun z => ?_⟩; have z : σ 11 j = v := z; omega)
theorem nm_d {nf nd nm nt v : Int} (h2 : σ 12 2 = nd) (hN : MN σ nf nd nm nt) (hn : 0 ≤ nd ∧ nd ≤ 6) (hv : 0 ≤ v ∧ v ≤ 1000) : idxC σ 12 v = if 109 ≤ v ∧ v < 109 + nd then v - 109 else -1 := by
  by_cases c : 109 ≤ v ∧ v < 109 + nd
  · rw [if_pos c]
    have := idx_is (σ := σ) (k := 12) (n := nd) (v := v) (i := (v - 109).toNat) h2 ⟨hn.1, by omega⟩ hv (by omega) (by have := hN.2.1 (v - 109).toNat (by omega); show σ 13 _ = v; omega) (fun j hj => by have := hN.2.1 j hj; refine ⟨by show 0 ≤ σ 13 j ∧ σ 13 j ≤ 1000; omega, fun z => ?_⟩; have z : σ 13 j = v := z; omega)
    rw [this]; omega
  · rw [if_neg c]
    exact idx_no (k := 12) (n := nd) h2 ⟨hn.1, by omega⟩ hv (fun j hj => by have := hN.2.1 j hj; refine ⟨by show 0 ≤ σ 13 j ∧ σ 13 j ≤ 1000; omega, fun z => ?_⟩; have z : σ 13 j = v := z; omega)
theorem nm_m {nf nd nm nt v : Int} (h2 : σ 14 2 = nm) (hN : MN σ nf nd nm nt) (hn : 0 ≤ nm ∧ nm ≤ 1) (hv : 0 ≤ v ∧ v ≤ 1000) (h13 : v ≠ 13) : idxC σ 14 v = -1 :=
  idx_no (k := 14) (n := nm) h2 ⟨hn.1, by omega⟩ hv (fun j hj => by have := hN.2.2.1 j hj; refine ⟨by show 0 ≤ σ 15 j ∧ σ 15 j ≤ 1000; omega, fun z => ?_⟩; have z : σ 15 j = v := z; omega)
theorem nm_m0 {v : Int} (h2 : σ 14 2 = 0) (hv : 0 ≤ v ∧ v ≤ 1000) : idxC σ 14 v = -1 := idx_no (k := 14) (n := 0) h2 (by decide) hv (fun j hj => by omega)
theorem nm_t {nf nd nm nt : Int} (h2 : σ 16 2 = nt) (hN : MN σ nf nd nm nt) (hn : 0 ≤ nt ∧ nt ≤ 1) : idxC σ 16 20 = if nt = 1 then 0 else -1 := by
  by_cases c : nt = 1
  · rw [if_pos c]
    have := idx_is (σ := σ) (k := 16) (n := nt) (v := 20) (i := 0) h2 ⟨hn.1, by omega⟩ (by decide) (by omega) (hN.2.2.2 0 (by omega)) (fun j hj => by have := hN.2.2.2 j hj; exact ⟨by show 0 ≤ σ 17 j ∧ σ 17 j ≤ 1000; omega, fun z => by omega⟩)
    exact this
  · rw [if_neg c]
    exact idx_no (k := 16) (n := nt) h2 ⟨hn.1, by omega⟩ (by decide) (fun j hj => by omega)
theorem nn_y {v : Int} (hv : VC σ (σ 51 6) = v) (h1 : idxC σ 10 v = -1) (h2 : idxC σ 12 v = -1) (h3 : idxC σ 14 v = -1) : nnM σ = (true, nxM σ) := by
  unfold nnM namedC
  rw [hv, h1, h2, h3]
  rfl
theorem tn_y {v lo hi : Int} (hv : VC σ (σ 51 6) = v) (hlo : -1000000 ≤ lo ∧ lo ≤ 1000000) (hhi : -1000000 ≤ hi ∧ hi ≤ 1000000) (h : lo ≤ v ∧ v ≤ hi) : tnM σ lo hi = (true, nxM (up σ 51 9 v)) := by
  unfold tnM
  rw [hv, i32_n lo hlo, i32_n hi hhi, if_neg (by omega)]
theorem VCn (t : Int) : VC (nxM σ) t = VC σ t := VC_fr (nxM_r _ (by decide)) (nxM_r _ (by decide)) t
theorem KCn (t : Int) : KC (nxM σ) t = KC σ t := KC_fr (nxM_r _ (by decide)) (nxM_r _ (by decide)) t
theorem VC_u {k j : Nat} {v : Int} (h : k ≠ 3 ∧ k ≠ 7) (t : Int) : VC (up σ k j v) t = VC σ t := VC_fr (up_r _ _ _ (Ne.symm h.1)) (up_r _ _ _ (Ne.symm h.2)) t
theorem KC_u {k j : Nat} {v : Int} (h : k ≠ 3 ∧ k ≠ 5) (t : Int) : KC (up σ k j v) t = KC σ t := KC_fr (up_r _ _ _ (Ne.symm h.1)) (up_r _ _ _ (Ne.symm h.2)) t
theorem ad_y {k : Nat} {n v : Int} (h : σ k 2 = n) (hn : 0 ≤ n ∧ n < 16) : addC σ k v = up (up σ (k + 1) n.toNat v) k 2 (n + 1) := addC_e h hn
theorem fl_n {k : Nat} {n m : Int} (h : σ k 2 = n) (hn : 0 ≤ n ∧ n ≤ 16) (h1 : σ k 1 = m) (hm : 0 ≤ m ∧ m ≤ 16) (hl : n < m) : fullC σ k = false := by
  rw [full_e h hn h1 hm]; exact decide_eq_false (by omega)
theorem tg_stop (h : KC σ (σ 51 6) = 17) : ∀ n : Nat, tgL n σ = (true, σ)
  | 0 => rfl
  | _ + 1 => if_neg (fun z => z h)
/-- what an item leaves as it was -/
def Fq (σ z : Sg) : Prop := ∀ q, q < 9 ∨ 55 ≤ q → z q = σ q
theorem Fq.at {z : Sg} {a : Int} {l : List (Int × Int)} (h : Fq σ z) (g : At σ a l) : At z a l := g.fr (h 3 (by decide)) (h 5 (by decide)) (h 7 (by decide))
theorem Fq.tr {y z : Sg} (h : Fq σ y) (g : Fq y z) : Fq σ z := fun q hq => (g q hq).trans (h q hq)
/-! a food -/
theorem rf_ok {a e : Int} {k : Nat} {nt : Int} (hB : MB σ a k k 0 nt 0 0) (hN : MN σ k k 0 nt) (hk : k < 6) (hnt : 0 ≤ nt ∧ nt ≤ 1) (he : 0 ≤ e ∧ e ≤ 900) (v1 : VC σ (a + 1) = 163 + k) (v2 : VC σ (a + 2) = e) (k3 : KC σ (a + 3) = 17) :
    ∃ z, rfM σ = (true, z) ∧ MB z (a + 4) ((k : Int) + 1) k 0 nt 0 0 ∧ MN z ((k : Int) + 1) k 0 nt ∧ Fq σ z := by
  obtain ⟨⟨b1, b2, b3⟩, ⟨c1, c2, c3, c4⟩, d1, d2, d3, d4, d5, d6⟩ := hB
  have e10 : i32 (σ 10 2) = k := by rw [d1]; exact i32_n _ (by omega)
  have en : ((k : Int)).toNat = k := by omega
  have fr : ∀ q, q ≠ 51 → nxM σ q = σ q := fun q hq => nxM_r _ hq
  have r1 : rf1M σ = (true, nxM (nxM σ)) := by
    unfold rf1M
    refine nn_y (v := 163 + k) (by rw [nxM_6, b1, VCn]; exact v1) ?_ ?_ ?_
    · rw [idxC_fr (fr 10 (by decide)) (fr 11 (by decide)), nm_f d1 hN ⟨by omega, by omega⟩ ⟨by omega, by omega⟩, if_neg (by omega)]
    · rw [idxC_fr (fr 12 (by decide)) (fr 13 (by decide)), nm_d d2 hN ⟨by omega, by omega⟩ ⟨by omega, by omega⟩, if_neg (by omega)]
    · rw [idxC_fr (fr 14 (by decide)) (fr 15 (by decide))]; exact nm_m0 d3 ⟨by omega, by omega⟩
  have r2 : rf2M σ = (true, nxM (up (nxM (nxM σ)) 51 9 e)) := by
    unfold rf2M
    rw [r1]
    show tnM (nxM (nxM σ)) _ _ = _
    exact tn_y (by rw [nxM_6, nxM_6, b1, VCn, VCn, show a + 1 + 1 = a + 2 from by omega]; exact v2) (by decide) (by decide) he
  have r3 : rf3M σ = up (up (nxM (up (nxM (nxM σ)) 51 9 e)) 23 k e) 24 k 0 := by
    unfold rf3M
    rw [r2, e10, en]
    rfl
  have p6 : rf3M σ 51 6 = a + 3 := by
    rw [r3, up_k _ _ (by decide), up_k _ _ (by decide), nxM_6, up_j _ _ (by decide), nxM_6, nxM_6, b1]; omega
  have q : ∀ t, KC (rf3M σ) t = KC σ t := fun t => by rw [r3, KC_u (by decide), KC_u (by decide), KCn, KC_u (by decide), KCn, KCn]
  have r5 : rf5M σ = (true, rf3M σ) := by
    unfold rf5M
    rw [if_neg]
    rw [p6, q, k3]; decide
  have r6 : rf6M (rf3M σ) = (true, up (rf3M σ) 51 10 0) := by
    unfold rf6M
    exact tg_stop (by rw [up_j _ _ (by decide), p6, KC_u (by decide), q]; exact k3) 1500
  have hF : ∀ q, q ≠ 51 ∧ q ≠ 23 ∧ q ≠ 24 → rf3M σ q = σ q := fun q hq => by
    rw [r3, up_r _ _ _ hq.2.2, up_r _ _ _ hq.2.1, nxM_r _ hq.1, up_r _ _ _ hq.1, nxM_r _ hq.1, nxM_r _ hq.1]
  have g7 : rf3M σ 51 7 = 0 ∧ rf3M σ 51 8 = -1 := by
    rw [r3]
    refine ⟨?_, ?_⟩
    · rw [up_k _ _ (by decide), up_k _ _ (by decide), nxM_j _ (Or.inr (by decide)), up_j _ _ (by decide), nxM_j _ (Or.inr (by decide)), nxM_j _ (Or.inr (by decide))]; exact b2
    · rw [up_k _ _ (by decide), up_k _ _ (by decide), nxM_j _ (Or.inr (by decide)), up_j _ _ (by decide), nxM_j _ (Or.inr (by decide)), nxM_j _ (Or.inr (by decide))]; exact b3
  have g23 : ∀ j : Nat, rf3M σ 23 j = (if j = k then e else σ 23 j) ∧ rf3M σ 24 j = (if j = k then 0 else σ 24 j) := fun j => by
    rw [r3]
    refine ⟨?_, ?_⟩
    · rw [up_k _ _ (by decide), up_at, nxM_r _ (by decide), up_k _ _ (by decide), nxM_r _ (by decide), nxM_r _ (by decide)]
    · rw [up_at, up_k _ _ (by decide), nxM_r _ (by decide), up_k _ _ (by decide), nxM_r _ (by decide), nxM_r _ (by decide)]
  have hfull : fullC σ 10 = false := fl_n d1 ⟨by omega, by omega⟩ c1 (by decide) (by omega)
  have hv1 : VC σ (σ 51 6 + 1) = 163 + k := by rw [b1]; exact v1
  have e0 : rfM σ = (true, nxM (addC (up (up (rf3M σ) 51 10 0) 25 k 0) 10 (163 + k))) := by
    unfold rfM
    rw [if_neg (by rw [hfull, e10]; rintro (z | z | z) <;> first | exact absurd z (by decide) | omega), r1, if_pos rfl, r2, if_pos rfl, r5, if_pos rfl, r6, e10, en, hv1]
    unfold rfEM
    rw [if_pos rfl]
    rfl
  have ea : addC (up (up (rf3M σ) 51 10 0) 25 k 0) 10 (163 + k) = up (up (up (up (rf3M σ) 51 10 0) 25 k 0) 11 k (163 + k)) 10 2 (k + 1) := by
    have := ad_y (σ := up (up (rf3M σ) 51 10 0) 25 k 0) (k := 10) (n := k) (v := 163 + k) (by rw [up_k _ _ (by decide), up_k _ _ (by decide), hF 10 (by decide)]; exact d1) ⟨by omega, by omega⟩
    rw [en] at this
    exact this
  refine ⟨_, e0, ?_, ?_, ?_⟩
  · rw [ea]
    unfold MB
    rw [nxM_6, nxM_j _ (Or.inr (by decide)), nxM_j _ (Or.inr (by decide))]
    rw [nxM_r _ (show 10 ≠ 51 by decide), nxM_r _ (show 12 ≠ 51 by decide), nxM_r _ (show 14 ≠ 51 by decide), nxM_r _ (show 16 ≠ 51 by decide), nxM_r _ (show 9 ≠ 51 by decide), nxM_r _ (show 18 ≠ 51 by decide)]
    simp (disch := decide) only [up_s, up_k, up_j]
    rw [p6, g7.1, g7.2, hF 10 (by decide), hF 12 (by decide), hF 14 (by decide), hF 16 (by decide), hF 9 (by decide), hF 18 (by decide)]
    exact ⟨⟨by omega, rfl, rfl⟩, ⟨c1, c2, c3, c4⟩, trivial, d2, d3, d4, d5, d6⟩
  · rw [ea]
    have w : ∀ q, q ≠ 51 ∧ q ≠ 10 → ∀ j, nxM (up (up (up (up (rf3M σ) 51 10 0) 25 k 0) 11 k (163 + k)) 10 2 (k + 1)) q j = up (up (rf3M σ) 25 k 0) 11 k (163 + k) q j := fun q hq j => by
      rw [nxM_r _ hq.1, up_k _ _ hq.2]
      by_cases c : q = 11
      · subst c; rw [up_at, up_at, up_k _ _ (by decide), up_k _ _ (by decide), up_k _ _ (by decide)]
      · rw [up_k _ _ c, up_k _ _ c]
        by_cases c2 : q = 25
        · subst c2; rw [up_at, up_at, up_k _ _ (by decide)]
        · rw [up_k _ _ c2, up_k _ _ c2, up_k _ _ hq.1]
    refine ⟨fun j hj => ?_, fun j hj => ?_, fun j hj => ?_, fun j hj => ?_⟩
    · rw [w 11 (by decide), w 23 (by decide), w 24 (by decide), up_at, up_k _ _ (by decide), up_k _ _ (by decide), up_k _ _ (by decide), up_k _ _ (by decide), up_k _ _ (by decide), (g23 j).1, (g23 j).2]
      by_cases c : j = k
      · rw [if_pos c, if_pos c, if_pos c, c]; exact ⟨rfl, he, rfl⟩
      · rw [if_neg c, if_neg c, if_neg c, hF 11 (by decide)]; exact hN.1 j (by omega)
    · rw [w 13 (by decide), up_k _ _ (by decide), up_k _ _ (by decide), hF 13 (by decide)]; exact hN.2.1 j hj
    · rw [w 15 (by decide), up_k _ _ (by decide), up_k _ _ (by decide), hF 15 (by decide)]; exact hN.2.2.1 j hj
    · rw [w 17 (by decide), up_k _ _ (by decide), up_k _ _ (by decide), hF 17 (by decide)]; exact hN.2.2.2 j hj
  · rw [ea]
    intro q hq
    rw [nxM_r _ (by omega), up_r _ _ _ (by omega), up_r _ _ _ (by omega), up_r _ _ _ (by omega), up_r _ _ _ (by omega), hF q ⟨by omega, by omega, by omega⟩]
/-! a dish -/
theorem i16_e {p : Sg} {nt : Int} (h2 : p 16 2 = nt) (hn : 0 ≤ nt ∧ nt ≤ 1) (h : nt = 1 → p 17 0 = 20) : idxC p 16 20 = if nt = 1 then 0 else -1 := by
  have e : ∀ j : Nat, (j : Int) < nt → p 17 j = 20 := fun j hj => by
    obtain rfl : j = 0 := by omega
    exact h (by omega)
  by_cases c : nt = 1
  · rw [if_pos c]
    exact idx_is (σ := p) (k := 16) (n := nt) (v := 20) (i := 0) h2 ⟨hn.1, by omega⟩ (by decide) (by omega) (e 0 (by omega)) (fun j hj => by have := e j hj; exact ⟨by show 0 ≤ p 17 j ∧ p 17 j ≤ 1000; omega, fun z => by omega⟩)
  · rw [if_neg c]
    exact idx_no (k := 16) (n := nt) h2 ⟨hn.1, by omega⟩ (by decide) (fun j hj => by omega)
theorem tg_y {p : Sg} {c nt : Int} (h6 : p 51 6 = c) (h2 : p 16 2 = nt) (hn : 0 ≤ nt ∧ nt ≤ 1) (h1 : p 16 1 = 16) (h : nt = 1 → p 17 0 = 20) (k0 : KC p c = 3) (v1 : VC p (c + 1) = 20) (k2 : KC p (c + 2) = 17) :
    ∃ z, tgL 1500 p = (true, z) ∧ (∀ q, q ≠ 51 ∧ q ≠ 16 ∧ q ≠ 17 → z q = p q) ∧ z 51 6 = c + 2 ∧ (∀ j, j ≠ 6 ∧ j ≠ 10 → z 51 j = p 51 j) ∧ z 16 1 = 16 ∧ z 16 2 = 1 ∧ z 17 0 = 20 := by
  have n6 : nxM p 51 6 = c + 1 := by rw [nxM_6, h6]
  have fr : ∀ q, q ≠ 51 → nxM p q = p q := fun q hq => nxM_r _ hq
  have key : ∃ w, tg1M p = (true, w) ∧ (∀ q, q ≠ 51 ∧ q ≠ 16 ∧ q ≠ 17 → w q = p q) ∧ w 51 = nxM p 51 ∧ w 16 1 = 16 ∧ w 16 2 = 1 ∧ w 17 0 = 20 := by
    have ei : idxC (nxM p) 16 20 = if nt = 1 then 0 else -1 := by
      rw [idxC_fr (fr 16 (by decide)) (fr 17 (by decide))]
      exact i16_e h2 hn h
    unfold tg1M
    rw [h6, v1, ei]
    by_cases c1 : nt = 1
    · rw [if_pos c1, if_neg (by decide)]
      exact ⟨_, rfl, fun q hq => fr q hq.1, rfl, by rw [fr 16 (by decide)]; exact h1, by rw [fr 16 (by decide), h2]; exact c1, by rw [fr 17 (by decide)]; exact h c1⟩
    · have z0 : nt = 0 := by omega
      rw [if_neg c1, if_pos rfl]
      have hf : fullC (nxM p) 16 = false := fl_n (k := 16) (n := 0) (m := 16) (by rw [fr 16 (by decide), h2]; exact z0) (by decide) (by rw [fr 16 (by decide)]; exact h1) (by decide) (by decide)
      have ha : addC (nxM p) 16 20 = up (up (nxM p) 17 0 20) 16 2 1 := ad_y (k := 16) (n := 0) (by rw [fr 16 (by decide), h2]; exact z0) (by decide)
      rw [hf, ha]
      refine ⟨_, rfl, fun q hq => ?_, ?_, ?_, ?_, ?_⟩
      · rw [up_r _ _ _ hq.2.1, up_r _ _ _ hq.2.2, fr q hq.1]
      · rw [up_r _ _ _ (by decide), up_r _ _ _ (by decide)]
      · rw [up_j _ _ (by decide), up_k _ _ (by decide), fr 16 (by decide)]; exact h1
      · exact up_s _ _ _ _
      · rw [up_k _ _ (by decide)]; exact up_s _ _ _ _
  obtain ⟨w, w0, w1, w2, w3, w4, w5⟩ := key
  have w6 : w 51 6 = c + 1 := by rw [w2]; exact n6
  have e2 : ∃ x, tg2M w 20 = nxM (up w 51 10 x) := ⟨_, rfl⟩
  obtain ⟨x, e2⟩ := e2
  have q6 : nxM (up w 51 10 x) 51 6 = c + 2 := by rw [nxM_6, up_j _ _ (by decide), w6]; omega
  refine ⟨nxM (up w 51 10 x), ?_, fun q hq => ?_, q6, fun j hj => ?_, ?_, ?_, ?_⟩
  · show (if ¬ KC p (p 51 6) = 17 then (if (tg1M p).1 = true then tgL 1499 (tg2M (tg1M p).2 (VC p (p 51 6 + 1))) else (false, (tg1M p).2)) else (true, p)) = _
    rw [h6, k0, if_pos (by decide), w0, if_pos rfl, v1, e2]
    refine tg_stop ?_ 1499
    rw [q6, KCn, KC_u (by decide), KC_fr (w1 3 (by decide)) (w1 5 (by decide))]
    exact k2
  · rw [nxM_r _ hq.1, up_r _ _ _ hq.1, w1 q hq]
  · rw [nxM_j _ (Or.inr hj.1), up_j _ _ hj.2, w2, nxM_j _ (Or.inr hj.1)]
  · rw [nxM_r _ (by decide), up_k _ _ (by decide)]; exact w3
  · rw [nxM_r _ (by decide), up_k _ _ (by decide)]; exact w4
  · rw [nxM_r _ (by decide), up_k _ _ (by decide)]; exact w5
theorem td_r (p : Sg) (d : Int) {q : Nat} (h : q ≠ 27 ∧ q ≠ 28 ∧ q ≠ 29) : tdM p d q = p q := by
  unfold tdM
  split
  · rw [up_r _ _ _ h.2.2, up_r _ _ _ h.2.1, up_r _ _ _ h.1]
  · rw [up_r _ _ _ h.2.2]
theorem tm_no {p : Sg} {k : Nat} (hg : ∀ f : Nat, f < 16 → 0 ≤ p (34 + k) f ∧ p (34 + k) f ≤ 100) (h1 : 0 ≤ p 51 11 ∧ p 51 11 ≤ 1000000) (h2 : 0 ≤ p 51 12 ∧ p 51 12 ≤ 1000000) : tmuchM p k = false := by
  have en : ((k : Int)).toNat = k := by omega
  have hs : fW 16 (fun i s => s + i32 (p (34 + k) i.toNat)) 16 0 0 = 0 + sm (fun i => i32 (p (34 + k) i.toNat)) 16 := fW_sm0 (sz := 16) (n := 16) (a := 0) (fun i a _ _ => rfl) (by decide) (by decide)
  have hb := sm_bd (h := fun i => i32 (p (34 + k) i.toNat)) (a := 0) (b := 100) 16 (fun j j0 j1 => by
    have := hg j.toNat (by omega)
    rw [i32_n _ (by omega)]; exact this)
  unfold tmuchM
  rw [en, hs]
  refine decide_eq_false ?_
  rw [i64_eq ⟨by omega, by omega⟩, i64_eq ⟨by omega, by omega⟩, i64_eq ⟨by omega, by omega⟩]
  omega
theorem en_bd {n e : Int} (hn : n = 100) (he : 0 ≤ e ∧ e ≤ 900) : 0 ≤ i32 ((i32 (n * e)).tdiv 100) ∧ i32 ((i32 (n * e)).tdiv 100) ≤ 1000 := by
  rw [hn, i32_n (100 * e) (by omega), Int.tdiv_eq_ediv_of_nonneg (by omega), i32_n _ (by omega)]
  omega
/-- the one part of a dish -/
theorem tq_ok {R : Sg} {c e : Int} {k : Nat} (hk : k < 6) (h6 : R 51 6 = c) (h23 : R 23 k = e) (h24 : R 24 k = 0) (he : 0 ≤ e ∧ e ≤ 900) (hi : idxC R 10 (163 + k) = k) (k0 : KC R c = 18) (v1 : VC R (c + 1) = 100) (k2 : KC R (c + 2) = 22) (v2 : VC R (c + 2) = 163 + k) (k3 : ¬ (KC R (c + 3) = 18 ∨ KC R (c + 3) = 19)) :
    ∃ z, tqM R k = (true, z) ∧ (∀ q, q ≠ 51 ∧ q ≠ 30 ∧ q ≠ 34 + k → z q = R q) ∧ z 51 6 = c + 3 ∧ (∀ j, j ≠ 6 ∧ j ≠ 9 ∧ j ≠ 10 ∧ j ≠ 11 ∧ j ≠ 12 → z 51 j = R 51 j) ∧ (∀ f : Nat, f < 16 → 0 ≤ z (34 + k) f ∧ z (34 + k) f ≤ 100) ∧ (0 ≤ z 51 11 ∧ z 51 11 ≤ 1000000) ∧ (0 ≤ z 51 12 ∧ z 51 12 ≤ 1000000) := by
  have en : ((k : Int)).toNat = k := by omega
  obtain ⟨z1, z2⟩ := zr_ok (d := k) 16 0 (up (up R 51 11 0) 51 12 0) (Int.le_refl _) (by decide) (fun f hf => by omega)
  have eZ : tq0M R k = fW 16 (fun i a => up a (34 + k) i.toNat 0) 16 0 (up (up R 51 11 0) 51 12 0) := by
    unfold tq0M; rw [en]
  generalize hZ : tq0M R k = Z at eZ
  rw [← eZ] at z1 z2
  have f1 : ∀ q, q ≠ 51 ∧ q ≠ 34 + k → Z q = R q := fun q hq => by rw [z1 q hq.2, up_r _ _ _ hq.1, up_r _ _ _ hq.1]
  have f51 : ∀ j, j ≠ 11 ∧ j ≠ 12 → Z 51 j = R 51 j := fun j hj => by rw [z1 51 (by omega), up_j _ _ hj.2, up_j _ _ hj.1]
  have f11 : Z 51 11 = 0 ∧ Z 51 12 = 0 := by
    rw [z1 51 (by omega)]
    exact ⟨by rw [up_j _ _ (by decide), up_s], up_s _ _ _ _⟩
  have kz : ∀ t, KC Z t = KC R t := KC_fr (f1 3 ⟨by decide, by omega⟩) (f1 5 ⟨by decide, by omega⟩)
  have vz : ∀ t, VC Z t = VC R t := VC_fr (f1 3 ⟨by decide, by omega⟩) (f1 7 ⟨by decide, by omega⟩)
  have t6 : Z 51 6 = c := by rw [f51 6 (by decide), h6]
  -- the number
  have tn : tnM (nxM Z) 1 2000 = (true, nxM (up (nxM Z) 51 9 100)) := tn_y (by rw [nxM_6, t6, VCn, vz]; exact v1) (by decide) (by decide) (by decide)
  generalize hT : nxM (up (nxM Z) 51 9 100) = T at tn
  have T6 : T 51 6 = c + 2 := by rw [← hT, nxM_6, up_j _ _ (by decide), nxM_6, t6]; omega
  have Tr : ∀ q, q ≠ 51 → T q = Z q := fun q hq => by rw [← hT, nxM_r _ hq, up_r _ _ _ hq, nxM_r _ hq]
  have T51 : ∀ j, j ≠ 6 ∧ j ≠ 9 → T 51 j = Z 51 j := fun j hj => by rw [← hT, nxM_j _ (Or.inr hj.1), up_j _ _ hj.2, nxM_j _ (Or.inr hj.1)]
  have T9 : T 51 9 = 100 := by rw [← hT, nxM_j _ (Or.inr (by decide)), up_s]
  have kT : ∀ t, KC T t = KC R t := fun t => (KC_fr (Tr 3 (by decide)) (Tr 5 (by decide)) t).trans (kz t)
  have vT : ∀ t, VC T t = VC R t := fun t => (VC_fr (Tr 3 (by decide)) (Tr 7 (by decide)) t).trans (vz t)
  have iT : idxC T 10 (163 + k) = k := by
    rw [idxC_fr ((Tr 10 (by decide)).trans (f1 10 ⟨by decide, by omega⟩)) ((Tr 11 (by decide)).trans (f1 11 ⟨by decide, by omega⟩))]
    exact hi
  have tp : tpM (nxM Z) k 0 = (true, afM (nxM T) k k) := by
    unfold tpM
    rw [if_neg (by decide), tn, if_pos rfl]
    show (if KC T (T 51 6) = 4 then tp1M (nxM T) k 12 true else tp1M T k 10 false) = _
    rw [T6, kT, k2, if_neg (by decide)]
    unfold tp1M
    rw [T6, vT, v2, iT, if_neg (by omega), if_neg (by decide)]
  have nT : ∀ q, q ≠ 51 → nxM T q = T q := fun q hq => nxM_r _ hq
  have eA : afM (nxM T) k k = up (up (up (up (nxM T) (34 + k) k (nxM T (34 + k) k + nxM T 51 9)) 51 11 (nxM T 51 11 + i32 ((i32 (nxM T 51 9 * nxM T 23 k)).tdiv 100))) 51 12 (nxM T 51 12 + i32 ((i32 (nxM T 51 9 * nxM T 24 k)).tdiv 100))) 51 10 (ior (nxM T 51 10) (nxM T 25 k)) := by
    unfold afM; rw [en]
  have a9 : nxM T 51 9 = 100 := by rw [nxM_j _ (Or.inr (by decide))]; exact T9
  have a23 : nxM T 23 k = e := by rw [nT 23 (by decide), Tr 23 (by decide), f1 23 ⟨by decide, by omega⟩]; exact h23
  have a24 : nxM T 24 k = 0 := by rw [nT 24 (by decide), Tr 24 (by decide), f1 24 ⟨by decide, by omega⟩]; exact h24
  have a11 : nxM T 51 11 = 0 ∧ nxM T 51 12 = 0 := by
    rw [nxM_j _ (Or.inr (by decide)), nxM_j _ (Or.inr (by decide)), T51 11 (by decide), T51 12 (by decide)]
    exact f11
  have a34 : ∀ f : Nat, f < 16 → nxM T (34 + k) f = 0 := fun f hf => by rw [nT _ (by omega), Tr _ (by omega)]; exact z2 f hf
  have b1 := en_bd a9 (e := e) he
  have b2 := en_bd a9 (e := 0) (by decide)
  generalize hA : afM (nxM T) k k = A at tp eA
  have A6 : A 51 6 = c + 3 := by
    rw [eA, up_j _ _ (by decide), up_j _ _ (by decide), up_j _ _ (by decide), up_k _ _ (by omega), nxM_6, T6]; omega
  have Ar : ∀ q, q ≠ 51 ∧ q ≠ 34 + k → A q = T q := fun q hq => by
    rw [eA, up_r _ _ _ hq.1, up_r _ _ _ hq.1, up_r _ _ _ hq.1, up_r _ _ _ hq.2, nT q hq.1]
  have kA : ∀ t, KC A t = KC R t := fun t => (KC_fr (Ar 3 ⟨by decide, by omega⟩) (Ar 5 ⟨by decide, by omega⟩) t).trans (kT t)
  have e0 : tpL k 1500 0 true Z = (1, true, A) := by
    show (if true = true ∧ (KC Z (Z 51 6) = 18 ∨ KC Z (Z 51 6) = 19) then tpL k 1499 (0 + 1) (tpM (nxM Z) k 0).1 (tpM (nxM Z) k 0).2 else (0, true, Z)) = _
    rw [t6, kz, if_pos ⟨rfl, Or.inl k0⟩, tp]
    show (if true = true ∧ (KC A (A 51 6) = 18 ∨ KC A (A 51 6) = 19) then tpL k 1498 (0 + 1 + 1) (tpM (nxM A) k (0 + 1)).1 (tpM (nxM A) k (0 + 1)).2 else (0 + 1, true, A)) = _
    rw [A6, kA, if_neg (fun z => k3 z.2)]
    rfl
  refine ⟨up A 30 k 1, ?_, fun q hq => ?_, ?_, fun j hj => ?_, fun f hf => ?_, ?_, ?_⟩
  · unfold tqM tqE
    rw [hZ, e0, en]
  · rw [up_r _ _ _ hq.2.1, Ar q ⟨hq.1, hq.2.2⟩, Tr q hq.1, f1 q ⟨hq.1, hq.2.2⟩]
  · rw [up_k _ _ (by decide)]; exact A6
  · rw [up_k _ _ (by decide), eA, up_j _ _ hj.2.2.1, up_j _ _ hj.2.2.2.2, up_j _ _ hj.2.2.2.1, up_k _ _ (by omega), nxM_j _ (Or.inr hj.1), T51 j ⟨hj.1, hj.2.1⟩, f51 j ⟨hj.2.2.2.1, hj.2.2.2.2⟩]
  · rw [up_k _ _ (by omega), eA, up_k _ _ (by omega), up_k _ _ (by omega), up_k _ _ (by omega), up_at, a9, a34 k (by omega), a34 f hf]
    split <;> decide
  · rw [up_k _ _ (by decide), eA, up_j _ _ (by decide), up_j _ _ (by decide), up_s, a11.1, a23]; omega
  · rw [up_k _ _ (by decide), eA, up_j _ _ (by decide), up_s, a11.2, a24]; omega
theorem rd_ok {a b : Int} {k : Nat} {nt nt2 : Int} (hB : MB σ a ((k : Int) + 1) k 0 nt 0 0) (hN : MN σ ((k : Int) + 1) k 0 nt) (hk : k < 6) (hnt : 0 ≤ nt ∧ nt ≤ 1) (v1 : VC σ (a + 1) = 109 + k) (v3 : VC σ (a + 3) = 1) (k4 : KC σ (a + 4) = 18) (v5 : VC σ (a + 5) = 100) (k6 : KC σ (a + 6) = 22) (v6 : VC σ (a + 6) = 163 + k)
    (hT : (KC σ (a + 7) = 17 ∧ b = a + 7 ∧ nt2 = nt) ∨ (KC σ (a + 7) = 3 ∧ VC σ (a + 8) = 20 ∧ KC σ (a + 9) = 17 ∧ b = a + 9 ∧ nt2 = 1)) :
    ∃ z, rdM σ = (true, z) ∧ MB z (b + 1) ((k : Int) + 1) ((k : Int) + 1) 0 nt2 0 0 ∧ MN z ((k : Int) + 1) ((k : Int) + 1) 0 nt2 ∧ Fq σ z := by
  obtain ⟨⟨b1, b2, b3⟩, ⟨c1, c2, c3, c4⟩, d1, d2, d3, d4, d5, d6⟩ := hB
  have e12 : i32 (σ 12 2) = k := by rw [d2]; exact i32_n _ (by omega)
  have en : ((k : Int)).toNat = k := by omega
  have fr : ∀ q, q ≠ 51 → nxM σ q = σ q := fun q hq => nxM_r _ hq
  have r1 : rd1M σ = (true, nxM (nxM σ)) := by
    unfold rd1M
    refine nn_y (v := 109 + k) (by rw [nxM_6, b1, VCn]; exact v1) ?_ ?_ ?_
    · rw [idxC_fr (fr 10 (by decide)) (fr 11 (by decide)), nm_f d1 hN ⟨by omega, by omega⟩ ⟨by omega, by omega⟩, if_neg (by omega)]
    · rw [idxC_fr (fr 12 (by decide)) (fr 13 (by decide)), nm_d d2 hN ⟨by omega, by omega⟩ ⟨by omega, by omega⟩, if_neg (by omega)]
    · rw [idxC_fr (fr 14 (by decide)) (fr 15 (by decide))]; exact nm_m0 d3 ⟨by omega, by omega⟩
  have r2 : rd2M σ = (true, nxM (up (nxM (nxM (nxM σ))) 51 9 1)) := by
    unfold rd2M
    rw [r1]
    show tnM (nxM (nxM (nxM σ))) _ _ = _
    exact tn_y (by rw [nxM_6, nxM_6, nxM_6, b1, VCn, VCn, VCn, show a + 1 + 1 + 1 = a + 3 from by omega]; exact v3) (by decide) (by decide) (by decide)
  have r3 : rd3M σ = up (up (nxM (up (nxM (nxM (nxM σ))) 51 9 1)) 26 k 1) 51 10 0 := by
    unfold rd3M
    rw [r2, e12, en]
    rfl
  generalize hR : rd3M σ = R at r3
  have R6 : R 51 6 = a + 4 := by rw [r3, up_j _ _ (by decide), up_k _ _ (by decide), nxM_6, up_j _ _ (by decide), nxM_6, nxM_6, nxM_6, b1]; omega
  have Rr : ∀ q, q ≠ 51 ∧ q ≠ 26 → R q = σ q := fun q hq => by rw [r3, up_r _ _ _ hq.1, up_r _ _ _ hq.2, nxM_r _ hq.1, up_r _ _ _ hq.1, nxM_r _ hq.1, nxM_r _ hq.1, nxM_r _ hq.1]
  have R51 : ∀ j, j ≠ 6 ∧ j ≠ 9 ∧ j ≠ 10 → R 51 j = σ 51 j := fun j hj => by rw [r3, up_j _ _ hj.2.2, up_k _ _ (by decide), nxM_j _ (Or.inr hj.1), up_j _ _ hj.2.1, nxM_j _ (Or.inr hj.1), nxM_j _ (Or.inr hj.1), nxM_j _ (Or.inr hj.1)]
  have kR : ∀ t, KC R t = KC σ t := KC_fr (Rr 3 (by decide)) (Rr 5 (by decide))
  have vR : ∀ t, VC R t = VC σ t := VC_fr (Rr 3 (by decide)) (Rr 7 (by decide))
  have hf := hN.1 k (by omega)
  obtain ⟨p, p0, p1, p2, p3, p4, p5, p6⟩ := tq_ok (R := R) (c := a + 4) (e := σ 23 k) hk R6 (by rw [Rr 23 (by decide)]) (by rw [Rr 24 (by decide)]; exact hf.2.2) hf.2.1 (by
    rw [idxC_fr (Rr 10 (by decide)) (Rr 11 (by decide)), nm_f d1 hN ⟨by omega, by omega⟩ ⟨by omega, by omega⟩, if_pos (by omega)]; omega) (by rw [kR]; exact k4) (by rw [vR, show a + 4 + 1 = a + 5 from by omega]; exact v5) (by rw [kR, show a + 4 + 2 = a + 6 from by omega]; exact k6) (by rw [vR, show a + 4 + 2 = a + 6 from by omega]; exact v6) (by
    rw [kR, show a + 4 + 3 = a + 7 from by omega]
    rcases hT with z | z <;> (rw [z.1]; decide))
  have r4 : rd4M σ = (true, p) := by unfold rd4M; rw [hR, e12]; exact p0
  have P6 : p 51 6 = a + 7 := by rw [p2]; omega
  have Pr : ∀ q, q ≠ 51 ∧ q ≠ 30 ∧ q ≠ 34 + k ∧ q ≠ 26 → p q = σ q := fun q hq => by rw [p1 q ⟨hq.1, hq.2.1, hq.2.2.1⟩, Rr q ⟨hq.1, hq.2.2.2⟩]
  have kP : ∀ t, KC p t = KC σ t := KC_fr (Pr 3 ⟨by decide, by decide, by omega, by decide⟩) (Pr 5 ⟨by decide, by decide, by omega, by decide⟩)
  have vP : ∀ t, VC p t = VC σ t := VC_fr (Pr 3 ⟨by decide, by decide, by omega, by decide⟩) (Pr 7 ⟨by decide, by decide, by omega, by decide⟩)
  have e16 : p 16 = σ 16 := Pr 16 ⟨by decide, by decide, by omega, by decide⟩
  have e17 : p 17 = σ 17 := Pr 17 ⟨by decide, by decide, by omega, by decide⟩
  -- the tags
  have tg : ∃ w, rd5M σ = (true, w) ∧ (∀ q, q ≠ 51 ∧ q ≠ 16 ∧ q ≠ 17 → w q = p q) ∧ w 51 6 = b ∧ (∀ j, j ≠ 6 ∧ j ≠ 10 → w 51 j = p 51 j) ∧ w 16 1 = 16 ∧ w 16 2 = nt2 ∧ (∀ j : Nat, (j : Int) < nt2 → w 17 j = 20) := by
    unfold rd5M
    rw [r4]
    rcases hT with ⟨t1, t2, t3⟩ | ⟨t1, t2, t3, t4, t5⟩
    · refine ⟨p, tg_stop (show KC p (p 51 6) = 17 by rw [P6, kP]; exact t1) 1500, fun _ _ => rfl, by rw [P6, t2], fun _ _ => rfl, by rw [e16]; exact c4, by rw [e16, d4, t3], fun j hj => ?_⟩
      rw [e17]; exact hN.2.2.2 j (by omega)
    · obtain ⟨w, w0, w1, w2, w3, w4, w5, w6⟩ := tg_y (p := p) (c := a + 7) (nt := nt) P6 (by rw [e16]; exact d4) hnt (by rw [e16]; exact c4) (fun z => by rw [e17]; exact hN.2.2.2 0 (by omega)) (by rw [kP]; exact t1) (by rw [vP, show a + 7 + 1 = a + 8 from by omega]; exact t2) (by rw [kP, show a + 7 + 2 = a + 9 from by omega]; exact t3)
      refine ⟨w, w0, w1, by rw [w2, t4]; omega, w3, w4, by rw [w5, t5], fun j hj => ?_⟩
      obtain rfl : j = 0 := by omega
      exact w6
  obtain ⟨w, w0, w1, w2, w3, w4, w5, w6⟩ := tg
  have Wr : ∀ q, q ≠ 51 ∧ q ≠ 30 ∧ q ≠ 34 + k ∧ q ≠ 26 ∧ q ≠ 16 ∧ q ≠ 17 → w q = σ q := fun q hq => by rw [w1 q ⟨hq.1, hq.2.2.2.2.1, hq.2.2.2.2.2⟩, Pr q ⟨hq.1, hq.2.1, hq.2.2.1, hq.2.2.2.1⟩]
  have ntm : tmuchM w k = false := tm_no (fun f hf => by rw [w1 (34 + k) ⟨by omega, by omega, by omega⟩]; exact p4 f hf) (by rw [w3 11 (by decide)]; exact p5) (by rw [w3 12 (by decide)]; exact p6)
  have hfull : fullC σ 12 = false := fl_n d2 ⟨by omega, by omega⟩ c2 (by decide) (by omega)
  have vD : VC (tdM w k) (σ 51 6 + 1) = 109 + k := by
    rw [b1, VC_fr (σ := w) (td_r w k (by decide)) (td_r w k (by decide)), VC_fr (Wr 3 ⟨by decide, by decide, by omega, by decide, by decide, by decide⟩) (Wr 7 ⟨by decide, by decide, by omega, by decide, by decide, by decide⟩)]
    exact v1
  have Dr : ∀ q, q ≠ 51 ∧ ¬ (26 ≤ q ∧ q ≤ 30) ∧ q ≠ 34 + k ∧ q ≠ 16 ∧ q ≠ 17 → tdM w k q = σ q := fun q hq => by rw [td_r w k ⟨by omega, by omega, by omega⟩, Wr q ⟨hq.1, by omega, hq.2.2.1, by omega, hq.2.2.2.1, hq.2.2.2.2⟩]
  have ea : addC (tdM w k) 12 (109 + k) = up (up (tdM w k) 13 k (109 + k)) 12 2 (k + 1) := by
    have := ad_y (σ := tdM w k) (k := 12) (n := k) (v := 109 + k) (by rw [Dr 12 ⟨by decide, by decide, by omega, by decide, by decide⟩]; exact d2) ⟨by omega, by omega⟩
    rw [en] at this
    exact this
  have e0 : rdM σ = (true, nxM (up (up (tdM w k) 13 k (109 + k)) 12 2 (k + 1))) := by
    unfold rdM
    rw [if_neg (by rw [hfull, e12]; rintro (z | z | z) <;> first | exact absurd z (by decide) | omega), r1, if_pos rfl, r2, if_pos rfl, r4, if_pos rfl, w0, if_pos rfl]
    unfold rdEM
    dsimp only
    rw [e12, ntm, if_neg (by decide), vD, ea]
  have t51 : ∀ j, tdM w k 51 j = w 51 j := fun j => congrFun (td_r w k (q := 51) (by decide)) j
  have X : ∀ q, q ≠ 51 ∧ q ≠ 12 ∧ q ≠ 13 → nxM (up (up (tdM w k) 13 k (109 + k)) 12 2 (k + 1)) q = tdM w k q := fun q hq => by rw [nxM_r _ hq.1, up_r _ _ _ hq.2.1, up_r _ _ _ hq.2.2]
  have x16 : tdM w k 16 = w 16 := td_r w k (by decide)
  have x17 : tdM w k 17 = w 17 := td_r w k (by decide)
  refine ⟨_, e0, ⟨⟨?_, ?_, ?_⟩, ⟨?_, ?_, ?_, ?_⟩, ?_, ?_, ?_, ?_, ?_, ?_⟩, ⟨fun j hj => ?_, fun j hj => ?_, fun j hj => ?_, fun j hj => ?_⟩, fun q hq => ?_⟩
  · rw [nxM_6, up_k _ _ (by decide), up_k _ _ (by decide), t51, w2]
  · rw [nxM_j _ (Or.inr (by decide)), up_k _ _ (by decide), up_k _ _ (by decide), t51, w3 7 (by decide), p3 7 (by decide), R51 7 (by decide)]; exact b2
  · rw [nxM_j _ (Or.inr (by decide)), up_k _ _ (by decide), up_k _ _ (by decide), t51, w3 8 (by decide), p3 8 (by decide), R51 8 (by decide)]; exact b3
  · rw [X 10 (by decide), Dr 10 ⟨by decide, by decide, by omega, by decide, by decide⟩]; exact c1
  · rw [nxM_r _ (by decide), up_j _ _ (by decide), up_k _ _ (by decide), Dr 12 ⟨by decide, by decide, by omega, by decide, by decide⟩]; exact c2
  · rw [X 14 (by decide), Dr 14 ⟨by decide, by decide, by omega, by decide, by decide⟩]; exact c3
  · rw [X 16 (by decide), x16]; exact w4
  · rw [X 10 (by decide), Dr 10 ⟨by decide, by decide, by omega, by decide, by decide⟩]; exact d1
  · rw [nxM_r _ (by decide), up_s]
  · rw [X 14 (by decide), Dr 14 ⟨by decide, by decide, by omega, by decide, by decide⟩]; exact d3
  · rw [X 16 (by decide), x16]; exact w5
  · rw [X 9 (by decide), Dr 9 ⟨by decide, by decide, by omega, by decide, by decide⟩]; exact d5
  · rw [X 18 (by decide), Dr 18 ⟨by decide, by decide, by omega, by decide, by decide⟩]; exact d6
  · rw [X 11 (by decide), X 23 (by decide), X 24 (by decide), Dr 11 ⟨by decide, by decide, by omega, by decide, by decide⟩, Dr 23 ⟨by decide, by decide, by omega, by decide, by decide⟩, Dr 24 ⟨by decide, by decide, by omega, by decide, by decide⟩]; exact hN.1 j hj
  · rw [nxM_r _ (by decide), up_k _ _ (by decide), up_at]
    by_cases c : j = k
    · rw [if_pos c, c]
    · rw [if_neg c, Dr 13 ⟨by decide, by decide, by omega, by decide, by decide⟩]; exact hN.2.1 j (by omega)
  · rw [X 15 (by decide), Dr 15 ⟨by decide, by decide, by omega, by decide, by decide⟩]; exact hN.2.2.1 j hj
  · rw [X 17 (by decide), x17]; exact w6 j hj
  · rw [X q ⟨by omega, by omega, by omega⟩, Dr q ⟨by omega, by omega, by omega, by omega, by omega⟩]
end S96
