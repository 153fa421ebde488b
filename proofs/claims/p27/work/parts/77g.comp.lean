/-! the law's program is compiled without an error, and tells what it says -/
section S98
variable {σ τ : Sg}
theorem rpL_go {n : Nat} {z : Sg} (hk : KC σ (σ 51 6) ≠ 25) (h : rpI σ = (true, z)) : rpL (n + 1) true σ = rpL n true z := by
  show (if true = true ∧ ¬ KC σ (σ 51 6) = 25 then rpL n (rpI σ).1 (rpI σ).2 else (true, σ)) = _
  rw [if_pos ⟨rfl, hk⟩, h]
theorem rpL_end (hk : KC σ (σ 51 6) = 25) : ∀ n : Nat, rpL n true σ = (true, σ)
  | 0 => rfl
  | _ + 1 => if_neg (fun z => z.2 hk)
theorem At.k {a : Int} {l : List (Int × Int)} (g : At σ a l) (j : Nat) {b : Int} (hj : j < l.length) (hb : b = a + j) : KC σ b = (l.getD j (0, 0)).1 := by rw [hb]; exact (g j hj).1
theorem At.v {a : Int} {l : List (Int × Int)} (g : At σ a l) (j : Nat) {b : Int} (hj : j < l.length) (hb : b = a + j) : VC σ b = (l.getD j (0, 0)).2 := by rw [hb]; exact (g j hj).2
theorem rp_foods {D : Nat} {e : Nat → Int} {t : Nat → Bool} (hD : D ≤ 6) (he : ∀ k, k < D → 0 ≤ e k ∧ e k ≤ 900) (ht : t 0 = true) : ∀ (m k n : Nat) (σ : Sg) (a : Int) (rest : List (Int × Int)), k + m = D → MB σ a k k 0 (if k = 0 then 0 else 1) 0 0 → MN σ k k 0 (if k = 0 then 0 else 1) → At σ a (tkL (flat (fdR e t k m)) ++ rest) →
    ∃ z b, rpL (n + 2 * m) true σ = rpL n true z ∧ MB z b D D 0 (if D = 0 then 0 else 1) 0 0 ∧ MN z D D 0 (if D = 0 then 0 else 1) ∧ At z b rest ∧ Fq σ z
  | 0, k, n, σ, a, rest, hk, hB, hN, hA => by
    obtain rfl : k = D := by omega
    exact ⟨σ, a, rfl, hB, hN, hA, fun _ _ => rfl⟩
  | m + 1, k, n, σ, a, rest, hk, hB, hN, hA => by
    have hk6 : k < 6 := by omega
    have hek := he k (by omega)
    obtain ⟨-, -, f3⟩ := it_food (k := k) (e := e k) hk6 (by omega)
    obtain ⟨-, -, g3⟩ := it_dish (k := k) (t := t k) hk6
    have e1 : tkL (flat (fdR e t k (m + 1))) = tkL (foodL k (e k)) ++ (tkL (dishL k (t k)) ++ tkL (flat (fdR e t (k + 1) m))) := by
      show tkL (foodL k (e k) ++ (dishL k (t k) ++ flat (fdR e t (k + 1) m))) = _
      rw [tk_app, tk_app]
    rw [e1, f3, List.append_assoc, List.append_assoc] at hA
    have g := hA.l
    have hnt : 0 ≤ (if k = 0 then (0 : Int) else 1) ∧ (if k = 0 then (0 : Int) else 1) ≤ 1 := by split <;> omega
    obtain ⟨z1, r1, B1, N1, F1⟩ := rf_ok hB hN hk6 hnt hek (g.v 1 (Nat.le_of_ble_eq_true rfl) (by omega)) (g.v 2 (Nat.le_of_ble_eq_true rfl) (by omega)) (g.k 3 (Nat.le_of_ble_eq_true rfl) (by omega))
    have i1 : rpI σ = (true, z1) := by
      unfold rpI
      rw [hB.1.1, g.k 0 (Nat.le_of_ble_eq_true rfl) (by omega)]
      exact (if_pos rfl).trans r1
    have s1 : ∀ q : Nat, rpL (q + 1) true σ = rpL q true z1 := fun q => rpL_go (by rw [hB.1.1, g.k 0 (Nat.le_of_ble_eq_true rfl) (by omega)]; exact (show (0 : Int) ≠ 25 by decide)) i1
    have A1 : At z1 (a + 4) (tkL (dishL k (t k)) ++ (tkL (flat (fdR e t (k + 1) m)) ++ rest)) := F1.at hA.r
    rw [g3] at A1
    have ek : ((k + 1 : Nat) : Int) = (k : Int) + 1 := by omega
    have en1 : (if k + 1 = 0 then (0 : Int) else 1) = 1 := if_neg (by omega)
    have dish : ∃ z2 b, rdM z1 = (true, z2) ∧ MB z2 b ((k : Int) + 1) ((k : Int) + 1) 0 1 0 0 ∧ MN z2 ((k : Int) + 1) ((k : Int) + 1) 0 1 ∧ Fq z1 z2 ∧ At z2 b (tkL (flat (fdR e t (k + 1) m)) ++ rest) := by
      have h7 : ∀ q : List (Int × Int), At z1 (a + 4) ([((1 : Int), (85814 : Int)), (22, 109 + k), (2, 4797), (23, 1), (18, 0), (23, 100), (22, 163 + k)] ++ q) → At z1 (a + 4 + 7) q := fun q h => h.r
      have w := A1.l
      cases ht2 : t k with
      | true =>
        rw [ht2, if_pos rfl] at A1 w
        have w0 := w.l
        have w7 := h7 _ w
        obtain ⟨z2, r2, B2, N2, F2⟩ := rd_ok (b := a + 4 + 9) (nt2 := 1) B1 N1 hk6 hnt (w0.v 1 (Nat.le_of_ble_eq_true rfl) (by omega)) (w0.v 3 (Nat.le_of_ble_eq_true rfl) (by omega)) (w0.k 4 (Nat.le_of_ble_eq_true rfl) (by omega)) (w0.v 5 (Nat.le_of_ble_eq_true rfl) (by omega)) (w0.k 6 (Nat.le_of_ble_eq_true rfl) (by omega)) (w0.v 6 (Nat.le_of_ble_eq_true rfl) (by omega)) (Or.inr ⟨w7.k 0 (Nat.le_of_ble_eq_true rfl) (by omega), w7.v 1 (Nat.le_of_ble_eq_true rfl) (by omega), w7.k 2 (Nat.le_of_ble_eq_true rfl) (by omega), rfl, rfl⟩)
        refine ⟨z2, _, r2, B2, N2, F2, ?_⟩
        have := F2.at A1.r
        rw [show a + 4 + (([((1 : Int), (85814 : Int)), (22, 109 + (k : Int)), (2, 4797), (23, 1), (18, 0), (23, 100), (22, 163 + (k : Int))] ++ [((3 : Int), (262 : Int)), (22, 20), (17, 0)]).length : Int) = a + 4 + 9 + 1 from by rw [show (([((1 : Int), (85814 : Int)), (22, 109 + (k : Int)), (2, 4797), (23, 1), (18, 0), (23, 100), (22, 163 + (k : Int))] ++ [((3 : Int), (262 : Int)), (22, 20), (17, 0)]).length : Int) = 10 from rfl]; omega] at this
        exact this
      | false =>
        have k0 : k ≠ 0 := fun z => by rw [z, ht] at ht2; cases ht2
        rw [ht2, if_neg (by decide)] at A1 w
        rw [if_neg k0] at B1 N1
        have w0 := w.l
        have w7 := h7 _ w
        obtain ⟨z2, r2, B2, N2, F2⟩ := rd_ok (b := a + 4 + 7) (nt2 := 1) B1 N1 hk6 (by decide) (w0.v 1 (Nat.le_of_ble_eq_true rfl) (by omega)) (w0.v 3 (Nat.le_of_ble_eq_true rfl) (by omega)) (w0.k 4 (Nat.le_of_ble_eq_true rfl) (by omega)) (w0.v 5 (Nat.le_of_ble_eq_true rfl) (by omega)) (w0.k 6 (Nat.le_of_ble_eq_true rfl) (by omega)) (w0.v 6 (Nat.le_of_ble_eq_true rfl) (by omega)) (Or.inl ⟨w7.k 0 (Nat.le_of_ble_eq_true rfl) (by omega), rfl, rfl⟩)
        refine ⟨z2, _, r2, B2, N2, F2, ?_⟩
        have := F2.at A1.r
        rw [show a + 4 + (([((1 : Int), (85814 : Int)), (22, 109 + (k : Int)), (2, 4797), (23, 1), (18, 0), (23, 100), (22, 163 + (k : Int))] ++ [((17 : Int), (0 : Int))]).length : Int) = a + 4 + 7 + 1 from by rw [show (([((1 : Int), (85814 : Int)), (22, 109 + (k : Int)), (2, 4797), (23, 1), (18, 0), (23, 100), (22, 163 + (k : Int))] ++ [((17 : Int), (0 : Int))]).length : Int) = 8 from rfl]; omega] at this
        exact this
    obtain ⟨z2, b, r2, B2, N2, F2, A2⟩ := dish
    have kd : KC z1 (z1 51 6) = 1 := by
      rw [B1.1.1]
      exact A1.l.l.k 0 (Nat.le_of_ble_eq_true rfl) (by omega)
    have i2 : rpI z1 = (true, z2) := by
      unfold rpI
      rw [kd]
      exact (if_neg (by decide)).trans ((if_pos rfl).trans r2)
    have s2 : ∀ q : Nat, rpL (q + 1) true z1 = rpL q true z2 := fun q => rpL_go (by rw [kd]; decide) i2
    obtain ⟨z, b2, q1, q2, q3, q4, q5⟩ := rp_foods hD he ht m (k + 1) n z2 b rest (by omega) (by rw [ek, en1]; exact B2) (by rw [ek, en1]; exact N2) A2
    refine ⟨z, b2, ?_, q2, q3, q4, (F1.tr F2).tr q5⟩
    rw [show n + 2 * (m + 1) = n + 2 * m + 1 + 1 from by omega, s1, s2]
    exact q1
theorem rp_rules {D : Nat} (hD : 2 ≤ D ∧ D ≤ 6) : ∀ (Rs : List Rl) (r n : Nat) (σ : Sg) (a : Int) (rest : List (Int × Int)), r + Rs.length ≤ 5 → (∀ R ∈ Rs, RlOk D R) → MB σ a D D 1 1 2 r → MN σ D D 1 1 → At σ a (tkL (flat (Rs.map ruleL)) ++ rest) →
    ∃ z b, rpL (n + Rs.length) true σ = rpL n true z ∧ MB z b D D 1 1 2 ((r + Rs.length : Nat) : Int) ∧ At z b rest ∧ (∀ j, j < r → z 19 j = σ 19 j) ∧ (∀ i, i < Rs.length → z 19 (r + i) = ((Rs.getD i (0, 0, 0, none)).1 : Int)) ∧ Fq σ z
  | [], r, n, σ, a, rest, hn, hR, hB, hN, hA => ⟨σ, a, rfl, hB, hA, fun _ _ => rfl, fun i hi => absurd hi (Nat.not_lt_zero i), fun _ _ => rfl⟩
  | R :: Rs, r, n, σ, a, rest, hn, hR, hB, hN, hA => by
    have hln : (R :: Rs).length = Rs.length + 1 := rfl
    have hRo := hR R List.mem_cons_self
    obtain ⟨-, -, f3⟩ := it_rule hD.2 hRo
    have e1 : tkL (flat ((R :: Rs).map ruleL)) = tkL (ruleL R) ++ tkL (flat (Rs.map ruleL)) := by
      show tkL (ruleL R ++ flat (Rs.map ruleL)) = _
      rw [tk_app]
    rw [e1, f3, List.append_assoc] at hA
    have hD2 : σ 12 2 = D := hB.2.2.2.1
    have hT2 : σ 16 2 = 1 := hB.2.2.2.2.2.1
    have kn : ∀ o : Option Nat, (∀ j, o = some j → j < D) → (¬ idxC σ 12 (nmV2 o) = -1 ∨ ¬ idxC σ 16 (nmV2 o) = -1) := by
      intro o ho
      cases o with
      | none => exact Or.inr (by show ¬ idxC σ 16 20 = -1; rw [nm_t hT2 hN (by decide), if_pos rfl]; decide)
      | some j =>
        have := ho j rfl
        refine Or.inl ?_
        show ¬ idxC σ 12 (109 + j) = -1
        rw [nm_d hD2 hN ⟨by omega, by omega⟩ ⟨by omega, by omega⟩, if_pos (by omega)]
        omega
    have key : ∃ b z, rlM σ = (true, z) ∧ MB z (b + 1) D D 1 1 2 ((r : Int) + 1) ∧ MN z D D 1 1 ∧ (∀ j, j ≠ r → z 19 j = σ 19 j) ∧ z 19 r = (R.1 : Int) ∧ Fq σ z ∧ KC σ a = 6 ∧ b + 1 = a + (ruT R).length := by
      obtain ⟨s, v1, v3, o⟩ := R
      obtain ⟨h0, h1, h2, h3, h4, h5, h6, h7⟩ := hRo
      dsimp only at h0 h1 h2 h3 h4 h5 h6 h7 ⊢
      have hk := kn o h7
      have cs : s = 0 ∨ s = 1 ∨ s = 2 ∨ s = 3 := by omega
      rcases cs with rfl | rfl | rfl | rfl
      · have g : At σ a [((6 : Int), (369932 : Int)), (7, 847604), (23, v1), (22, nmV2 o), (17, 0)] := hA.l
        obtain ⟨z, q1, q2, q3, q4, q5, q6⟩ := rl_ok (b := a + 4) (so := 0) hB hN (by omega) (rl2_ok (v2 := nmV2 o) (v3 := 0) hB.1.1 hB.2.2.2.2.2.2.2 (by omega) (g.v 2 (Nat.le_of_ble_eq_true rfl) (by omega)) (Or.inl ⟨rfl, g.k 1 (Nat.le_of_ble_eq_true rfl) (by omega), h1 rfl, g.v 3 (Nat.le_of_ble_eq_true rfl) (by omega), hk, rfl⟩))
        exact ⟨a + 4, z, q1, q2, q3, q4, q5, q6, g.k 0 (Nat.le_of_ble_eq_true rfl) (by omega), by show a + 4 + 1 = a + 5; omega⟩
      · have g : At σ a [((6 : Int), (369932 : Int)), (8, 267347), (23, v1), (22, nmV2 o), (10, 257), (23, v3), (17, 0)] := hA.l
        obtain ⟨z, q1, q2, q3, q4, q5, q6⟩ := rl_ok (b := a + 6) (so := 1) hB hN (by omega) (rl2_ok (v2 := nmV2 o) (v3 := v3) hB.1.1 hB.2.2.2.2.2.2.2 (by omega) (g.v 2 (Nat.le_of_ble_eq_true rfl) (by omega)) (Or.inr (Or.inl ⟨rfl, g.k 1 (Nat.le_of_ble_eq_true rfl) (by omega), h2 rfl, g.v 3 (Nat.le_of_ble_eq_true rfl) (by omega), hk, g.v 5 (Nat.le_of_ble_eq_true rfl) (by omega), h5 (Or.inl rfl), rfl⟩)))
        exact ⟨a + 6, z, q1, q2, q3, q4, q5, q6, g.k 0 (Nat.le_of_ble_eq_true rfl) (by omega), by show a + 6 + 1 = a + 7; omega⟩
      · have g : At σ a [((6 : Int), (369932 : Int)), (9, 6476969), (23, v1), (22, nmV2 o), (10, 257), (23, v3), (17, 0)] := hA.l
        obtain ⟨z, q1, q2, q3, q4, q5, q6⟩ := rl_ok (b := a + 6) (so := 2) hB hN (by omega) (rl2_ok (v2 := nmV2 o) (v3 := v3) hB.1.1 hB.2.2.2.2.2.2.2 (by omega) (g.v 2 (Nat.le_of_ble_eq_true rfl) (by omega)) (Or.inr (Or.inr (Or.inl ⟨rfl, g.k 1 (Nat.le_of_ble_eq_true rfl) (by omega), h3 rfl, g.v 3 (Nat.le_of_ble_eq_true rfl) (by omega), hk, g.v 5 (Nat.le_of_ble_eq_true rfl) (by omega), h5 (Or.inr rfl), rfl⟩))))
        exact ⟨a + 6, z, q1, q2, q3, q4, q5, q6, g.k 0 (Nat.le_of_ble_eq_true rfl) (by omega), by show a + 6 + 1 = a + 7; omega⟩
      · have g : At σ a [((6 : Int), (369932 : Int)), (11, 79296460), (23, v1), (12, 555), (23, v3), (17, 0)] := hA.l
        obtain ⟨z, q1, q2, q3, q4, q5, q6⟩ := rl_ok (b := a + 5) (so := 3) hB hN (by omega) (rl2_ok (v2 := 0) (v3 := v3) hB.1.1 hB.2.2.2.2.2.2.2 (by omega) (g.v 2 (Nat.le_of_ble_eq_true rfl) (by omega)) (Or.inr (Or.inr (Or.inr ⟨rfl, g.k 1 (Nat.le_of_ble_eq_true rfl) (by omega), h4 rfl, g.v 4 (Nat.le_of_ble_eq_true rfl) (by omega), h6 rfl, rfl⟩))))
        exact ⟨a + 5, z, q1, q2, q3, q4, q5, q6, g.k 0 (Nat.le_of_ble_eq_true rfl) (by omega), by show a + 5 + 1 = a + 6; omega⟩
    obtain ⟨b, z, q1, q2, q3, q4, q5, q6, q7, q8⟩ := key
    have i1 : rpI σ = (true, z) := by
      unfold rpI
      rw [hB.1.1, q7]
      exact (if_neg (by decide)).trans ((if_neg (by decide)).trans ((if_neg (by decide)).trans q1))
    have s1 : ∀ q : Nat, rpL (q + 1) true σ = rpL q true z := fun q => rpL_go (by rw [hB.1.1, q7]; decide) i1
    have er : ((r + 1 : Nat) : Int) = (r : Int) + 1 := by omega
    have A1 := q6.at hA.r
    rw [← q8] at A1
    obtain ⟨w, b2, p1, p2, p3, p4, p5, p6⟩ := rp_rules hD Rs (r + 1) n z (b + 1) rest (by omega) (fun R hR2 => hR R (List.mem_cons_of_mem _ hR2)) (by rw [er]; exact q2) q3 A1
    refine ⟨w, b2, ?_, ?_, p3, fun j hj => ?_, fun i hi => ?_, q6.tr p6⟩
    · rw [hln, show n + (Rs.length + 1) = n + Rs.length + 1 from by omega, s1]; exact p1
    · rw [hln, show r + (Rs.length + 1) = r + 1 + Rs.length from by omega]; exact p2
    · rw [p4 j (by omega), q4 j (by omega)]
    · cases i with
      | zero => rw [show r + 0 = r from rfl, p4 r (by omega)]; exact q5
      | succ i => rw [show r + (i + 1) = r + 1 + i from by omega]; exact p5 i (by omega)
theorem fd2_19 (z : Sg) {q : Nat} (h : q ≠ 22 ∧ q ≠ 33 ∧ q ≠ 50) : fdM z q = z q := by
  unfold fdM
  rw [fG_r (fun i a _ => by unfold fd2; split; · rfl
                            · rw [up_r _ _ _ h.1]), fG_r (fun i a _ => by
    unfold fd1 suS stE
    rw [up_r _ _ _ h.2.1, up_r _ _ _ h.2.2, up_r _ _ _ h.2.2])]
theorem at_K {a : Int} {l : List (Int × Int)} (h : At σ a l) : AtK (KC σ) a (l.map Prod.fst) := fun j hj => by
  rw [List.length_map] at hj
  have e : ∀ (l : List (Int × Int)) (j : Nat), j < l.length → (l.map Prod.fst).getD j 0 = (l.getD j (0, 0)).1 := by
    intro l
    induction l with
    | nil => intro j hj; exact absurd hj (Nat.not_lt_zero j)
    | cons x l ih =>
      intro j hj
      cases j with
      | zero => rfl
      | succ j => exact ih j (Nat.lt_of_succ_lt_succ hj)
  rw [e l j hj]
  exact (h j hj).1
theorem comp_ok {D : Nat} {e : Nat → Int} {t : Nat → Bool} {Rs : List Rl} (h : Rel σ τ) (hp : PgOk D e t Rs) (hl : σ 1 1 = ((byL (flat (prog D e t Rs))).length : Int)) (h15 : (byL (flat (prog D e t Rs))).length ≤ 1500) (hb : ∀ j : Nat, j < (byL (flat (prog D e t Rs))).length → byteC σ j = (byL (flat (prog D e t Rs))).getD j 0) :
    cmV σ = 0 ∧ cmS σ 12 2 = D ∧ cmS σ 9 16 = 2 ∧ cmS σ 18 4 = Rs.length ∧ (∀ i, i < Rs.length → cmS σ 19 i = ((Rs.getD i (0, 0, 0, none)).1 : Int)) ∧ cmS σ 0 8 = -1 ∧ cmS σ 0 9 = 0 := by
  obtain ⟨-, A1, ⟨z10, z12, z14, z16, z18, z9⟩, A4, Acp, -, A09⟩ := cmA_ok h
  have hkw : KwOk σ := h.2.2.2.2.2.1
  have hcap := h.2.2.2.2.2.2.1
  obtain ⟨i1, i2⟩ := pg_if hp
  obtain ⟨w1, w2, w3, w4, w5⟩ := flt_ok i1
  -- the tokens
  generalize hs1 : up (bgC (clrC σ) 0) 0 9 0 = s1
  have s1k : ∀ k, (1 ≤ k ∧ k < 9) → s1 k = σ k := fun k hk => by rw [← hs1, up_r _ _ _ (by omega), bgC_r _ _ (by omega), clrC_r _ (by omega)]
  have T := read_lx (σ := s1) w1 (by unfold KwOk; rw [s1k 4 (by decide)]; exact hkw) (by rw [s1k 1 (by decide)]; exact hl) h15 (fun j hj => by rw [byteC_fr (s1k 1 (by decide)) (s1k 2 (by decide))]; exact hb j hj) (by omega)
  have htl := tkL_len (flat (prog D e t Rs))
  have AT : At (readC s1) 0 (tkL (flat (prog D e t Rs)) ++ [(25, 0)]) := At.of T (by rw [List.length_append]; show (tkL (flat (prog D e t Rs))).length + 1 ≤ 1501; omega) (fun x hx => by
    rcases List.mem_append.mp hx with hx | hx
    · exact w5 x hx
    · simp only [List.mem_cons, List.not_mem_nil, or_false] at hx
      subst hx; decide)
  have eA : cmA σ = shortC (readC s1) 0 := by unfold cmA; rw [hs1]
  have Ak : ∀ k, k ≠ 1 → cmA σ k = readC s1 k := fun k hk => by rw [eA]; exact shortC_r _ _ hk
  have AA : At (cmA σ) 0 (tkL (flat (prog D e t Rs)) ++ [(25, 0)]) := AT.fr (Ak 3 (by decide)) (Ak 5 (by decide)) (Ak 7 (by decide))
  -- the form
  have AK := at_K AA
  rw [List.map_append, w4] at AK
  obtain ⟨c2, hq⟩ := pQ_items (K := KC (cmA σ)) ((prog D e t Rs).map (fun l => (tkL l).map Prod.fst)) 1500 true 0 (cmA σ 8 2) (fun l hl => by
    obtain ⟨x, hx, rfl⟩ := List.mem_map.mp hl
    exact (i1 x hx).2.2.1) AK (by rw [List.length_map]; omega) (fun _ z => by
    have := congrArg List.length z
    rw [List.length_map] at this
    unfold prog at this
    rw [List.length_append, List.length_cons] at this
    have : (0 : Nat) = 0 + 1 := by simp at this
    omega)
  have ee : eipV (cmA σ) = -1 := by unfold eipV eP; rw [hq]; rfl
  -- the meaning
  have Bk : ∀ k, k ≠ 0 ∧ k ≠ 8 → cmB σ k = cmA σ k := fun k hk => by unfold cmB eipS; rw [up_r _ _ _ hk.1, stF_r _ _ hk.2]
  have Pk : ∀ k, k ≠ 0 ∧ k ≠ 8 ∧ k ≠ 51 → rp0 (cmB σ) k = cmA σ k := fun k hk => by unfold rp0; rw [up_r _ _ _ hk.2.2, up_r _ _ _ hk.2.2, up_r _ _ _ hk.2.2, Bk k ⟨hk.1, hk.2.1⟩]
  have P6 : rp0 (cmB σ) 51 6 = 0 ∧ rp0 (cmB σ) 51 7 = 0 ∧ rp0 (cmB σ) 51 8 = -1 := by
    unfold rp0
    exact ⟨by rw [up_j _ _ (by decide), up_j _ _ (by decide), up_s], by rw [up_j _ _ (by decide), up_s], up_s _ _ _ _⟩
  have B0 : MB (rp0 (cmB σ)) 0 ((0 : Nat) : Int) ((0 : Nat) : Int) 0 (if (0 : Nat) = 0 then 0 else 1) 0 0 := by
    refine ⟨P6, ⟨?_, ?_, ?_, ?_⟩, ?_, ?_, ?_, ?_, ?_, ?_⟩
    · rw [Pk 10 (by decide), Acp 10 1 ⟨by decide, rfl⟩]; exact hcap.1
    · rw [Pk 12 (by decide), Acp 12 1 ⟨by decide, rfl⟩]; exact hcap.2.1
    · rw [Pk 14 (by decide), Acp 14 1 ⟨by decide, rfl⟩]; exact hcap.2.2.1
    · rw [Pk 16 (by decide), Acp 16 1 ⟨by decide, rfl⟩]; exact hcap.2.2.2
    · rw [Pk 10 (by decide)]; exact z10
    · rw [Pk 12 (by decide)]; exact z12
    · rw [Pk 14 (by decide)]; exact z14
    · rw [Pk 16 (by decide)]; exact z16
    · rw [Pk 9 (by decide)]; exact z9
    · rw [Pk 18 (by decide)]; exact z18
  have N0 : MN (rp0 (cmB σ)) ((0 : Nat) : Int) ((0 : Nat) : Int) 0 (if (0 : Nat) = 0 then 0 else 1) := ⟨fun j hj => by omega, fun j hj => by omega, fun j hj => by omega, fun j hj => by rw [if_pos rfl] at hj; omega⟩
  obtain ⟨⟨hD2, hD6⟩, he, ht, hn, hR⟩ := hp
  have A0 : At (rp0 (cmB σ)) 0 (tkL (flat (fdR e t 0 D)) ++ (tkL mealL ++ (tkL (flat (Rs.map ruleL)) ++ [(25, 0)]))) := by
    have : tkL (flat (prog D e t Rs)) = tkL (flat (fdR e t 0 D)) ++ (tkL mealL ++ tkL (flat (Rs.map ruleL))) := by
      unfold prog
      rw [fl_app, tk_app]
      show _ ++ tkL (mealL ++ flat (Rs.map ruleL)) = _
      rw [tk_app]
    rw [this, List.append_assoc, List.append_assoc] at AA
    exact AA.fr (Pk 3 (by decide)) (Pk 5 (by decide)) (Pk 7 (by decide))
  have i0 : (if D = 0 then (0 : Int) else 1) = 1 := if_neg (by omega)
  obtain ⟨zf, bf, f1, f2, f3, f4, f5⟩ := rp_foods hD6 he ht D 0 (1500 - 2 * D) (rp0 (cmB σ)) 0 _ (by omega) B0 N0 A0
  rw [i0] at f2 f3
  rw [show 1500 - 2 * D + 2 * D = 1500 from by omega] at f1
  rw [it_meal.2.2] at f4
  have g := f4.l
  obtain ⟨zm, m1, m2, m3, m4⟩ := ml_ok f2 f3 ⟨by omega, by omega⟩ ⟨by omega, by omega⟩ (g.v 1 (Nat.le_of_ble_eq_true rfl) (by omega)) (g.k 2 (Nat.le_of_ble_eq_true rfl) (by omega)) (g.k 3 (Nat.le_of_ble_eq_true rfl) (by omega)) (g.v 3 (Nat.le_of_ble_eq_true rfl) (by omega)) (g.k 4 (Nat.le_of_ble_eq_true rfl) (by omega)) (g.k 5 (Nat.le_of_ble_eq_true rfl) (by omega)) (g.k 6 (Nat.le_of_ble_eq_true rfl) (by omega)) (g.v 6 (Nat.le_of_ble_eq_true rfl) (by omega)) (g.k 7 (Nat.le_of_ble_eq_true rfl) (by omega)) (g.k 8 (Nat.le_of_ble_eq_true rfl) (by omega)) (g.k 9 (Nat.le_of_ble_eq_true rfl) (by omega)) (g.v 9 (Nat.le_of_ble_eq_true rfl) (by omega)) (g.k 10 (Nat.le_of_ble_eq_true rfl) (by omega))
  have km : KC zf (zf 51 6) = 5 := by rw [f2.1.1]; exact g.k 0 (Nat.le_of_ble_eq_true rfl) (by omega)
  have im : rpI zf = (true, zm) := by
    unfold rpI
    rw [km]
    exact (if_neg (by decide)).trans ((if_neg (by decide)).trans ((if_pos rfl).trans m1))
  have sm1 : ∀ q : Nat, rpL (q + 1) true zf = rpL q true zm := fun q => rpL_go (by rw [km]; decide) im
  have Am : At zm (bf + 11) (tkL (flat (Rs.map ruleL)) ++ [(25, 0)]) := m4.at f4.r
  obtain ⟨zr, br, r1, r2, r3, r4, r5, r6⟩ := rp_rules ⟨hD2, hD6⟩ Rs 0 (1499 - 2 * D - Rs.length) zm (bf + 11) _ (by omega) hR m2 m3 Am
  have ke : KC zr (zr 51 6) = 25 := by rw [r2.1.1]; exact r3.k 0 (Nat.le_of_ble_eq_true rfl) (by omega)
  have eR : rpL 1500 true (rp0 (cmB σ)) = (true, zr) := by
    rw [f1, show 1500 - 2 * D = 1499 - 2 * D - Rs.length + Rs.length + 1 from by omega, sm1, r1]
    exact rpL_end ke _
  obtain ⟨⟨e1, e2, e3⟩, -, e4, e5, e6, e7, e8, e9⟩ := r2
  have eM : rpM (cmB σ) = zr := by
    unfold rpM
    rw [eR]
    unfold rpE
    refine if_neg ?_
    rintro ⟨-, z | z⟩
    · have z : i32 (zr 12 2) = 0 := z
      rw [e5, i32_n _ (by omega)] at z; omega
    · have z : i32 (zr 14 2) = 0 := z
      rw [e6, i32_n _ (by omega)] at z; omega
  have ev : cmV σ = 0 := by
    unfold cmV
    rw [ee, eM, e2]
    rfl
  have es : cmS σ = fdM (up zr 0 8 (SC zr (-1))) := by
    unfold cmS cmD
    rw [ee, eM, e2, e3]
    rfl
  have esc : SC zr (-1) = -1 := by
    unfold SC
    rw [if_neg (fun z => absurd z.1 (by decide))]
  have q : ∀ k, k ≠ 22 ∧ k ≠ 33 ∧ k ≠ 50 ∧ k ≠ 0 → cmS σ k = zr k := fun k hk => by rw [es, fd2_19 _ ⟨hk.1, hk.2.1, hk.2.2.1⟩, up_r _ _ _ hk.2.2.2]
  have q0 : ∀ j, cmS σ 0 j = up zr 0 8 (-1) 0 j := fun j => by rw [es, fd2_19 _ (by decide), esc]
  have z0 : zr 0 = cmB σ 0 := by
    rw [r6 0 (by decide), m4 0 (by decide), f5 0 (by decide)]
    unfold rp0
    rw [up_r _ _ _ (by decide), up_r _ _ _ (by decide), up_r _ _ _ (by decide)]
  refine ⟨ev, ?_, ?_, ?_, fun i hi => ?_, ?_, ?_⟩
  · rw [q 12 (by decide)]; exact e5
  · rw [q 9 (by decide)]; exact e8
  · rw [q 18 (by decide), e9]; omega
  · rw [q 19 (by decide)]
    have := r5 i hi
    rwa [Nat.zero_add] at this
  · rw [q0, up_s]
  · rw [q0, up_j _ _ (by decide), z0]
    unfold cmB eipS
    rw [up_j _ _ (by decide), stF_r _ _ (by decide)]
    exact A09
end S98
