/-! the meaning, side by side: dishes -/
section S66
variable {σ τ p Y : Sg} {e : Int} {K V N S : Int → Int}
def PlU (e : Int) (K V N S : Int → Int) (d : Nat) (b : Int) (p Y : Sg) (x : Int × Bool × Sg) (y : Int × Sg) : Prop :=
  (∀ k, k ≠ 51 ∧ k ≠ 34 + d → x.2.2 k = p k) ∧
  ((x.2.1 = true ∧ y.1 = 0 ∧ x.2.2 51 6 = b ∧ x.2.2 51 7 = p 51 7 ∧ x.2.2 51 8 = p 51 8 ∧ y.2 84 4 = Y 84 4 ∧ PtR x.2.2 y.2 d ∧ x.1 = y.2 98 d ∧ DI e K V N S y.2 ∧ DG y.2 ∧ y.2 84 8 = b ∧ y.2 84 15 = Y 84 15 ∧ (∀ k, k ≠ 84 ∧ (k < 95 ∨ 99 < k) → y.2 k = Y k) ∧ (∀ j, j ≠ 4 ∧ j ≠ 8 → y.2 84 j = Y 84 j)) ∨ (x.2.1 = false ∧ (1 ≤ y.1 ∧ y.1 ≤ 6) ∧ x.2.2 51 7 = y.1 ∧ (0 ≤ x.2.2 51 8 ∧ x.2.2 51 8 ≤ e) ∧ y.2 84 4 = S (x.2.2 51 8)))
theorem tpL_false (d : Int) (n : Nat) (c : Int) (z : Sg) : tpL d n c false z = (c, false, z) := by
  cases n with
  | zero => rfl
  | succ n => exact if_neg (fun w => ff w.1)
theorem pl_ok {d : Nat} {b : Int} (hd16 : d < 16) (hbe : b ≤ e) (hb18 : K b ≠ 18) : ∀ (m n n2 : Nat) (p Y : Sg) (c : Int), m + 1 < n → m < n2 → DI e K V N S Y → DG Y → (d : Int) = Y 84 15 → TC p e K V N S → PtR p Y d → p 51 6 = c → Y 84 8 = c → 0 ≤ c → (K c = 18 ∨ K c = 19) → LsC K (PtO K) m (c + 1) b → PlU e K V N S d b p Y (tpL d n (Y 98 d) true p) (dpL K V N S n2 Y) := by
  intro m
  induction m with
  | zero =>
    intro n n2 p Y c hn hn2 hI hG hd hT hP h6 h8 h0 hc hg
    obtain ⟨n, rfl⟩ : ∃ q, n = q + 1 + 1 := ⟨n - 2, by omega⟩
    obtain ⟨n2, rfl⟩ : ∃ q, n2 = q + 1 := ⟨n2 - 1, by omega⟩
    obtain ⟨g1, g2⟩ := hg
    have hci : c ≤ e := by rcases hc with z | z <;> (have := hI.1.in z (by decide); omega)
    have hkc : KC p (p 51 6) = K c := by rw [h6]; exact (hT.2 c h0 hci).1
    have ex : tpL d (n + 1 + 1) (Y 98 d) true p = tpL d (n + 1) (Y 98 d + 1) (tpM (nxM p) d (Y 98 d)).1 (tpM (nxM p) d (Y 98 d)).2 := by
      show (if true = true ∧ (KC p (p 51 6) = 18 ∨ KC p (p 51 6) = 19) then _ else _) = _
      rw [hkc, if_pos ⟨rfl, hc⟩]
    have hu := pt_ok hI hd hT hP h6 h8 h0 g1 hbe
    rw [ex]
    have hg1 : PtO K (incS 8 Y 84 8) b := by rw [incS_s, h8]; exact g1
    simp only [dpL]
    obtain ⟨u1, u2⟩ := hu
    rcases u2 with ⟨b1, b2, b3, b4, b5, b6, b7⟩ | ⟨b1, b2, b3, b4, b5⟩
    · obtain ⟨p1, p2⟩ := ptM_at hI.i8.2.1 hg1 b2
      rw [if_pos b2, if_neg (by rw [p1]; exact g2), b1]
      have hD2 := hI.i8.pt hg1 b2
      have hG2 := DG.pt hI.i8 hG hg1 b2
      have hC := hI.i8.2.1
      generalize (tpM (nxM p) d (Y 98 d)).2 = X at u1 b3 b4 b5 b7 ⊢
      have hTX : TC X e K V N S := hT.fr (u1 3 (by omega)) (u1 5 (by omega)) (u1 6 (by omega)) (u1 7 (by omega))
      have hkb : KC X (X 51 6) = K b := by rw [b3]; exact (hTX.2 b (by rw [← h8] at h0; rcases g1 with ⟨_, ⟨_, _, z⟩ | ⟨_, z⟩⟩ <;> omega) hbe).1
      have ez : tpL d (n + 1) (Y 98 d + 1) true X = (Y 98 d + 1, true, X) := by
        show (if true = true ∧ (KC X (X 51 6) = 18 ∨ KC X (X 51 6) = 19) then _ else _) = _
        rw [hkb, if_neg (fun w => w.2.elim hb18 g2)]
      rw [ez]
      have e15 : incS 8 Y 84 15 = Y 84 15 := incS_j _ (by decide)
      rw [e15, show (Y 84 15).toNat = d from by omega, incS_k _ (by decide)] at p2
      exact ⟨u1, Or.inl ⟨rfl, rfl, b3, b4, b5, b6, b7, p2.symm, hD2, hG2, p1, (ptM_j hC (by decide)).trans e15, fun k hk => (ptM_k hC hk).trans (incS_r _ hk.1), fun j hj => (ptM_j hC hj).trans (incS_j _ hj.2)⟩⟩
    · rw [if_neg (by omega), b1, tpL_false]
      exact ⟨u1, Or.inr ⟨rfl, b2, b3, b4, b5⟩⟩
  | succ m ih =>
    intro n n2 p Y c hn hn2 hI hG hd hT hP h6 h8 h0 hc hg
    obtain ⟨n, rfl⟩ : ∃ q, n = q + 1 := ⟨n - 1, by omega⟩
    obtain ⟨n2, rfl⟩ : ∃ q, n2 = q + 1 := ⟨n2 - 1, by omega⟩
    obtain ⟨c1, g1, g2, g3⟩ := hg
    have hci : c ≤ e := by rcases hc with z | z <;> (have := hI.1.in z (by decide); omega)
    have hc1 := hI.1.in g2 (by decide)
    have hkc : KC p (p 51 6) = K c := by rw [h6]; exact (hT.2 c h0 hci).1
    have ex : tpL d (n + 1) (Y 98 d) true p = tpL d n (Y 98 d + 1) (tpM (nxM p) d (Y 98 d)).1 (tpM (nxM p) d (Y 98 d)).2 := by
      show (if true = true ∧ (KC p (p 51 6) = 18 ∨ KC p (p 51 6) = 19) then _ else _) = _
      rw [hkc, if_pos ⟨rfl, hc⟩]
    have hu := pt_ok hI hd hT hP h6 h8 h0 g1 (by omega)
    rw [ex]
    have hg1 : PtO K (incS 8 Y 84 8) c1 := by rw [incS_s, h8]; exact g1
    simp only [dpL]
    obtain ⟨u1, u2⟩ := hu
    rcases u2 with ⟨b1, b2, b3, b4, b5, b6, b7⟩ | ⟨b1, b2, b3, b4, b5⟩
    · obtain ⟨p1, p2⟩ := ptM_at hI.i8.2.1 hg1 b2
      rw [if_pos b2, if_pos (by rw [p1]; exact g2), b1]
      have hD2 := hI.i8.pt hg1 b2
      have hG2 := DG.pt hI.i8 hG hg1 b2
      have hC := hI.i8.2.1
      have e15 : incS 8 Y 84 15 = Y 84 15 := incS_j _ (by decide)
      have q15 : (ptM K V N S (incS 8 Y)).2 84 15 = Y 84 15 := (ptM_j hC (by decide)).trans e15
      have qk : ∀ k, k ≠ 84 ∧ (k < 95 ∨ 99 < k) → (ptM K V N S (incS 8 Y)).2 k = Y k := fun k hk => (ptM_k hC hk).trans (incS_r _ hk.1)
      have qj : ∀ j, j ≠ 4 ∧ j ≠ 8 → (ptM K V N S (incS 8 Y)).2 84 j = Y 84 j := fun j hj => (ptM_j hC hj).trans (incS_j _ hj.2)
      rw [e15, show (Y 84 15).toNat = d from by omega, incS_k _ (by decide)] at p2
      generalize (tpM (nxM p) d (Y 98 d)).2 = X at u1 b3 b4 b5 b7 ⊢
      generalize (ptM K V N S (incS 8 Y)).2 = Z at hD2 hG2 p1 p2 q15 qk qj b6 b7 ⊢
      have hTX : TC X e K V N S := hT.fr (u1 3 (by omega)) (u1 5 (by omega)) (u1 6 (by omega)) (u1 7 (by omega))
      have r := ih n n2 X Z c1 (by omega) (by omega) hD2 hG2 (by rw [q15]; exact hd) hTX b7 b3 p1 hc1.1 (Or.inr g2) g3
      rw [p2] at r
      obtain ⟨r1, r2⟩ := r
      refine ⟨fun k hk => (r1 k hk).trans (u1 k hk), ?_⟩
      rcases r2 with ⟨s1, s2, s3, s4, s5, s6, s7, s8, s9, s10, s11, s12, s13, s14⟩ | s
      · exact Or.inl ⟨s1, s2, s3, s4.trans b4, s5.trans b5, s6.trans b6, s7, s8, s9, s10, s11, s12.trans q15, fun k hk => (s13 k hk).trans (qk k hk), fun j hj => (s14 j hj).trans (qj j hj)⟩
      · exact Or.inr s
    · rw [if_neg (by omega), b1, tpL_false]
      exact ⟨u1, Or.inr ⟨rfl, b2, b3, b4, b5⟩⟩
/-- a dish behind its parts -/
theorem ds_tl {d : Nat} {nm c b : Int} (hI : DI e K V N S Y) (hG : DG Y) (hd : (d : Int) = Y 84 15) (hT : TC p e K V N S) (hP : PtR p Y d) (h30 : p 30 d = Y 98 d) (h94 : 1 ≤ Y 94 d ∧ Y 94 d ≤ 20) (hv : fnC Y 93 (Y 84 15) (V nm) = -1) (hnm : 0 ≤ nm ∧ nm ≤ e) (knm : K nm = 22) (h6 : p 51 6 = c) (h8 : Y 84 8 = c) (h0 : 0 ≤ c) (hg : TgO K c b) (hb : K b = 17) :
    OU e S b p Y (if (tgL 1500 p).1 = true then (if tmuchM (tgL 1500 p).2 d = true then (false, flM (tgL 1500 p).2 5 nm) else (true, nxM (addC (tdM (tgL 1500 p).2 d) 12 (VC (tdM (tgL 1500 p).2 d) nm)))) else (false, (tgL 1500 p).2)) (dsE K V S d nm Y) := by
  have hbi := hI.1.in hb (by decide)
  have hdn : (Y 84 15).toNat = d := by omega
  have edn : ((d : Int)).toNat = d := by omega
  obtain ⟨hTk, hC, hD, hd16, hp0, hp8⟩ := id hI
  obtain ⟨y1, y2, y3⟩ := id hG
  rw [hdn] at hp0 hp8 y1 y2 y3
  obtain ⟨hR, r26, r11, r12, ⟨r10, r97, r97i⟩, rg, rz⟩ := id hP
  obtain ⟨a1, a2, a3, a4, a5, a6, a7, a8, a9, a10⟩ := id hR
  have h10 : p 51 10 = ior (p 51 10) 0 := (ior_r0 _ (by rw [r10]; exact r97i)).symm
  have hu := tg_ok (base := p 51 10) (n := 1500) (by omega) hTk hT a4 hb hg h6 h8 h0 h10
  have yk : ∀ k j, k ≠ 110 ∧ (k ≠ 84 ∨ (j ≠ 8 ∧ j ≠ 36)) → (thC K V Y).2 k j = Y k j := fun k j h => thC_keep h Y
  generalize tgL 1500 p = q at hu ⊢
  obtain ⟨u1, u2, u3⟩ := hu
  have qf : FrM p q.2 := fun k hk => u1 k (by omega)
  have hTq := qf.tc hT
  unfold dsE
  rcases u3 with ⟨b1, b2, b3, b4, b5, b6, b7⟩ | ⟨b1, b2, b3, b4, b5, b6⟩
  · rw [if_pos b1, if_neg (show ¬ (thC K V Y).1 = -1 by omega)]
    have z11 : q.2 51 11 = Y 95 d := (u2 11 (by decide)).trans r11
    have z12 : q.2 51 12 = Y 96 d := (u2 12 (by decide)).trans r12
    have zg : ∀ f : Nat, f < 16 → q.2 (34 + d) f = Y 99 (16 * d + f) := fun f hf => by rw [u1 (34 + d) (by omega)]; exact rg f hf
    have b95 : i64 (Y 95 d) = Y 95 d := i64_eq ⟨by omega, by omega⟩
    have b96 : i64 (Y 96 d) = Y 96 d := i64_eq ⟨by omega, by omega⟩
    have esum : fW 16 (fun i s => s + i32 (q.2 (34 + d) i.toNat)) 16 0 0 = dsS d (dsT K V d Y) := by
      unfold dsS
      rw [fW_sm0 (sz := 16) (h := fun i => i32 (q.2 (34 + d) i.toNat)) (n := 16) (a := 0) (fun i a _ _ => rfl) (by decide) (by decide)]
      rw [fW_sm0 (sz := 16) (g := dsG (dsT K V d Y) d) (h := fun i => dsT K V d Y 99 (16 * (d : Int) + i).toNat) (n := 16) (a := 0) (fun i a _ _ => rfl) (by decide) (by decide)]
      refine congrArg (fun s => 0 + s) (sm_ext _ (fun j j0 j1 => ?_))
      have hj16 : j.toNat < 16 := by
        have : j < 16 := j1
        omega
      have hb3 := y3 j.toNat hj16
      rw [zg j.toNat hj16, dsT_k (by decide), yk 99 _ (by omega), show (16 * (d : Int) + j).toNat = 16 * d + j.toNat from by omega]
      exact i32_eq ⟨by omega, by omega⟩
    have emuch : tmuchM q.2 d = decide (100000 < i64 (dsS d (dsT K V d Y)) ∨ 1000000 < i64 (Y 95 d) ∨ 1000000 < i64 (Y 96 d)) := by
      unfold tmuchM
      rw [edn, esum, z11, z12]
    rw [emuch, edn]
    by_cases c6 : 100000 < i64 (dsS d (dsT K V d Y)) ∨ 1000000 < i64 (Y 95 d) ∨ 1000000 < i64 (Y 96 d)
    · rw [if_pos (decide_eq_true c6), if_pos c6]
      exact OU.no qf rfl (by decide) hnm rfl (by dsimp only; rw [up_s])
    · rw [if_neg (fun w => c6 (of_decide_eq_true w)), if_neg c6]
      have z26 : q.2 26 d = Y 94 d := (congrFun (u1 26 (by decide)) d).trans r26
      have etd : tdM q.2 d = up (up (up q.2 27 d ((Y 95 d).tdiv (Y 94 d))) 28 d ((Y 96 d).tdiv (Y 94 d))) 29 d (ior (p 51 10) (thC K V Y).1) := by
        unfold tdM
        rw [edn, z26, i32_n (Y 94 d) (by omega), if_pos (by omega), z11, z12, b95, b96, b4]
      have hTd : TC (tdM q.2 d) e K V N S := by rw [etd]; exact (((FrM.rf.u (by decide)).u (by decide)).u (by decide)).tc hTq
      have ev : VC (tdM q.2 d) nm = V nm := (hTd.2 nm hnm.1 hnm.2).2.1 knm
      rw [ev, etd, r10]
      generalize hZ : (thC K V Y).2 = Z at b7 yk
      generalize hset : (thC K V Y).1 = set at b2 b4
      have eT : dsT K V d Y = up Z 97 d (ior (Y 97 d) set) := by unfold dsT; rw [edn, hZ, hset]
      rw [eT]
      have w12 : up (up (up q.2 27 d ((Y 95 d).tdiv (Y 94 d))) 28 d ((Y 96 d).tdiv (Y 94 d))) 29 d (ior (Y 97 d) set) 12 2 = d := by
        rw [up_k _ _ (by decide), up_k _ _ (by decide), up_k _ _ (by decide), u1 12 (by decide), a2.1, hd]
      rw [addC_e w12 ⟨by omega, by omega⟩, edn]
      generalize hX : nxM (up (up (up (up (up q.2 27 d ((Y 95 d).tdiv (Y 94 d))) 28 d ((Y 96 d).tdiv (Y 94 d))) 29 d (ior (Y 97 d) set)) 13 d (V nm)) 12 2 ((d : Int) + 1)) = X
      generalize hW : incS 15 (up (up Z 97 d (ior (Y 97 d) set)) 93 d (V nm)) = W
      have Xk : ∀ k, k ≠ 12 ∧ k ≠ 13 ∧ k ≠ 16 ∧ k ≠ 17 ∧ k ≠ 27 ∧ k ≠ 28 ∧ k ≠ 29 ∧ k ≠ 51 → X k = p k := fun k hk => by
        rw [← hX, nxM_r _ (by omega), up_r _ _ _ (by omega), up_r _ _ _ (by omega), up_r _ _ _ (by omega), up_r _ _ _ (by omega), up_r _ _ _ (by omega), u1 k (by omega)]
      have Xt : ∀ k, k = 16 ∨ k = 17 → X k = q.2 k := fun k hk => by rw [← hX, nxM_r _ (by omega), up_r _ _ _ (by omega), up_r _ _ _ (by omega), up_r _ _ _ (by omega), up_r _ _ _ (by omega), up_r _ _ _ (by omega)]
      have X51 : ∀ j, j ≠ 6 → X 51 j = q.2 51 j := fun j hj => by rw [← hX, nxM_j _ (Or.inr hj), up_k _ _ (by decide), up_k _ _ (by decide), up_k _ _ (by decide), up_k _ _ (by decide), up_k _ _ (by decide)]
      have X516 : X 51 6 = b + 1 := by rw [← hX, nxM_6, up_k _ _ (by decide), up_k _ _ (by decide), up_k _ _ (by decide), up_k _ _ (by decide), up_k _ _ (by decide), b3]
      have X122 : X 12 2 = (d : Int) + 1 := by rw [← hX, nxM_j _ (Or.inl (by decide)), up_s]
      have X121 : X 12 1 = p 12 1 := by rw [← hX, nxM_j _ (Or.inl (by decide)), up_j _ _ (by decide), up_k _ _ (by decide), up_k _ _ (by decide), up_k _ _ (by decide), up_k _ _ (by decide), u1 12 (by decide)]
      have X13 : ∀ j : Nat, X 13 j = if j = d then V nm else p 13 j := fun j => by
        rw [← hX, nxM_j _ (Or.inl (by decide)), up_k _ _ (by decide), up_at, up_k _ _ (by decide), up_k _ _ (by decide), up_k _ _ (by decide), u1 13 (by decide)]
      have X27 : ∀ j : Nat, X 27 j = if j = d then (Y 95 d).tdiv (Y 94 d) else p 27 j := fun j => by
        rw [← hX, nxM_j _ (Or.inl (by decide)), up_k _ _ (by decide), up_k _ _ (by decide), up_k _ _ (by decide), up_k _ _ (by decide), up_at, u1 27 (by decide)]
      have X28 : ∀ j : Nat, X 28 j = if j = d then (Y 96 d).tdiv (Y 94 d) else p 28 j := fun j => by
        rw [← hX, nxM_j _ (Or.inl (by decide)), up_k _ _ (by decide), up_k _ _ (by decide), up_k _ _ (by decide), up_at, up_k _ _ (by decide), u1 28 (by decide)]
      have X29 : ∀ j : Nat, X 29 j = if j = d then ior (Y 97 d) set else p 29 j := fun j => by
        rw [← hX, nxM_j _ (Or.inl (by decide)), up_k _ _ (by decide), up_k _ _ (by decide), up_at, up_k _ _ (by decide), up_k _ _ (by decide), u1 29 (by decide)]
      have Wk : ∀ k j, k ≠ 84 ∧ k ≠ 93 ∧ k ≠ 97 → W k j = Z k j := fun k j hk => by rw [← hW, incS_k _ hk.1, up_k _ _ hk.2.1, up_k _ _ hk.2.2]
      have W84 : ∀ j, j ≠ 15 → W 84 j = Z 84 j := fun j hj => by rw [← hW, incS_j _ hj, up_k _ _ (by decide), up_k _ _ (by decide)]
      have W15 : W 84 15 = (d : Int) + 1 := by rw [← hW, incS_s, up_k _ _ (by decide), up_k _ _ (by decide), yk 84 15 (by decide), hd]
      have W93 : ∀ j : Nat, W 93 j = if j = d then V nm else Y 93 j := fun j => by
        rw [← hW, incS_k _ (by decide), up_at, up_k _ _ (by decide), yk 93 j (by omega)]
      have W97 : ∀ j : Nat, W 97 j = if j = d then ior (Y 97 d) set else Y 97 j := fun j => by
        rw [← hW, incS_k _ (by decide), up_k _ _ (by decide), up_at, yk 97 j (by omega)]
      have Wr : ∀ k j, 84 < k ∧ k ≠ 110 ∧ k ≠ 93 ∧ k ≠ 97 → W k j = Y k j := fun k j hk => by rw [Wk k j (by omega), yk k j (by omega)]
      have XF : FrM p X := fun k hk => Xk k (by omega)
      have z10 : Z 84 10 = Y 84 10 := yk 84 10 (by decide)
      have z23 : Z 84 23 = Y 84 23 := yk 84 23 (by decide)
      have z25 : Z 84 25 = Y 84 25 := yk 84 25 (by decide)
      have z30 : Z 84 30 = Y 84 30 := yk 84 30 (by decide)
      have z4 : Z 84 4 = Y 84 4 := yk 84 4 (by decide)
      refine ⟨XF, Or.inl ⟨rfl, rfl, X516, ?_, ?_, ?_, ?_⟩⟩
      · dsimp only; rw [X51 7 (by decide), b5]
      · dsimp only; rw [X51 8 (by decide), b6]
      · dsimp only; rw [W84 4 (by decide), z4]
      · dsimp only
        unfold RR TgR
        rw [W15, W84 10 (by decide), W84 23 (by decide), W84 36 (by decide), W84 30 (by decide), W84 25 (by decide), z10, z23, z30, z25]
        rw [← hd] at a2 hv
        refine ⟨a1.fr ?_ ?_ (fun j _ => ?_) (fun j _ => Wr 89 j (by decide)), a2.add (by omega) hv X121 X122 (fun j hj => ?_) (fun j hj => ?_) ?_ ?_, a3.fr ?_ ?_ (fun j _ => ?_) (fun j _ => Wr 100 j (by decide)), b7.fr ?_ ?_ (fun j _ => ?_) (fun j _ => Wk 110 j (by decide)), ⟨?_, ?_⟩, fun j hj => ?_, fun j hj => ?_, fun j hj => ?_, fun j hj => ?_, fun j f hj hf hg2 => ?_⟩
        · rw [Xk 10 (by decide)]
        · rw [Xk 10 (by decide)]
        · rw [Xk 11 (by decide)]
        · rw [X13, if_neg (by omega)]
        · rw [W93, if_neg (by omega)]
        · rw [edn, X13, if_pos rfl]
        · rw [edn, W93, if_pos rfl]
        · rw [Xk 14 (by decide)]
        · rw [Xk 14 (by decide)]
        · rw [Xk 15 (by decide)]
        · rw [Xt 16 (by decide)]
        · rw [Xt 16 (by decide)]
        · rw [Xt 17 (by decide)]
        · rw [Xk 18 (by decide)]; exact a5.1
        · rw [Xk 9 (by decide)]; exact a5.2
        · exact (a6 j hj).fr (fun k hk => by rw [Xk k (by omega)]) (fun k hk => Wr k j (by omega))
        · by_cases c : j = d
          · subst c
            unfold DsR
            rw [Xk 26 (by decide), X27, X28, X29, Xk 30 (by decide), if_pos rfl, if_pos rfl, if_pos rfl, Wr 94 _ (by decide), W97, if_pos rfl, Wr 98 _ (by decide), enR_at (Wr 95 j (by decide)) (Wr 94 j (by decide)), pcR_at (Wr 96 j (by decide)) (Wr 94 j (by decide)), Xk (34 + j) (by omega)]
            exact ⟨⟨r26, rfl, rfl, rfl, h30, ior_nn r97i b2.2 r97 b2.1, ior_inr _ _⟩, fun f hf => by rw [Wr 99 _ (by decide)]; exact rg f hf⟩
          · have hjd : j < d := by omega
            refine (a7 j (by omega)).fr (fun k hk => ?_) (Xk _ (by omega)) (fun k hk => ?_) (fun f _ => Wr 99 _ (by decide))
            · by_cases k27 : k = 27
              · subst k27; rw [X27, if_neg c]
              · by_cases k28 : k = 28
                · subst k28; rw [X28, if_neg c]
                · by_cases k29 : k = 29
                  · subst k29; rw [X29, if_neg c]
                  · rw [Xk k (by omega)]
            · by_cases k97 : k = 97
              · subst k97; rw [W97, if_neg c]
              · exact Wr k j (by omega)
        · exact (a8 j hj).fr (fun k hk => by rw [Xk k (by omega)]) (fun k hk => Wr k j (by omega)) (by rw [W15]; omega)
        · exact (a9 j hj).fr (fun k hk => by rw [Xk k (by omega)]) (fun k hk => Wr k j (by omega))
        · rw [Wr 99 _ (by decide)]
          by_cases c : j = d
          · rw [c]; exact rz f hf hg2
          · exact a10 j f (by omega) hf hg2
  · rw [if_neg (by rw [b1]; decide), if_pos b2]
    refine ⟨qf, Or.inr ⟨rfl, by dsimp only; omega, b3, by dsimp only; rw [b4]; exact ⟨b5, b6⟩, ?_⟩⟩
    dsimp only
    rw [up_s, b4]
/-- a row set to nothing -/
theorem zr_ok {d : Nat} : ∀ (m : Nat) (i : Int) (a : Sg), 0 ≤ i → i + m = 16 → (∀ f : Nat, (f : Int) < i → a (34 + d) f = 0) → (∀ k, k ≠ 34 + d → fW 16 (fun i a => up a (34 + d) i.toNat 0) m i a k = a k) ∧ ∀ f : Nat, f < 16 → fW 16 (fun i a => up a (34 + d) i.toNat 0) m i a (34 + d) f = 0 := by
  intro m
  induction m with
  | zero => intro i a h0 hi h; exact ⟨fun _ _ => rfl, fun f hf => h f (by omega)⟩
  | succ m ih =>
    intro i a h0 hi h
    rw [fW_s, if_pos (by omega)]
    obtain ⟨r1, r2⟩ := ih (i + 1) (up a (34 + d) i.toNat 0) (by omega) (by omega) (fun f hf => by
      by_cases c : f = i.toNat
      · rw [c, up_s]
      · rw [up_j _ _ c]; exact h f (by omega))
    exact ⟨fun k hk => (r1 k hk).trans (up_r _ _ _ hk), r2⟩
theorem ds_ok {a b : Int} (hI : IV e K V N S τ) (hT : TC σ e K V N S) (hR : RR σ τ) (h0 : 0 ≤ a) (hg : DsO K (a + 1) b) (h6 : σ 51 6 = a) (h8 : τ 84 8 = a + 1) : OU e S b σ τ (rdM σ) (dsM K V N S a τ) := by
  obtain ⟨g1, g2, g3, g4, m, c, g5, g7, gb⟩ := hg
  obtain ⟨hTk, hC, hD, hCI⟩ := id hI
  have hbi := hTk.in gb (by decide)
  have i1 := hTk.in g1 (by decide)
  have i3 := hTk.in g3 (by decide)
  have i4 := hTk.in g4 (by decide)
  have hml := LsC_le hTk m _ g5
  have hce := LsC_end hTk m _ g5
  have hci := hTk.in hce (by decide)
  have he := hTk.e
  obtain ⟨a1, a2, a3, a4, a5, a6, a7, a8, a9, a10⟩ := id hR
  have hn := a2.2.1
  have e12 : i32 (σ 12 2) = τ 84 15 := by rw [a2.1]; exact i32_n _ (by omega)
  unfold rdM dsM
  rw [e12, a2.full, h8, h6]
  by_cases c1 : τ 84 15 = 16
  · rw [if_pos (Or.inl (decide_eq_true (by omega))), if_pos c1]
    exact OU.no FrM.rf rfl (by decide) ⟨h0, by omega⟩ rfl (by dsimp only; rw [up_s])
  · rw [if_neg (fun z => by
      rcases z with z | z | z
      · have := of_decide_eq_true z; omega
      · omega
      · omega), if_neg c1]
    have e1 : rd1M σ = if tknR τ (V (a + 1)) = true then (false, flM (nxM σ) 3 (a + 1)) else (true, nxM (nxM σ)) := by
      unfold rd1M
      exact nn_e hT.nx (a1.fr (nxM_j σ (Or.inl (by decide))) (nxM_j σ (Or.inl (by decide))) (fun j _ => nxM_j σ (Or.inl (by decide))) (fun _ _ => rfl)) (a2.fr (nxM_j σ (Or.inl (by decide))) (nxM_j σ (Or.inl (by decide))) (fun j _ => nxM_j σ (Or.inl (by decide))) (fun _ _ => rfl)) (a3.fr (nxM_j σ (Or.inl (by decide))) (nxM_j σ (Or.inl (by decide))) (fun j _ => nxM_j σ (Or.inl (by decide))) (fun _ _ => rfl)) ⟨by omega, by omega⟩ g1 (by rw [nxM_6, h6])
    by_cases c2 : tknR τ (V (a + 1)) = true
    · rw [if_pos c2] at e1
      rw [if_pos c2, e1, if_neg (by first | exact fun z => ff z | decide)]
      exact OU.no FrM.rf.nx rfl (by decide) ⟨by omega, by omega⟩ rfl (by dsimp only; rw [up_s])
    · rw [if_neg c2] at e1
      have hv := (tkn_no c2).2.1
      have e2 : rd2M σ = if 1 ≤ N (a + 1 + 2) ∧ N (a + 1 + 2) ≤ 20 then (true, nxM (up (nxM (nxM (nxM σ))) 51 9 (N (a + 1 + 2)))) else (false, flM (nxM (nxM (nxM σ))) 5 (a + 1 + 2)) := by
        unfold rd2M
        rw [e1]
        exact tn_e hT.nx.nx.nx ⟨by omega, by omega⟩ g3 (by rw [nxM_6, nxM_6, nxM_6, h6]; omega) (by decide) (by decide)
      rw [if_neg c2, e1, if_pos rfl]
      by_cases c3 : 1 ≤ N (a + 1 + 2) ∧ N (a + 1 + 2) ≤ 20
      · rw [if_pos c3] at e2
        rw [if_pos c3, e2, if_pos rfl]
        obtain ⟨d, hd⟩ : ∃ d : Nat, (d : Int) = τ 84 15 := ⟨(τ 84 15).toNat, by omega⟩
        have hdn : (τ 84 15).toNat = d := by omega
        have edn : ((d : Int)).toNat = d := by omega
        have hd16 : d < 16 := by omega
        have Z3 : TC (nxM (nxM (nxM σ))) e K V N S := hT.nx.nx.nx
        generalize hw : nxM (nxM (nxM σ)) = w at e2 Z3
        have wk : ∀ k, k ≠ 51 → w k = σ k := fun k hk => by rw [← hw, nxM_r _ hk, nxM_r _ hk, nxM_r _ hk]
        have w51 : ∀ j, j ≠ 6 → w 51 j = σ 51 j := fun j hj => by rw [← hw, nxM_j _ (Or.inr hj), nxM_j _ (Or.inr hj), nxM_j _ (Or.inr hj)]
        have w6 : w 51 6 = a + 3 := by rw [← hw, nxM_6, nxM_6, nxM_6, h6]; omega
        -- the state ahead of the parts
        have e3 : rd3M σ = up (up (nxM (up w 51 9 (N (a + 1 + 2)))) 26 d (N (a + 1 + 2))) 51 10 0 := by
          unfold rd3M
          rw [e2, e12, hdn]
          dsimp only
          rw [nxM_j _ (Or.inr (by decide)), up_s]
        generalize hp0 : tq0M (rd3M σ) (τ 84 15) = p0
        have e4 : rd4M σ = tqE (τ 84 15) (tpL (τ 84 15) 1500 0 true p0) := by unfold rd4M tqM; rw [e12, hp0]
        have hz := zr_ok (d := d) 16 0 (up (up (rd3M σ) 51 11 0) 51 12 0) (Int.le_refl _) (by omega) (fun f hf => by omega)
        have ep0 : p0 = fW 16 (fun i a => up a (34 + d) i.toNat 0) 16 0 (up (up (rd3M σ) 51 11 0) 51 12 0) := by rw [← hp0, ← hd]; rfl
        rw [← ep0] at hz
        obtain ⟨z1, z2⟩ := hz
        have p0k : ∀ k, k ≠ 51 ∧ k ≠ 26 ∧ k ≠ 34 + d → p0 k = σ k := fun k hk => by rw [z1 k hk.2.2, up_r _ _ _ hk.1, up_r _ _ _ hk.1, e3, up_r _ _ _ hk.1, up_r _ _ _ hk.2.1, nxM_r _ hk.1, up_r _ _ _ hk.1, wk k hk.1]
        have p026 : ∀ j, p0 26 j = if j = d then N (a + 1 + 2) else σ 26 j := fun j => by rw [z1 26 (by omega), up_k _ _ (by decide), up_k _ _ (by decide), e3, up_k _ _ (by decide), up_at, nxM_j _ (Or.inl (by decide)), up_k _ _ (by decide), wk 26 (by decide)]
        have p051 : ∀ j, j = 6 ∨ j = 7 ∨ j = 8 → p0 51 j = nxM (up w 51 9 (N (a + 1 + 2))) 51 j := fun j hj => by rw [z1 51 (by omega), up_j _ _ (by omega), up_j _ _ (by omega), e3, up_j _ _ (by omega), up_k _ _ (by decide)]
        have p06 : p0 51 6 = a + 4 := by rw [p051 6 (by decide), nxM_6, up_j _ _ (by decide), w6]; omega
        have p07 : ∀ j, j = 7 ∨ j = 8 → p0 51 j = σ 51 j := fun j hj => by rw [p051 j (by omega), nxM_j _ (Or.inr (by omega)), up_j _ _ (by omega), w51 j (by omega)]
        have p010 : p0 51 10 = 0 ∧ p0 51 11 = 0 ∧ p0 51 12 = 0 := by
          refine ⟨?_, ?_, ?_⟩
          · rw [z1 51 (by omega), up_j _ _ (by decide), up_j _ _ (by decide), e3, up_s]
          · rw [z1 51 (by omega), up_j _ _ (by decide), up_s]
          · rw [z1 51 (by omega), up_s]
        have p0F : FrM σ p0 := fun k hk => p0k k (by omega)
        have p0T := p0F.tc hT
        -- the reference's
        have hDI : DI e K V N S (dsZ (τ 84 15) (N (a + 1 + 2)) τ) := DI.z hTk hC hD (by omega)
        have hDG : DG (dsZ (τ 84 15) (N (a + 1 + 2)) τ) := DG.z hC
        obtain ⟨q95, q96, q97, q94⟩ := dsZ_95 (σ := τ) (d := τ 84 15) (n2 := N (a + 1 + 2))
        have q98 : dsZ (τ 84 15) (N (a + 1 + 2)) τ 98 (τ 84 15).toNat = 0 := dsZ_98
        have q99 : ∀ f : Nat, f < 16 → dsZ (τ 84 15) (N (a + 1 + 2)) τ 99 (16 * d + f) = 0 := fun f hf => by
          rw [show 16 * d + f = (16 * τ 84 15 + (f : Int)).toNat from by omega]; exact dsZ_g hn.1 hf
        have q8 : dsZ (τ 84 15) (N (a + 1 + 2)) τ 84 8 = a + 4 := by rw [dsZ_8, h8]; omega
        have qj : ∀ j, j ≠ 8 → dsZ (τ 84 15) (N (a + 1 + 2)) τ 84 j = τ 84 j := fun j hj => dsZ_j hj
        have qk : ∀ k, k ≠ 84 ∧ (k < 94 ∨ 99 < k) → dsZ (τ 84 15) (N (a + 1 + 2)) τ k = τ k := fun k hk => dsZ_k hk
        have qd : ∀ k j, 84 < k ∧ k < 99 → j ≠ d → dsZ (τ 84 15) (N (a + 1 + 2)) τ k j = τ k j := fun k j hk hj => dsZ_d hk (by omega)
        have q99b : ∀ j : Nat, (j : Int) < 16 * d → dsZ (τ 84 15) (N (a + 1 + 2)) τ 99 j = τ 99 j := fun j hj => dsZ_99 hn.1 (by omega)
        rw [hdn] at q95 q96 q97 q94 q98
        generalize dsZ (τ 84 15) (N (a + 1 + 2)) τ = Y0 at hDI hDG q95 q96 q97 q94 q98 q99 q8 qj qk qd q99b ⊢
        have hPt : PtR p0 Y0 d := by
          refine ⟨hR.fr2 hd (fun k hk => p0k k (by omega)) (fun k hk j hj => ?_) (fun j hj => qj j hj.2) (fun k hk => qk k (by omega)) (fun k hk j hj => qd k j (by omega) hj) q99b, ?_, ?_, ?_, ⟨?_, ?_, ?_⟩, fun f hf => ?_, fun f hf _ => q99 f hf⟩
          · by_cases ck : k = 26
            · subst ck; rw [p026, if_neg hj]
            · rw [p0k k (by omega)]
          · rw [p026, if_pos rfl, q94]
          · rw [p010.2.1, q95]
          · rw [p010.2.2, q96]
          · rw [p010.1, q97]
          · rw [q97]; exact Int.le_refl _
          · rw [q97]; exact inr_0
          · rw [q99 f hf]; exact z2 f hf
        have hpl := pl_ok (d := d) (b := c) hd16 (by omega) (by
          rcases g7 with ⟨z, zb⟩ | ⟨z, _⟩
          · rw [← zb, gb]; decide
          · rw [z]; decide) m 1500 1501 p0 Y0 (a + 4) (by omega) (by omega) hDI hDG (by rw [qj 15 (by decide)]; exact hd) p0T hPt p06 q8 (by omega) (Or.inl (by rw [show a + 4 = a + 1 + 3 from by omega]; exact g4)) (by rw [show a + 4 + 1 = a + 1 + 4 from by omega]; exact g5)
        rw [q98, hd] at hpl
        unfold dsP
        unfold rd5M
        rw [e4]
        generalize tpL (τ 84 15) 1500 0 true p0 = x at hpl ⊢
        generalize dpL K V N S 1501 Y0 = y at hpl ⊢
        obtain ⟨u1, u2⟩ := hpl
        unfold tqE
        dsimp only
        rw [hdn]
        have XF : FrM σ (up x.2.2 30 d x.1) := fun k hk => by rw [up_r _ _ _ (by omega), u1 k (by omega)]; exact p0F k hk
        rcases u2 with ⟨b1, b2, b3, b4, b5, b6, b7, b8, b9, b10, b11, b12, b13, b14⟩ | ⟨b1, b2, b3, b4, b5⟩
        · rw [if_pos b1, if_pos b2]
          have hPt2 : PtR (up x.2.2 30 d x.1) y.2 d := by
            obtain ⟨c1, c2, c3, c4, c5, c6, c7⟩ := b7
            exact ⟨c1.fr2 (by rw [b12, qj 15 (by decide)]; exact hd) (fun k hk => up_r _ _ _ (by omega)) (fun k hk j hj => by
              by_cases ck : k = 30
              · subst ck; exact up_j _ _ hj
              · exact up_k _ _ ck) (fun _ _ => rfl) (fun _ _ => rfl) (fun _ _ _ _ => rfl) (fun _ _ => rfl), by rw [up_k _ _ (by decide)]; exact c2, by rw [up_k _ _ (by decide)]; exact c3, by rw [up_k _ _ (by decide)]; exact c4, by rw [up_k _ _ (by decide)]; exact c5, fun f hf => by rw [up_k _ _ (by omega)]; exact c6 f hf, c7⟩
          have y15 : y.2 84 15 = τ 84 15 := by rw [b12, qj 15 (by decide)]
          have tl := ds_tl (p := up x.2.2 30 d x.1) (Y := y.2) (d := d) (nm := a + 1) (c := c) (b := b) b9 b10 (by rw [y15]; exact hd) (XF.tc hT) hPt2 (by rw [up_s, b8]) (by rw [b13 94 (by decide), q94]; exact c3) (by rw [y15, fnC_cg (by rw [b13 93 (by decide), qk 93 (by decide)])]; exact hv) ⟨by omega, by omega⟩ g1 (by rw [up_k _ _ (by decide), b3]) b11 (by omega) g7 gb
          rw [hd] at tl
          have er : (if (tgL 1500 (up x.2.2 30 d x.1)).1 = true then rdEM σ (tgL 1500 (up x.2.2 30 d x.1)).2 else (false, (tgL 1500 (up x.2.2 30 d x.1)).2)) = (if (tgL 1500 (up x.2.2 30 d x.1)).1 = true then (if tmuchM (tgL 1500 (up x.2.2 30 d x.1)).2 (τ 84 15) = true then (false, flM (tgL 1500 (up x.2.2 30 d x.1)).2 5 (a + 1)) else (true, nxM (addC (tdM (tgL 1500 (up x.2.2 30 d x.1)).2 (τ 84 15)) 12 (VC (tdM (tgL 1500 (up x.2.2 30 d x.1)).2 (τ 84 15)) (a + 1))))) else (false, (tgL 1500 (up x.2.2 30 d x.1)).2)) := by
            unfold rdEM
            rw [e12, h6]
          rw [er]
          exact tl.tr XF (by rw [up_k _ _ (by decide), b4, p07 7 (by decide)]) (by rw [up_k _ _ (by decide), b5, p07 8 (by decide)]) (by rw [b6, qj 4 (by decide)])
        · rw [if_neg (by rw [b1]; decide), if_neg (by omega)]
          refine ⟨XF, Or.inr ⟨rfl, b2, ?_, ?_, ?_⟩⟩
          · dsimp only; rw [up_k _ _ (by decide)]; exact b3
          · dsimp only; rw [up_k _ _ (by decide)]; exact b4
          · dsimp only; rw [up_k _ _ (by decide)]; exact b5
      · rw [if_neg c3] at e2
        rw [if_neg c3, e2, if_neg (by first | exact fun z => ff z | decide)]
        exact OU.no FrM.rf.nx.nx.nx rfl (by decide) ⟨by omega, by omega⟩ rfl (by dsimp only; rw [up_s])
end S66
