/-! the whole scan -/
section S61
variable {σ τ : Sg}
theorem byteC_fr {σ σ1 : Sg} (h1 : σ1 1 = σ 1) (h2 : σ1 2 = σ 2) (p : Int) : byteC σ1 p = byteC σ p := by unfold byteC; rw [h1, h2]
theorem bR_fr {τ τ1 : Sg} (h1 : τ1 84 2 = τ 84 2) (h2 : τ1 85 = τ 85) (p : Int) : bR τ1 p = bR τ p := by unfold bR; rw [h1, h2]
theorem isSym_i {b : Int} (hb : 0 ≤ b ∧ b ≤ 255) : isSym b = decide (b = 59 ∨ b = 58 ∨ b = 44 ∨ b = 40 ∨ b = 41) := by
  unfold isSym; rw [i32_n b (by omega)]
theorem scan_sim : ∀ (d : Nat) (σ τ : Sg) (p n : Int) (m f : Nat), Rb τ → KwOk σ → ByS σ τ → TkS σ τ n → 0 ≤ n → n ≤ p → p ≤ τ 84 2 → τ 84 2 - p ≤ d → τ 84 2 - p ≤ m → τ 84 2 - p < f →
    TkS (rdE (rdF m p σ)) (scF f n p τ) (scN f n p τ + 1) ∧ ∀ j, j ≠ 3 ∧ j ≠ 5 ∧ j ≠ 6 ∧ j ≠ 7 → rdE (rdF m p σ) j = σ j := by
  have fin : ∀ (σ τ : Sg) (p n : Int) (m f : Nat), Rb τ → ByS σ τ → TkS σ τ n → 0 ≤ n → n ≤ p → p = τ 84 2 → τ 84 2 - p < f →
      TkS (rdE (rdF m p σ)) (scF f n p τ) (scN f n p τ + 1) ∧ ∀ j, j ≠ 3 ∧ j ≠ 5 ∧ j ≠ 6 ∧ j ≠ 7 → rdE (rdF m p σ) j = σ j := by
    intro σ τ p n m f hb hS hT h0 h1 hp hf
    obtain ⟨f, rfl⟩ : ∃ q, f = q + 1 := ⟨f - 1, by omega⟩
    have hlen := hb.1
    have e1 : rdF m p σ = σ := by
      cases m with
      | zero => rfl
      | succ m => exact if_neg (by rw [hS.1, i32_n _ (by omega)]; omega)
    have eb : bR τ p = -1 := if_neg (by omega)
    have es : skF (bR τ) 1500 p = p := if_neg (by rw [eb]; omega)
    have ex : tkR τ p = (0, p, p) := by
      have := tkR_e (σ := τ) (p := p) (by rw [es, eb]; decide) (by rw [es, eb]; decide) (by rw [es]; omega)
      rwa [es] at this
    have a1 : scF (f + 1) n p τ = scP τ n (0, p, p) := by
      show (if (tkR τ p).1 = 0 then scP τ n (tkR τ p) else _) = _
      rw [ex]; rfl
    have a2 : scN (f + 1) n p τ = n := by
      show (if (tkR τ p).1 = 0 then n else _) = _
      rw [ex]; rfl
    rw [e1, a1, a2]
    have hk : kdR (scP τ n (0, p, p)) n.toNat = 25 := (kdR_end _ _).mpr (scP_n n (0, p, p)).1
    have := TkS_add (σ := σ) (τ := τ) (n := n) ⟨h0, by omega⟩ hT (x := (0, p, p)) (k := 25) (s := σ 1 1) (v := 0) hk.symm (by rw [hS.1]; exact hp.symm) (fun z => by rw [hk] at z; exact absurd z (by decide)) (fun z => by rw [hk] at z; exact absurd z (by decide))
    exact this
  intro d
  induction d with
  | zero =>
    intro σ τ p n m f hb hk hS hT h0 h1 h2 hd hm hf
    exact fin σ τ p n m f hb hS hT h0 h1 (by omega) hf
  | succ d ih =>
    intro σ τ p n m f hb hk hS hT h0 h1 h2 hd hm hf
    by_cases hp : p = τ 84 2
    · exact fin σ τ p n m f hb hS hT h0 h1 hp hf
    have hlen := hb.1
    have hlt : p < τ 84 2 := by omega
    obtain ⟨m, rfl⟩ : ∃ q, m = q + 1 := ⟨m - 1, by omega⟩
    obtain ⟨f, rfl⟩ : ∃ q, f = q + 1 := ⟨f - 1, by omega⟩
    have hby := hS.2 p (by omega) (by omega)
    have eb : bR τ p = τ 85 p.toNat := if_pos hlt
    have h255 := hb.2 p.toNat
    have hrd : rdF (m + 1) p σ = rdF m (raC σ p).1 (raC σ p).2 := if_pos (by rw [hS.1, i32_n _ (by omega)]; exact hlt)
    rw [hrd]
    have ebi : i32 (byteC σ p) = bR τ p := by rw [hby, eb]; exact i32_n _ (by omega)
    by_cases cb : bR τ p = 32 ∨ bR τ p = 10
    · have er : raC σ p = (p + 1, σ) := if_pos (by rw [ebi]; exact cb)
      have es : skF (bR τ) 1500 p = skF (bR τ) 1500 (p + 1) := by
        have : skF (bR τ) 1500 p = skF (bR τ) 1499 (p + 1) := if_pos cb
        rw [this]; exact skF_fuel 1499 1500 (p + 1) (by omega) (by omega)
      have et : tkR τ p = tkR τ (p + 1) := by unfold tkR; rw [es]
      have a1 : scF (f + 1) n p τ = scF (f + 1) n (p + 1) τ := by simp only [scF]; rw [et]
      have a2 : scN (f + 1) n p τ = scN (f + 1) n (p + 1) τ := by simp only [scN]; rw [et]
      rw [er, a1, a2]
      exact ih σ τ (p + 1) n m (f + 1) hb hk hS hT h0 (by omega) (by omega) (by omega) (by omega) (by omega)
    · have es : skF (bR τ) 1500 p = p := if_neg cb
      have nb : ¬ (i32 (byteC σ p) = 32 ∨ i32 (byteC σ p) = 10) := by rw [ebi]; exact cb
      have cont : ∀ (x : Int × Int × Int) (k v : Int), tkR τ p = x → x.1 ≠ 0 → x.2.1 = p → p < x.2.2 → x.2.2 ≤ τ 84 2 → raC σ p = (x.2.2, apC σ k p v) → k = kdR (scP τ n x) n.toNat → (kdR (scP τ n x) n.toNat = 22 → v = nmV (scP τ n x) n.toNat) → (kdR (scP τ n x) n.toNat = 23 → v = nuV (scP τ n x) n.toNat) →
          TkS (rdE (rdF m (raC σ p).1 (raC σ p).2)) (scF (f + 1) n p τ) (scN (f + 1) n p τ + 1) ∧ ∀ j, j ≠ 3 ∧ j ≠ 5 ∧ j ≠ 6 ∧ j ≠ 7 → rdE (rdF m (raC σ p).1 (raC σ p).2) j = σ j := by
        intro x k v ex hx0 hx1 hx2 hx3 er ek h22 h23
        obtain ⟨hA, hfr⟩ := TkS_add (σ := σ) (τ := τ) (n := n) ⟨h0, by omega⟩ hT (x := x) (k := k) (s := p) (v := v) ek hx1.symm h22 h23
        have a1 : scF (f + 1) n p τ = scF f (n + 1) x.2.2 (scP τ n x) := by
          show (if (tkR τ p).1 = 0 then _ else scF f (n + 1) (tkR τ p).2.2 (scP τ n (tkR τ p))) = _
          rw [ex, if_neg hx0]
        have a2 : scN (f + 1) n p τ = scN f (n + 1) x.2.2 (scP τ n x) := by
          show (if (tkR τ p).1 = 0 then _ else scN f (n + 1) (tkR τ p).2.2 (scP τ n (tkR τ p))) = _
          rw [ex, if_neg hx0]
        rw [er, a1, a2]
        have e84 : scP τ n x 84 = τ 84 := scP_o _ _ (by decide)
        have e85 : scP τ n x 85 = τ 85 := scP_o _ _ (by decide)
        have hS1 : ByS (apC σ k p v) (scP τ n x) := by
          refine ⟨by rw [hfr 1 (by decide), e84]; exact hS.1, fun q q0 q1 => ?_⟩
          rw [byteC_fr (hfr 1 (by decide)) (hfr 2 (by decide)), bR_fr (by rw [e84]) e85]
          exact hS.2 q q0 q1
        have hk1 : KwOk (apC σ k p v) := by
          unfold KwOk; rw [hfr 4 (by decide)]; exact hk
        have q := ih (apC σ k p v) (scP τ n x) x.2.2 (n + 1) m f (scP_b _ _ _ hb) hk1 hS1 hA (by omega) (by omega) (by rw [e84]; exact hx3) (by rw [e84]; omega) (by rw [e84]; omega) (by rw [e84]; omega)
        exact ⟨q.1, fun j hj => (q.2 j hj).trans (hfr j hj)⟩
      by_cases c1 : isLet (bR τ p) = true
      · have hgt := ltF_gt τ isLet (fun _ => bR_let) p c1
        have hle := (ltF_bd τ isLet (fun _ => bR_let) 1500 p h2).2
        obtain ⟨q1, q2⟩ := rw_e hS hb (1500 - p).toNat p 0 (by omega) (by omega)
        have q3 : ltF (bR τ) isLet (1500 - p).toNat p = ltF (bR τ) isLet 1500 p := ltF_fuel (fun _ => bR_let) _ _ p (by omega) (by omega)
        rw [q3] at q1
        have q2 := q2 1500 (by rw [q1]; omega)
        rw [q1] at q2
        have er : raC σ p = (ltF (bR τ) isLet 1500 p, apC σ (if ltF (bR τ) isLet 1500 p - p ≤ 10 then kwC σ (fW (ltF (bR τ) isLet 1500 p) (nmG τ) 1500 p 0) else 24) p (fW (ltF (bR τ) isLet 1500 p) (nmG τ) 1500 p 0)) := by
          have : raC σ p = ((rwC σ p).1, rwS σ p (rwC σ p)) := (if_neg nb).trans (if_pos (by rw [hby]; exact c1))
          rw [this]
          unfold rwS rwC
          rw [q1, q2]
        generalize hq : ltF (bR τ) isLet 1500 p = q at *
        have hnm : ∀ x : Int × Int × Int, x.2.1 = p → x.2.2 = q → nmV (scP τ n x) n.toNat = fW q (nmG τ) 1500 p 0 := by
          intro x hx1 hx2
          obtain ⟨-, z2, z3⟩ := scP_n (σ := τ) n x
          unfold nmV
          rw [z2, z3, hx1, hx2, show nmG (scP τ n x) = nmG τ from by funext k a; unfold nmG; rw [scP_o _ _ (by decide)]]
        have hall : ∀ j : Int, 0 ≤ j → j < q - p → 97 ≤ τ 85 (p + j).toNat ∧ τ 85 (p + j).toNat ≤ 122 := by
          intro j j0 j1
          have := ltF_all (σ := τ) isLet 1500 p (p + j) (by omega) (by rw [hq]; omega)
          rw [bR_at (by omega)] at this
          exact let_rng (hb.2 _) this
        by_cases c10 : q - p ≤ 10
        · have ex : tkR τ p = (1, p, q) := by
            have := tkR_w (σ := τ) (p := p) (k := 1) (by rw [es]; exact c1) (by rw [es, hq]; exact if_pos c10)
            rwa [es, hq] at this
          rw [if_pos c10] at er
          obtain ⟨z1, z2, z3⟩ := scP_n (σ := τ) n (1, p, q)
          have z1 : scP τ n (1, p, q) 86 n.toNat = 1 := z1
          have z2 : scP τ n (1, p, q) 87 n.toNat = p := z2
          have z3 : scP τ n (1, p, q) 88 n.toNat = q := z3
          have hkw := kw_e (σ := σ) (τ := scP τ n (1, p, q)) hk (t := n.toNat) (L := (q - p).toNat) z1 (by rw [z2, z3]; omega) (by omega) (fun j j0 j1 => by
            rw [z2, scP_o _ _ (by decide)]; exact hall j j0 (by omega)) 17 0 (by omega) (by omega)
          rw [hnm (1, p, q) rfl rfl] at hkw
          refine cont (1, p, q) _ _ ex (by dsimp only; decide) rfl (by dsimp only; omega) hle er ?_ (fun _ => (hnm _ rfl rfl).symm) (fun z => ?_)
          · rw [kdR_12 (Or.inl z1)]; exact hkw
          · rw [kdR_num, z1] at z; exact absurd z (by decide)
        · have ex : tkR τ p = (4, p, q) := by
            have := tkR_w (σ := τ) (p := p) (k := 4) (by rw [es]; exact c1) (by rw [es, hq]; exact if_neg c10)
            rwa [es, hq] at this
          rw [if_neg c10] at er
          obtain ⟨z1, z2, z3⟩ := scP_n (σ := τ) n (4, p, q)
          have z1 : scP τ n (4, p, q) 86 n.toNat = 4 := z1
          have hkd : kdR (scP τ n (4, p, q)) n.toNat = 24 := by unfold kdR; rw [z1]; rfl
          refine cont (4, p, q) _ _ ex (by dsimp only; decide) rfl (by dsimp only; omega) hle er hkd.symm (fun z => ?_) (fun z => ?_)
          · rw [hkd] at z; exact absurd z (by decide)
          · rw [hkd] at z; exact absurd z (by decide)
      · rw [Bool.not_eq_true] at c1
        by_cases c2 : isDig (bR τ p) = true
        · have hgt := ltF_gt τ isDig (fun _ => bR_dig) p c2
          have hle := (ltF_bd τ isDig (fun _ => bR_dig) 1500 p h2).2
          obtain ⟨q1, q2⟩ := rn_e hS hb (1500 - p).toNat p 0 (by omega) (by omega)
          have q3 : ltF (bR τ) isDig (1500 - p).toNat p = ltF (bR τ) isDig 1500 p := ltF_fuel (fun _ => bR_dig) _ _ p (by omega) (by omega)
          rw [q3] at q1
          have q2 := q2 1500 (by rw [q1]; omega)
          rw [q1] at q2
          have er : raC σ p = (ltF (bR τ) isDig 1500 p, apC σ (if ltF (bR τ) isDig 1500 p - p ≤ 4 then 23 else 24) p (fW (ltF (bR τ) isDig 1500 p) (nuG τ) 1500 p 0)) := by
            have : raC σ p = ((rnC σ p).1, rnS σ p (rnC σ p)) := (if_neg nb).trans ((if_neg (by rw [hby, c1]; decide)).trans (if_pos (by rw [hby]; exact c2)))
            rw [this]
            unfold rnS rnC
            rw [q1, q2]
          generalize hq : ltF (bR τ) isDig 1500 p = q at *
          have hnu : ∀ x : Int × Int × Int, x.2.1 = p → x.2.2 = q → nuV (scP τ n x) n.toNat = fW q (nuG τ) 1500 p 0 := by
            intro x hx1 hx2
            obtain ⟨-, z2, z3⟩ := scP_n (σ := τ) n x
            unfold nuV
            rw [z2, z3, hx1, hx2, show nuG (scP τ n x) = nuG τ from by funext k a; unfold nuG; rw [scP_o _ _ (by decide)]]
          by_cases c10 : q - p ≤ 4
          · have ex : tkR τ p = (2, p, q) := by
              have := tkR_d (σ := τ) (p := p) (k := 2) (by rw [es]; exact c1) (by rw [es]; exact c2) (by rw [es, hq]; exact if_pos c10)
              rwa [es, hq] at this
            rw [if_pos c10] at er
            obtain ⟨z1, z2, z3⟩ := scP_n (σ := τ) n (2, p, q)
            have z1 : scP τ n (2, p, q) 86 n.toNat = 2 := z1
            have hkd : kdR (scP τ n (2, p, q)) n.toNat = 23 := (kdR_num _ _).mpr z1
            refine cont (2, p, q) _ _ ex (by dsimp only; decide) rfl (by dsimp only; omega) hle er hkd.symm (fun z => ?_) (fun _ => (hnu _ rfl rfl).symm)
            rw [hkd] at z; exact absurd z (by decide)
          · have ex : tkR τ p = (4, p, q) := by
              have := tkR_d (σ := τ) (p := p) (k := 4) (by rw [es]; exact c1) (by rw [es]; exact c2) (by rw [es, hq]; exact if_neg c10)
              rwa [es, hq] at this
            rw [if_neg c10] at er
            obtain ⟨z1, z2, z3⟩ := scP_n (σ := τ) n (4, p, q)
            have z1 : scP τ n (4, p, q) 86 n.toNat = 4 := z1
            have hkd : kdR (scP τ n (4, p, q)) n.toNat = 24 := by unfold kdR; rw [z1]; rfl
            refine cont (4, p, q) _ _ ex (by dsimp only; decide) rfl (by dsimp only; omega) hle er hkd.symm (fun z => ?_) (fun z => ?_)
            · rw [hkd] at z; exact absurd z (by decide)
            · rw [hkd] at z; exact absurd z (by decide)
        · rw [Bool.not_eq_true] at c2
          have esy : syC σ p = syT (bR τ p) := by
            have := sy_tab (bR τ p).toNat (by omega)
            rw [show (((bR τ p).toNat : Nat) : Int) = bR τ p from by omega] at this
            unfold syC; rw [hby]; exact this
          have er : raC σ p = (p + 1, apC σ (syT (bR τ p)) p 0) := by
            rw [← esy]
            exact (if_neg nb).trans ((if_neg (by rw [hby, c1]; decide)).trans (if_neg (by rw [hby, c2]; decide)))
          have hsy := isSym_i (b := bR τ p) (by omega)
          by_cases c3 : bR τ p = 59 ∨ bR τ p = 58 ∨ bR τ p = 44 ∨ bR τ p = 40 ∨ bR τ p = 41
          · have ex : tkR τ p = (3, p, p + 1) := by
              have := tkR_s (σ := τ) (p := p) (k := 3) (by rw [es]; exact c1) (by rw [es]; exact c2) (by rw [es]; exact hlt) (by rw [es, hsy]; exact if_pos (decide_eq_true c3))
              rwa [es] at this
            obtain ⟨z1, z2, z3⟩ := scP_n (σ := τ) n (3, p, p + 1)
            have z1 : scP τ n (3, p, p + 1) 86 n.toNat = 3 := z1
            have z2 : scP τ n (3, p, p + 1) 87 n.toNat = p := z2
            have z3 : scP τ n (3, p, p + 1) 88 n.toNat = p + 1 := z3
            have hkd : kdR (scP τ n (3, p, p + 1)) n.toNat = syT (bR τ p) := sy_e z1 (by rw [z2, z3]) (by rw [z2, scP_o _ _ (by decide)]; exact eb.symm) c3
            have hne : syT (bR τ p) ≠ 22 ∧ syT (bR τ p) ≠ 23 := by
              unfold syT
              rcases c3 with h | h | h | h | h <;> rw [h] <;> decide
            refine cont (3, p, p + 1) _ _ ex (by dsimp only; decide) rfl (by dsimp only; omega) (by dsimp only; omega) er hkd.symm (fun z => ?_) (fun z => ?_)
            · rw [hkd] at z; exact absurd z hne.1
            · rw [hkd] at z; exact absurd z hne.2
          · have ex : tkR τ p = (4, p, p + 1) := by
              have := tkR_s (σ := τ) (p := p) (k := 4) (by rw [es]; exact c1) (by rw [es]; exact c2) (by rw [es]; exact hlt) (by rw [es, hsy]; exact if_neg (by rw [decide_eq_false c3]; decide))
              rwa [es] at this
            obtain ⟨z1, z2, z3⟩ := scP_n (σ := τ) n (4, p, p + 1)
            have z1 : scP τ n (4, p, p + 1) 86 n.toNat = 4 := z1
            have hkd : kdR (scP τ n (4, p, p + 1)) n.toNat = 24 := by unfold kdR; rw [z1]; rfl
            have hT24 : syT (bR τ p) = 24 := by
              unfold syT
              rw [if_neg (fun z => c3 (Or.inl z)), if_neg (fun z => c3 (Or.inr (Or.inl z))), if_neg (fun z => c3 (Or.inr (Or.inr (Or.inl z)))), if_neg (fun z => c3 (Or.inr (Or.inr (Or.inr (Or.inl z))))), if_neg (fun z => c3 (Or.inr (Or.inr (Or.inr (Or.inr z)))))]
            refine cont (4, p, p + 1) _ _ ex (by dsimp only; decide) rfl (by dsimp only; omega) (by dsimp only; omega) er (by rw [hkd, hT24]) (fun z => ?_) (fun z => ?_)
            · rw [hkd] at z; exact absurd z (by decide)
            · rw [hkd] at z; exact absurd z (by decide)
/-- what the class has read: kinds, starts and values as the reference's -/
theorem scan_ok (hb : Rb τ) (hk : KwOk σ) (hS : ByS σ τ) : TkS (readC σ) (scC τ) (scE τ + 1) ∧ ∀ j, j ≠ 3 ∧ j ≠ 5 ∧ j ≠ 6 ∧ j ≠ 7 → readC σ j = σ j := by
  have hlen := hb.1
  have o : ∀ j, j ≠ 3 → up σ 3 4 0 j = σ j := fun j hj => up_r _ _ _ hj
  have q := scan_sim 1500 (up σ 3 4 0) τ 0 0 1500 1501 hb (by unfold KwOk; rw [o 4 (by decide)]; exact hk) ⟨by rw [o 1 (by decide)]; exact hS.1, fun p p0 p1 => by rw [byteC_fr (o 1 (by decide)) (o 2 (by decide))]; exact hS.2 p p0 p1⟩ ⟨up_s _ _ _ _, fun t ht => by omega⟩ (Int.le_refl _) (Int.le_refl _) hlen.1 (by omega) (by omega) (by omega)
  exact ⟨q.1, fun j hj => (q.2 j hj).trans (o j hj.1)⟩
end S61
