/-! the meaning, side by side: parts of dishes -/
section S65
variable {σ τ p Y : Sg} {e : Int} {K V N S : Int → Int}
/-- while a dish is read: its own places are free -/
theorem RR.fr2 {z y : Sg} {d : Nat} (h : RR σ τ) (hd : (d : Int) = τ 84 15) (h1 : ∀ k, 9 ≤ k ∧ k ≤ 54 ∧ k ≠ 51 ∧ k ≠ 34 + d ∧ ¬ (26 ≤ k ∧ k ≤ 30) → z k = σ k) (h1b : ∀ k, 26 ≤ k ∧ k ≤ 30 → ∀ j, j ≠ d → z k j = σ k j) (h2 : ∀ j, j ≠ 4 ∧ j ≠ 8 → y 84 j = τ 84 j) (h3 : ∀ k, 84 < k ∧ (k < 94 ∨ 99 < k) → y k = τ k) (h4 : ∀ k, 94 ≤ k ∧ k < 99 → ∀ j, j ≠ d → y k j = τ k j) (h5 : ∀ j : Nat, (j : Int) < 16 * d → y 99 j = τ 99 j) : RR z y := by
  obtain ⟨a1, a2, a3, a4, a5, a6, a7, a8, a9, a10⟩ := h
  have hb := a2.2.1
  unfold RR TgR
  rw [h2 10 (by decide), h2 15 (by decide), h2 23 (by decide), h2 36 (by decide), h2 30 (by decide), h2 25 (by decide), h1 18 (by omega), h1 9 (by omega)]
  have nf : ∀ {k ka : Nat} {n m : Int}, (9 ≤ k ∧ k < 22) → (84 < ka ∧ (ka < 94 ∨ 99 < ka)) → NmR σ τ k ka n m → NmR z y k ka n m := fun {k ka n m} hk hka g => g.fr (by rw [h1 k (by omega)]) (by rw [h1 k (by omega)]) (fun j _ => by rw [h1 (k + 1) (by omega)]) (fun j _ => by rw [h3 ka hka])
  refine ⟨nf (by decide) (by decide) a1, nf (by decide) (by decide) a2, nf (by decide) (by decide) a3, nf (by decide) (by decide) a4, a5, fun j hj => ?_, fun j hj => ?_, fun c hc => ?_, fun r hr => ?_, fun j f hj hf hg => ?_⟩
  · exact (a6 j hj).fr (fun k hk => by rw [h1 k (by omega)]) (fun k hk => by rw [h3 k (by omega)])
  · exact (a7 j hj).fr (fun k hk => h1b k hk j (by omega)) (h1 _ (by omega)) (fun k hk => h4 k (by omega) j (by omega)) (fun f _ => h5 _ (by omega))
  · exact (a8 c hc).fr (fun k hk => by rw [h1 k (by omega)]) (fun k hk => by rw [h3 k (by omega)]) (by rw [h2 15 (by decide)]; exact Int.le_refl _)
  · exact (a9 r hr).fr (fun k hk => by rw [h1 k (by omega)]) (fun k hk => by rw [h3 k (by omega)])
  · rw [h5 _ (by omega)]; exact a10 j f hj hf hg
/-- a dish under way -/
def PtR (p Y : Sg) (d : Nat) : Prop := RR p Y ∧ p 26 d = Y 94 d ∧ p 51 11 = Y 95 d ∧ p 51 12 = Y 96 d ∧ (p 51 10 = Y 97 d ∧ 0 ≤ Y 97 d ∧ inr (Y 97 d)) ∧ (∀ f : Nat, f < 16 → p (34 + d) f = Y 99 (16 * d + f)) ∧ (∀ f : Nat, f < 16 → Y 84 10 ≤ f → Y 99 (16 * d + f) = 0)
/-- how a part ends -/
def PtU (e : Int) (S : Int → Int) (d : Nat) (b : Int) (p Y : Sg) (x : Bool × Sg) (y : Int × Sg) : Prop :=
  (∀ k, k ≠ 51 ∧ k ≠ 34 + d → x.2 k = p k) ∧
  ((x.1 = true ∧ y.1 = 0 ∧ x.2 51 6 = b ∧ x.2 51 7 = p 51 7 ∧ x.2 51 8 = p 51 8 ∧ y.2 84 4 = Y 84 4 ∧ PtR x.2 y.2 d) ∨ (x.1 = false ∧ (1 ≤ y.1 ∧ y.1 ≤ 6) ∧ x.2 51 7 = y.1 ∧ (0 ≤ x.2 51 8 ∧ x.2 51 8 ≤ e) ∧ y.2 84 4 = S (x.2 51 8)))
theorem PtU.no {d : Nat} {b : Int} {x : Bool × Sg} {y : Int × Sg} {z : Sg} {c t : Int} (hz : ∀ k, k ≠ 51 → z k = p k) (hx : x = (false, flM z c t)) (hc : 1 ≤ c ∧ c ≤ 6) (ht : 0 ≤ t ∧ t ≤ e) (h1 : y.1 = c) (h4 : y.2 84 4 = S t) : PtU e S d b p Y x y := by
  subst hx
  refine ⟨fun k hk => (flM_r _ _ _ hk.1).trans (hz k hk.1), Or.inr ⟨rfl, by omega, ?_, ?_, ?_⟩⟩
  · dsimp only; rw [(flM_7 _ _ _).1, h1]
  · dsimp only; rw [(flM_7 _ _ _).2]; exact ht
  · dsimp only; rw [(flM_7 _ _ _).2, h4]
/-- grams of another dish, food by food -/
theorem ad1_ok {z : Sg} {d o : Nat} {n F : Int} (ho : o < d) (hd : d < 16) (hF : 0 ≤ F ∧ F ≤ 16) (h10 : z 10 2 = F) (h9 : z 51 9 = n) (hn : 1 ≤ n ∧ n ≤ 2000) (hs : 1 ≤ z 26 o ∧ z 26 o ≤ 20) (hg : ∀ f : Nat, f < 16 → 0 ≤ z (34 + o) f ∧ z (34 + o) f ≤ 100000) :
    (∀ k, k ≠ 34 + d → ad1M z d o k = z k) ∧ ∀ f : Nat, f < 16 → ad1M z d o (34 + d) f = z (34 + d) f + (if (f : Int) < F then (i64 (n * z (34 + o) f)).tdiv (z 26 o) else 0) := by
  have key : ∀ (m : Nat) (i : Int) (a : Sg), 0 ≤ i → i + m = 16 → (∀ k, k ≠ 34 + d → a k = z k) → (∀ f : Nat, f < 16 → a (34 + d) f = z (34 + d) f + (if (f : Int) < i ∧ (f : Int) < F then (i64 (n * z (34 + o) f)).tdiv (z 26 o) else 0)) →
      (∀ k, k ≠ 34 + d → fG (fun i (a : Sg) => decide (i < i32 (a 10 2))) (adG1 d o) m i a k = z k) ∧ ∀ f : Nat, f < 16 → fG (fun i (a : Sg) => decide (i < i32 (a 10 2))) (adG1 d o) m i a (34 + d) f = z (34 + d) f + (if (f : Int) < F then (i64 (n * z (34 + o) f)).tdiv (z 26 o) else 0) := by
    intro m
    induction m with
    | zero =>
      intro i a i0 hi ha hf
      refine ⟨ha, fun f hf2 => ?_⟩
      show a (34 + d) f = _
      rw [hf f hf2]
      by_cases c : (f : Int) < F
      · rw [if_pos ⟨by omega, c⟩, if_pos c]
      · rw [if_neg (fun w => c w.2), if_neg c]
    | succ m ih =>
      intro i a i0 hi ha hf
      rw [fG_s, ha 10 (by omega), h10, i32_n F (by omega)]
      by_cases c : i < F
      · rw [if_pos (decide_eq_true c)]
        obtain ⟨j, rfl⟩ : ∃ j : Nat, i = j := ⟨i.toNat, by omega⟩
        have e1 : gfC a (a 51 9) o j = (i64 (n * z (34 + o) j)).tdiv (z 26 o) := by
          have hgj := hg j (by omega)
          unfold gfC
          rw [ha 51 (by omega), h9, i32_n (o : Int) (by omega), i32_n (j : Int) (by omega), i32_n n (by omega)]
          rw [show ((o : Int)).toNat = o from by omega, show ((j : Int)).toNat = j from by omega, ha 26 (by omega), ha (34 + o) (by omega), i32_n (z 26 o) (by omega), i32_n (z (34 + o) j) (by omega), if_neg (by omega)]
        have e2 : adG1 d o j a = up a (34 + d) j (a (34 + d) j + (i64 (n * z (34 + o) j)).tdiv (z 26 o)) := by
          show up a (34 + ((d : Int)).toNat) ((j : Int)).toNat (a (34 + ((d : Int)).toNat) ((j : Int)).toNat + gfC a (a 51 9) o j) = _
          rw [e1, show ((d : Int)).toNat = d from by omega, show ((j : Int)).toNat = j from by omega]
        rw [e2]
        refine ih (j + 1) _ (by omega) (by omega) (fun k hk => (up_r _ _ _ hk).trans (ha k hk)) (fun f hf2 => ?_)
        by_cases cf : f = j
        · subst cf
          rw [up_s, hf f hf2, if_neg (by omega), if_pos ⟨by omega, c⟩, Int.add_zero]
        · rw [up_j _ _ cf, hf f hf2]
          by_cases c3 : (f : Int) < j ∧ (f : Int) < F
          · rw [if_pos c3, if_pos ⟨by omega, c3.2⟩]
          · rw [if_neg c3, if_neg (fun w => c3 ⟨by omega, w.2⟩)]
      · rw [if_neg (fun w => c (of_decide_eq_true w))]
        refine ⟨ha, fun f hf2 => ?_⟩
        rw [hf f hf2]
        by_cases c3 : (f : Int) < F
        · rw [if_pos ⟨by omega, c3⟩, if_pos c3]
        · rw [if_neg (fun w => c3 w.2), if_neg c3]
  exact key 16 0 z (Int.le_refl _) (by omega) (fun _ _ => rfl) (fun f hf => by rw [if_neg (by omega), Int.add_zero])
theorem ptF_97 {d x n : Int} : ptF d x n σ 97 d.toNat = ior (σ 97 d.toNat) (σ 92 x.toNat) := by
  unfold ptF
  rw [up_r _ _ _ (by decide), up_s]
theorem ptD_97 {d x n : Int} : ptD d x n σ 97 d.toNat = ior (σ 97 d.toNat) (σ 97 x.toNat) := by
  unfold ptD
  rw [fW_r (a := 97) (fun i a _ => by unfold ptGR; rw [up_r _ _ _ (by decide)]), up_s]
theorem pt_ok {d : Nat} {c b : Int} (hI : DI e K V N S Y) (hd : (d : Int) = Y 84 15) (hT : TC p e K V N S) (hP : PtR p Y d) (h6 : p 51 6 = c) (h8 : Y 84 8 = c) (h0 : 0 ≤ c) (hg : PtO K (c + 1) b) (hb : b ≤ e) :
    PtU e S d b p Y (tpM (nxM p) d (Y 98 d)) (ptM K V N S (incS 8 Y)) := by
  have hI8 := hI.i8
  have hU : (ptM K V N S (incS 8 Y)).1 = 0 → (∀ k, k ≠ 84 ∧ (k < 95 ∨ 99 < k) → (ptM K V N S (incS 8 Y)).2 k = Y k) ∧ (∀ j, j ≠ 4 ∧ j ≠ 8 → (ptM K V N S (incS 8 Y)).2 84 j = Y 84 j) ∧ (∀ k, 95 ≤ k ∧ k < 99 → ∀ j, j ≠ d → (ptM K V N S (incS 8 Y)).2 k j = Y k j) ∧ (∀ j : Nat, (j : Int) < 16 * d → (ptM K V N S (incS 8 Y)).2 99 j = Y 99 j) := by
    intro _
    have hC := hI8.2.1
    have e15 : incS 8 Y 84 15 = Y 84 15 := incS_j _ (by decide)
    refine ⟨fun k hk => (ptM_k hC hk).trans (incS_r _ hk.1), fun j hj => (ptM_j hC hj).trans (incS_j _ hj.2), fun k hk j hj => (ptM_d hC ⟨by omega, hk.2⟩ (by rw [e15]; omega)).trans (incS_k _ (by omega) _), fun j hj => (ptM_99 hC (by rw [e15]; omega)).trans (incS_k _ (by decide) _)⟩
  obtain ⟨hTk, hC, hD, hd16, hp0, hp8⟩ := hI
  obtain ⟨hR, r26, r11, r12, ⟨r10, r97, r97i⟩, rg, rz⟩ := id hP
  obtain ⟨a1, a2, a3, a4, a5, a6, a7, a8, a9, a10⟩ := id hR
  have hdn : (Y 84 15).toNat = d := by omega
  rw [hdn] at hp0 hp8
  obtain ⟨g1, g2⟩ := hg
  have i1 := hTk.in g1 (by decide)
  have hN1 := hTk.2.2.2.1 _ g1
  have en6 : nxM p 51 6 = c + 1 := by rw [nxM_6, h6]
  have en8 : incS 8 Y 84 8 = c + 1 := by rw [incS_s, h8]
  have e98 : incS 8 Y 98 d = Y 98 d := incS_k _ (by decide) _
  have e15 : incS 8 Y 84 15 = Y 84 15 := incS_j _ (by decide)
  have e10 : incS 8 Y 84 10 = Y 84 10 := incS_j _ (by decide)
  have pT := hT.nx
  unfold tpM
  by_cases c1 : 8 ≤ Y 98 d
  · rw [if_pos c1]
    have ey : ptM K V N S (incS 8 Y) = (4, up (incS 8 Y) 84 4 (S (c + 1))) := by
      unfold ptM
      rw [e15, hdn, e98, if_pos (by omega), en8]
    rw [ey, en6]
    exact PtU.no (fun k hk => nxM_r _ hk) rfl (by decide) ⟨by omega, by omega⟩ rfl (by dsimp only; rw [up_s])
  · rw [if_neg c1]
    have et : tnM (nxM p) 1 2000 = if 1 ≤ N (c + 1) ∧ N (c + 1) ≤ 2000 then (true, nxM (up (nxM p) 51 9 (N (c + 1)))) else (false, flM (nxM p) 5 (c + 1)) := tn_e pT ⟨by omega, by omega⟩ g1 en6 (by decide) (by decide)
    by_cases c2 : 1 ≤ N (c + 1) ∧ N (c + 1) ≤ 2000
    · rw [if_pos c2] at et
      rw [et, if_pos rfl]
      dsimp only
      generalize hq : nxM (up (nxM p) 51 9 (N (c + 1))) = q
      have qk : ∀ k, k ≠ 51 → q k = p k := fun k hk => by rw [← hq, nxM_r _ hk, up_r _ _ _ hk, nxM_r _ hk]
      have q51 : ∀ j, j ≠ 6 ∧ j ≠ 9 → q 51 j = p 51 j := fun j hj => by rw [← hq, nxM_j _ (Or.inr hj.1), up_j _ _ hj.2, nxM_j _ (Or.inr hj.1)]
      have q9 : q 51 9 = N (c + 1) := by rw [← hq, nxM_j _ (Or.inr (by decide)), up_s]
      have q6 : q 51 6 = c + 2 := by rw [← hq, nxM_6, up_j _ _ (by decide), nxM_6, h6]; omega
      have qT : TC q e K V N S := hT.fr (qk 3 (by decide)) (qk 5 (by decide)) (qk 6 (by decide)) (qk 7 (by decide))
      have hk4 : KC q (q 51 6) = K (c + 1 + 1) := by
        rw [q6, (qT.2 (c + 2) (by omega) (by rcases g2 with ⟨_, _, z⟩ | ⟨_, z⟩ <;> omega)).1, ad11]
      rw [hk4]
      have eid : ∀ {k ka : Nat} {n m : Int}, (9 ≤ k ∧ k < 40) → NmR p Y k ka n m → ∀ (w : Sg) (v : Int), (∀ k, k ≠ 51 → w k = p k) → idxC w k v = fnC Y ka n v := fun {k ka n m} hk g w v hw => (g.fr (by rw [hw k (by omega)]) (by rw [hw k (by omega)]) (fun j _ => by rw [hw (k + 1) (by omega)]) (fun _ _ => rfl) : NmR w Y k ka n m).idx v
      rcases g2 with ⟨k4, k22, hbe⟩ | ⟨k22, hbe⟩
      · -- a dish
        have i3 := hTk.in k22 (by decide)
        rw [if_pos k4]
        have vq : VC (nxM q) (nxM q 51 6) = V (c + 3) := by
          rw [nxM_6, q6, show c + 2 + 1 = c + 3 from by omega]
          exact (qT.nx.2 (c + 3) (by omega) (by omega)).2.1 (by rw [show c + 3 = c + 1 + 2 from by omega]; exact k22)
        have ei : idxC (nxM q) 12 (V (c + 3)) = fnC Y 93 (Y 84 15) (V (c + 3)) := eid (by decide) a2 _ _ (fun k hk => (nxM_r _ hk).trans (qk k hk))
        have ey : ptM K V N S (incS 8 Y) = ptX S (c + 3) (fnC Y 93 (Y 84 15) (V (c + 3))) (ptD (Y 84 15) (fnC Y 93 (Y 84 15) (V (c + 3))) (N (c + 1))) (incS 8 (incS 8 (incS 8 Y))) := by
          unfold ptM
          rw [e15, hdn, e98, if_neg (by omega), en8, if_pos c2, if_pos k4, fnC_inc (by decide), show c + 1 + 2 = c + 3 from by omega]
        unfold tp1M
        rw [vq, ei]
        rw [ey] at hU ⊢
        unfold ptX at hU ⊢
        have hfb := fn_spec (τ := Y) (ka := 93) (m := Y 84 15) (v := V (c + 3)) ⟨a2.2.1.1, a2.2.1.2⟩
        generalize fnC Y 93 (Y 84 15) (V (c + 3)) = x at hfb hU ⊢
        by_cases cx : x = -1
        · rw [if_pos cx] at hU ⊢
          rw [if_pos cx, nxM_6, q6]
          exact PtU.no (fun k hk => (nxM_r _ hk).trans (qk k hk)) rfl (by decide) ⟨by omega, by omega⟩ rfl (by dsimp only; rw [up_s, show c + 2 + 1 = c + 3 from by omega])
        · rw [if_neg cx] at hU ⊢
          rw [if_neg cx, if_pos rfl]
          obtain ⟨u1, u2, u3, u4⟩ := hU rfl
          have hx : 0 ≤ x ∧ x < Y 84 15 := by rcases hfb with ⟨z, _⟩ | ⟨z, _⟩; exact absurd z cx; exact z
          obtain ⟨o, rfl⟩ : ∃ o : Nat, x = o := ⟨x.toNat, by omega⟩
          have exn : ((o : Int)).toNat = o := by omega
          obtain ⟨d1, d2, d3, d4⟩ := hD.1 o hx.2
          obtain ⟨⟨s1, s2, s3, s4, s5, s6, s7⟩, s8⟩ := a7 o hx.2
          generalize hw : nxM (nxM q) = w
          have wk : ∀ k, k ≠ 51 → w k = p k := fun k hk => by rw [← hw, nxM_r _ hk, nxM_r _ hk, qk k hk]
          have w51 : ∀ j, j ≠ 6 ∧ j ≠ 9 → w 51 j = p 51 j := fun j hj => by rw [← hw, nxM_j _ (Or.inr hj.1), nxM_j _ (Or.inr hj.1), q51 j hj]
          have w9 : w 51 9 = N (c + 1) := by rw [← hw, nxM_j _ (Or.inr (by decide)), nxM_j _ (Or.inr (by decide)), q9]
          have w6 : w 51 6 = c + 4 := by rw [← hw, nxM_6, nxM_6, q6]; omega
          obtain ⟨m1, m2⟩ := ad1_ok (z := w) (d := d) (o := o) (n := N (c + 1)) (F := Y 84 10) (by omega) (by omega) (by have := a1.2.1; omega) (by rw [wk 10 (by decide)]; exact a1.1) w9 c2 (by rw [wk 26 (by decide), s1]; exact d1) (fun f hf => by rw [wk (34 + o) (by omega), s8 f hf]; exact d4 f hf)
          have enb : (Y 95 o).tdiv (Y 94 o) = p 27 o := s2.symm
          have pcb : (Y 96 o).tdiv (Y 94 o) = p 28 o := s3.symm
          have t1 := tdiv_bd d2.1 d1.1
          have t2 := tdiv_bd d3.1 d1.1
          generalize hYY : incS 8 (incS 8 (incS 8 (incS 8 Y))) = Z at u1 u2 u3 u4 ⊢
          have Zk : ∀ k j, k ≠ 84 → Z k j = Y k j := fun k j hk => by rw [← hYY]; simp only [incS_k _ hk]
          dsimp only at u1 u2 u3 u4 ⊢
          unfold adM
          generalize ad1M w d o = A at m1 m2 ⊢
          have A51 : ∀ j, A 51 j = w 51 j := fun j => by rw [m1 51 (by omega)]
          have A27 : A 27 o = p 27 o := by rw [m1 27 (by omega), wk 27 (by decide)]
          have A28 : A 28 o = p 28 o := by rw [m1 28 (by omega), wk 28 (by decide)]
          have A29 : A 29 o = p 29 o := by rw [m1 29 (by omega), wk 29 (by decide)]
          rw [exn, A51 11, A51 12, A51 10, A51 9, A27, A28, A29, w9, w51 11 (by decide), w51 12 (by decide), w51 10 (by decide), i32_n (N (c + 1)) (by omega), i32_n (p 27 o) (by omega), i32_n (p 28 o) (by omega)]
          generalize hX : up (up (up A 51 11 (p 51 11 + N (c + 1) * p 27 o)) 51 12 (p 51 12 + N (c + 1) * p 28 o)) 51 10 (ior (p 51 10) (p 29 o)) = X
          have Xk : ∀ k, k ≠ 51 ∧ k ≠ 34 + d → X k = p k := fun k hk => by rw [← hX, up_r _ _ _ hk.1, up_r _ _ _ hk.1, up_r _ _ _ hk.1, m1 k hk.2, wk k hk.1]
          have X51 : ∀ j, j ≠ 10 ∧ j ≠ 11 ∧ j ≠ 12 → X 51 j = w 51 j := fun j hj => by rw [← hX, up_j _ _ hj.1, up_j _ _ hj.2.2, up_j _ _ hj.2.1, A51]
          refine ⟨Xk, Or.inl ⟨rfl, rfl, ?_, ?_, ?_, ?_, ?_⟩⟩
          · dsimp only; rw [X51 6 (by decide), w6]; omega
          · dsimp only; rw [X51 7 (by decide), w51 7 (by decide)]
          · dsimp only; rw [X51 8 (by decide), w51 8 (by decide)]
          · dsimp only; rw [ptD_k (by decide), ← hYY]; simp only [incS_j _ (show (4 : Nat) ≠ 8 by decide)]
          · dsimp only
            refine ⟨hR.fr2 hd (fun k hk => Xk k ⟨hk.2.2.1, hk.2.2.2.1⟩) (fun k hk j _ => by rw [Xk k (by omega)]) u2 (fun k hk => u1 k (by omega)) (fun k hk j hj => ?_) u4, ?_, ?_, ?_, ⟨?_, ?_, ?_⟩, fun f hf => ?_, fun f hf hg => ?_⟩
            · by_cases c94 : k = 94
              · subst c94; rw [u1 94 (by decide)]
              · exact u3 k (by omega) j hj
            · rw [Xk 26 (by omega), u1 94 (by decide)]; exact r26
            · rw [← hdn, ptD_95, hdn, Zk 95 d (by decide), exn, Zk 95 o (by decide), Zk 94 o (by decide), enb, ← hX, up_j _ _ (by decide), up_j _ _ (by decide), up_s, r11]
            · rw [← hdn, ptD_96, hdn, Zk 96 d (by decide), exn, Zk 96 o (by decide), Zk 94 o (by decide), pcb, ← hX, up_j _ _ (by decide), up_s, r12]
            · rw [← hdn, ptD_97, hdn, Zk 97 d (by decide), exn, Zk 97 o (by decide), ← hX, up_s, r10, s4]
            · rw [← hdn, ptD_97, hdn, Zk 97 d (by decide), exn, Zk 97 o (by decide)]
              exact ior_nn r97i s7 r97 s6
            · rw [← hdn, ptD_97]; exact ior_inr _ _
            · have e16 : 16 * d + f = (16 * Y 84 15 + (f : Int)).toNat := by omega
              have e16o : (16 * (o : Int) + (f : Int)).toNat = 16 * o + f := by omega
              rw [e16, ptD_g a2.2.1.1 hx hf, ← e16, Zk 99 _ (by decide), e16o, Zk 99 _ (by decide), exn, Zk 94 o (by decide), ← hX, up_k _ _ (by omega), up_k _ _ (by omega), up_k _ _ (by omega), m2 f hf, wk (34 + d) (by omega), rg f hf, wk (34 + o) (by omega), s8 f hf, wk 26 (by decide), s1]
              by_cases cf : (f : Int) < Y 84 10
              · rw [if_pos cf]
              · rw [if_neg cf, a10 o f hx.2 hf (by omega), Int.mul_zero, show i64 0 = 0 from rfl, Int.zero_tdiv]
            · rw [u2 10 (by decide)] at hg
              have e16 : 16 * d + f = (16 * Y 84 15 + (f : Int)).toNat := by omega
              have e16o : (16 * (o : Int) + (f : Int)).toNat = 16 * o + f := by omega
              rw [e16, ptD_g a2.2.1.1 hx hf, ← e16, Zk 99 _ (by decide), e16o, Zk 99 _ (by decide), rz f hf hg, a10 o f hx.2 hf hg, Int.mul_zero, show i64 0 = 0 from rfl, Int.zero_tdiv]; rfl
      · -- a food
        have i3 := hTk.in k22 (by decide)
        have k4 : ¬ K (c + 1 + 1) = 4 := by rw [k22]; decide
        rw [if_neg k4]
        have vq : VC q (q 51 6) = V (c + 2) := by
          rw [q6]
          exact (qT.2 (c + 2) (by omega) (by omega)).2.1 (by rw [show c + 2 = c + 1 + 1 from by omega]; exact k22)
        have ei : idxC q 10 (V (c + 2)) = fnC Y 89 (Y 84 10) (V (c + 2)) := eid (by decide) a1 _ _ qk
        have ey : ptM K V N S (incS 8 Y) = ptX S (c + 2) (fnC Y 89 (Y 84 10) (V (c + 2))) (ptF (Y 84 15) (fnC Y 89 (Y 84 10) (V (c + 2))) (N (c + 1))) (incS 8 (incS 8 Y)) := by
          unfold ptM
          rw [e15, hdn, e98, if_neg (by omega), en8, if_pos c2, if_neg k4, fnC_inc (by decide), e10, ad11]
        unfold tp1M
        rw [vq, ei]
        rw [ey] at hU ⊢
        unfold ptX at hU ⊢
        have hfb := fn_spec (τ := Y) (ka := 89) (m := Y 84 10) (v := V (c + 2)) ⟨a1.2.1.1, a1.2.1.2⟩
        generalize fnC Y 89 (Y 84 10) (V (c + 2)) = x at hfb hU ⊢
        by_cases cx : x = -1
        · rw [if_pos cx] at hU ⊢
          rw [if_pos cx, q6]
          exact PtU.no qk rfl (by decide) ⟨by omega, by omega⟩ rfl (by dsimp only; rw [up_s])
        · rw [if_neg cx] at hU ⊢
          rw [if_neg cx, if_neg (by first | exact fun z => ff z | decide)]
          obtain ⟨u1, u2, u3, u4⟩ := hU rfl
          have hx : 0 ≤ x ∧ x < Y 84 10 := by rcases hfb with ⟨z, _⟩ | ⟨z, _⟩; exact absurd z cx; exact z
          obtain ⟨o, rfl⟩ : ∃ o : Nat, x = o := ⟨x.toNat, by omega⟩
          have exn : ((o : Int)).toNat = o := by omega
          have edn : ((d : Int)).toNat = d := by omega
          have h1016 := a1.2.1
          obtain ⟨s1, s2, s3, s4, s5⟩ := a6 o hx.2
          generalize hw : nxM q = w
          have wk : ∀ k, k ≠ 51 → w k = p k := fun k hk => by rw [← hw, nxM_r _ hk, qk k hk]
          have w51 : ∀ j, j ≠ 6 ∧ j ≠ 9 → w 51 j = p 51 j := fun j hj => by rw [← hw, nxM_j _ (Or.inr hj.1), q51 j hj]
          have w9 : w 51 9 = N (c + 1) := by rw [← hw, nxM_j _ (Or.inr (by decide)), q9]
          have w6 : w 51 6 = c + 3 := by rw [← hw, nxM_6, q6]; omega
          generalize hYY : incS 8 (incS 8 (incS 8 Y)) = Z at u1 u2 u3 u4 ⊢
          have Zk : ∀ k j, k ≠ 84 → Z k j = Y k j := fun k j hk => by rw [← hYY]; simp only [incS_k _ hk]
          dsimp only at u1 u2 u3 u4 ⊢
          have eX : afM w d o = up (up (up (up w (34 + d) o (p (34 + d) o + N (c + 1))) 51 11 (p 51 11 + i32 ((i32 (N (c + 1) * p 23 o)).tdiv 100))) 51 12 (p 51 12 + i32 ((i32 (N (c + 1) * p 24 o)).tdiv 100))) 51 10 (ior (p 51 10) (p 25 o)) := by
            unfold afM
            rw [exn, edn, wk (34 + d) (by omega), w9, w51 11 (by decide), w51 12 (by decide), w51 10 (by decide), wk 23 (by decide), wk 24 (by decide), wk 25 (by decide)]
          rw [eX]
          generalize hX : up (up (up (up w (34 + d) o (p (34 + d) o + N (c + 1))) 51 11 (p 51 11 + i32 ((i32 (N (c + 1) * p 23 o)).tdiv 100))) 51 12 (p 51 12 + i32 ((i32 (N (c + 1) * p 24 o)).tdiv 100))) 51 10 (ior (p 51 10) (p 25 o)) = X
          have Xk : ∀ k, k ≠ 51 ∧ k ≠ 34 + d → X k = p k := fun k hk => by rw [← hX, up_r _ _ _ hk.1, up_r _ _ _ hk.1, up_r _ _ _ hk.1, up_r _ _ _ hk.2, wk k hk.1]
          have X51 : ∀ j, j ≠ 10 ∧ j ≠ 11 ∧ j ≠ 12 → X 51 j = w 51 j := fun j hj => by rw [← hX, up_j _ _ hj.1, up_j _ _ hj.2.2, up_j _ _ hj.2.1, up_k _ _ (by omega)]
          refine ⟨Xk, Or.inl ⟨rfl, rfl, ?_, ?_, ?_, ?_, ?_⟩⟩
          · dsimp only; rw [X51 6 (by decide), w6]; omega
          · dsimp only; rw [X51 7 (by decide), w51 7 (by decide)]
          · dsimp only; rw [X51 8 (by decide), w51 8 (by decide)]
          · dsimp only; rw [ptF_k (by decide), ← hYY]; simp only [incS_j _ (show (4 : Nat) ≠ 8 by decide)]
          · dsimp only
            refine ⟨hR.fr2 hd (fun k hk => Xk k ⟨hk.2.2.1, hk.2.2.2.1⟩) (fun k hk j _ => by rw [Xk k (by omega)]) u2 (fun k hk => u1 k (by omega)) (fun k hk j hj => ?_) u4, ?_, ?_, ?_, ⟨?_, ?_, ?_⟩, fun f hf => ?_, fun f hf hg => ?_⟩
            · by_cases c94 : k = 94
              · subst c94; rw [u1 94 (by decide)]
              · exact u3 k (by omega) j hj
            · rw [Xk 26 (by omega), u1 94 (by decide)]; exact r26
            · rw [← hdn, ptF_95, hdn, Zk 95 d (by decide), exn, Zk 90 o (by decide), ← s1, ← hX, up_j _ _ (by decide), up_j _ _ (by decide), up_s, r11]
            · rw [← hdn, ptF_96, hdn, Zk 96 d (by decide), exn, Zk 91 o (by decide), ← s2, ← hX, up_j _ _ (by decide), up_s, r12]
            · rw [← hdn, ptF_97, hdn, Zk 97 d (by decide), exn, Zk 92 o (by decide), ← hX, up_s, r10, s3]
            · rw [← hdn, ptF_97, hdn, Zk 97 d (by decide), exn, Zk 92 o (by decide)]
              exact ior_nn r97i s5 r97 s4
            · rw [← hdn, ptF_97]; exact ior_inr _ _
            · have e16 : 16 * d + f = (16 * Y 84 15 + (f : Int)).toNat := by omega
              rw [e16, ptF_g a2.2.1.1 ⟨hx.1, by omega⟩ hf, ← e16, Zk 99 _ (by decide), ← hX, up_k _ _ (by omega), up_k _ _ (by omega), up_k _ _ (by omega), up_at, rg o (by omega), wk (34 + d) (by omega)]
              by_cases cf : f = o
              · rw [if_pos cf, if_pos (by omega), cf]
              · rw [if_neg cf, if_neg (by omega), rg f hf]
            · rw [u2 10 (by decide)] at hg
              have e16 : 16 * d + f = (16 * Y 84 15 + (f : Int)).toNat := by omega
              rw [e16, ptF_g a2.2.1.1 ⟨hx.1, by omega⟩ hf, if_neg (by omega), ← e16, Zk 99 _ (by decide), rz f hf hg]
    · rw [if_neg c2] at et
      rw [et, if_neg (by first | exact fun z => ff z | decide)]
      have ey : ptM K V N S (incS 8 Y) = (5, up (incS 8 Y) 84 4 (S (c + 1))) := by
        unfold ptM
        rw [e15, hdn, e98, if_neg (by omega), en8, if_neg c2]
      rw [ey]
      exact PtU.no (fun k hk => nxM_r _ hk) rfl (by decide) ⟨by omega, by omega⟩ rfl (by dsimp only; rw [up_s])
end S65
