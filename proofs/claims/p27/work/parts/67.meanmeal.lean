/-! the meaning, side by side: meals -/
section S67
variable {σ τ p Y : Sg} {e : Int} {K V N S : Int → Int}
/-- a name that is a dish, or a tag -/
theorem kn_e (h1 : NmR p Y 12 93 (Y 84 15) 16) (h2 : TgR p Y) (v : Int) : knR Y v = decide (¬ idxC p 12 v = -1 ∨ ¬ idxC p 16 v = -1) := by
  unfold knR
  rw [h1.idx, NmR.idx h2]
theorem eou_st : ∀ (n : Nat) (a t : Int), a ≤ t → t - a ≤ n → (∀ u, a ≤ u → u < t → insC p u = true) → insC p t = false → eouF p n a = t
  | 0, a, t, h0, h1, _, _ => by
    have : a = t := by omega
    exact this
  | n + 1, a, t, h0, h1, h2, h3 => by
    show (if insC p a = true then eouF p n (a + 1) else a) = t
    by_cases c : a = t
    · rw [c, h3, if_neg (by first | exact fun z => ff z | decide)]
    · rw [if_pos (h2 a (Int.le_refl _) (by omega))]
      exact eou_st n (a + 1) t (by omega) (by omega) (fun u u0 u1 => h2 u (by omega) u1) h3
theorem ins_e (hT : TC p e K V N S) (h1 : NmR p Y 12 93 (Y 84 15) 16) (h2 : TgR p Y) {t : Int} (ht : 0 ≤ t ∧ t ≤ e) : insC p t = decide ((K t = 22 ∧ knR Y (V t) = true) ∨ K t = 13 ∨ K t = 14 ∨ K t = 15 ∨ K t = 20 ∨ K t = 21) := by
  obtain ⟨k1, k2, -⟩ := hT.2 t ht.1 ht.2
  unfold insC
  rw [k1]
  refine decide_eq_decide.mpr ?_
  constructor
  · rintro (⟨z1, z2⟩ | z)
    · refine Or.inl ⟨z1, ?_⟩
      rw [k2 z1] at z2
      rw [kn_e h1 h2]; exact decide_eq_true z2
    · exact Or.inr z
  · rintro (⟨z1, z2⟩ | z)
    · refine Or.inl ⟨z1, ?_⟩
      rw [kn_e h1 h2] at z2
      rw [k2 z1]; exact of_decide_eq_true z2
    · exact Or.inr z
/-- a choice is of at most thirty tokens -/
theorem ChO_30 (hT : Tk τ e K V N S) {a c : Int} (ha : 0 ≤ a ∧ a ≤ e) (h : ChO K a c) : c ≤ a + 30 ∧ c ≤ e := by
  have hK : HK K K e := ⟨hT.e, hT.E, fun _ _ _ => rfl⟩
  have := Sm_E (K := K) (J := K) (e := e) (cf := a) ha.1 hK (Sm_one ha.1 hK 8) a (Int.le_refl _) (by omega) ha.2
  obtain ⟨b1, b2, b3, b4, b5, b6, b7, -⟩ := this
  have h2 := h.2
  rw [← b2] at h2
  omega
/-- where the class's look at names stops, and the reference's -/
theorem look_ok {a c : Int} (hTk : Tk Y e K V N S) (hT : TC p e K V N S) (h1 : NmR p Y 12 93 (Y 84 15) 16) (h2 : TgR p Y) (h8 : Y 84 8 = a) (h0 : 0 ≤ a) (hg : ChO K a c) (hc : K c = 19 ∨ K c = 17 ∨ K c = 25) :
    ((loM K V S Y).1 = 0 ∧ (loM K V S Y).2 84 8 = c ∧ eouC p a = c) ∨ ((loM K V S Y).1 = 2 ∧ a ≤ eouC p a ∧ eouC p a < c ∧ K (eouC p a) = 22 ∧ (loM K V S Y).2 84 4 = S (eouC p a)) := by
  obtain ⟨s1, s2⟩ := ChO_seg hg
  have hae : a ≤ e := by
    by_cases z : a ≤ e
    · exact z
    · have := ChO_lt hg
      have q := s2 a (Int.le_refl _) this
      rcases q with q | q | q | q | q | q <;> (have := hTk.in q (by decide); omega)
  obtain ⟨c30, ce⟩ := ChO_30 hTk ⟨h0, hae⟩ hg
  have he := hTk.e
  obtain ⟨l1, l2⟩ := lo_stop (V := V) (S := S) (K := K) (c := c) hc 1502 Y (by rw [h8]; exact s1) (fun t t0 t1 => s2 t (by rw [← h8]; exact t0) t1) (by rw [h8]; omega)
  have hins : ∀ t, a ≤ t → t < c → (K t = 22 → knR Y (V t) = true) → insC p t = true := by
    intro t t0 t1 hk
    rw [ins_e hT h1 h2 ⟨by omega, by omega⟩]
    refine decide_eq_true ?_
    rcases s2 t t0 t1 with q | q | q | q | q | q
    · exact Or.inr (Or.inl q)
    · exact Or.inr (Or.inr (Or.inl q))
    · exact Or.inr (Or.inr (Or.inr (Or.inl q)))
    · exact Or.inr (Or.inr (Or.inr (Or.inr (Or.inl q))))
    · exact Or.inr (Or.inr (Or.inr (Or.inr (Or.inr q))))
    · exact Or.inl ⟨q, hk q⟩
  have hres := loL_res (K := K) (V := V) (S := S) 1502 Y
  unfold loM
  rcases hres with r | r
  · left
    obtain ⟨q1, q2⟩ := l1 r
    rw [h8] at q2
    refine ⟨r, q1, ?_⟩
    unfold eouC
    refine eou_st 30 a c s1 (by omega) (fun u u0 u1 => hins u u0 u1 (q2 u u0 u1)) ?_
    rw [ins_e hT h1 h2 ⟨by omega, ce⟩]
    refine decide_eq_false ?_
    clear l1 l2 r q1 q2 hins s2
    rintro (⟨w, _⟩ | w | w | w | w | w) <;> omega
  · right
    obtain ⟨t, t0, t1, t2, t3, t4, t5⟩ := l2 (by rw [r]; decide)
    rw [h8] at t0 t4
    have et : eouC p a = t := by
      unfold eouC
      refine eou_st 30 a t t0 (by omega) (fun u u0 u1 => hins u u0 (by omega) (t4 u u0 u1)) ?_
      rw [ins_e hT h1 h2 ⟨by omega, by omega⟩]
      refine decide_eq_false ?_
      rintro (⟨_, w⟩ | w)
      · rw [t3] at w; exact ff w
      · omega
    rw [et]
    exact ⟨r, t0, t1, t2, t5⟩
/-- how a choice ends -/
def ChU (e : Int) (S : Int → Int) (m c : Int) (p Y : Sg) (x : Bool × Sg) (y : Int × Sg) : Prop :=
  FrM p x.2 ∧ ((x.1 = true ∧ y.1 = 0 ∧ x.2 51 6 = c ∧ x.2 51 7 = p 51 7 ∧ x.2 51 8 = p 51 8 ∧ y.2 84 4 = Y 84 4 ∧ RR x.2 (up y.2 84 23 m) ∧ (∀ j, j ≠ 8 ∧ j ≠ 25 → y.2 84 j = Y 84 j) ∧ y.2 100 = Y 100) ∨ (x.1 = false ∧ (1 ≤ y.1 ∧ y.1 ≤ 6) ∧ x.2 51 7 = y.1 ∧ (0 ≤ x.2 51 8 ∧ x.2 51 8 ≤ e) ∧ y.2 84 4 = S (x.2 51 8)))
theorem tc_ok {m a c : Int} (hI : IV e K V N S Y) (hT : TC p e K V N S) (hR : RR p (up Y 84 23 m)) (hm : Y 84 23 = m + 1) (h6 : p 51 6 = a) (h8 : Y 84 8 = a) (h0 : 0 ≤ a) (hg : ChO K a c) (hc : K c = 19 ∨ K c = 17) : ChU e S m c p Y (tcM p) (meC K V S Y) := by
  obtain ⟨hTk, hC, hD, hCI⟩ := id hI
  obtain ⟨a1, a2, a3, a4, a5, a6, a7, a8, a9, a10⟩ := id hR
  obtain ⟨hC1, hC2, hC3, hC4, hC5, hC6⟩ := id hC
  have hci : 0 ≤ c ∧ c < e := by rcases hc with z | z <;> exact hTk.in z (by decide)
  have hac := ChO_lt hg
  have e916 : p 9 16 = Y 84 25 := a5.2
  have e122 : p 12 2 = Y 84 15 := a2.1
  have e142 : p 14 2 = m := a3.1.trans (up_s _ _ _ _)
  unfold tcM meC
  rw [e916, i32_n (Y 84 25) (by omega)]
  by_cases c1 : Y 84 25 = 8
  · rw [if_pos (Or.inr (by omega)), if_pos c1, h6, h8]
    refine ⟨FrM.rf.fl, Or.inr ⟨rfl, by dsimp only; omega, ?_, ?_, ?_⟩⟩
    · dsimp only; rw [(flM_7 _ _ _).1]
    · dsimp only; rw [(flM_7 _ _ _).2]; exact ⟨h0, by omega⟩
    · dsimp only; rw [(flM_7 _ _ _).2]; exact up_s _ _ _ _
  · rw [if_neg (by omega), if_neg c1]
    obtain ⟨q, hq⟩ : ∃ q : Nat, (q : Int) = Y 84 25 := ⟨(Y 84 25).toNat, by omega⟩
    have hqn : (Y 84 25).toNat = q := by omega
    have e0 : tc0M p = up (up (up p 52 q a) 53 q (Y 84 15)) 32 q m := by
      unfold tc0M
      rw [e916, i32_n (Y 84 25) (by omega), hqn, h6, e122, e142]
    have z0F : FrM p (tc0M p) := by rw [e0]; exact ((FrM.rf.u (by decide)).u (by decide)).u (by decide)
    have z0T := z0F.tc hT
    have z0k : ∀ k, k ≠ 52 ∧ k ≠ 53 ∧ k ≠ 32 → tc0M p k = p k := fun k hk => by rw [e0, up_r _ _ _ hk.2.2, up_r _ _ _ hk.2.1, up_r _ _ _ hk.1]
    have m8 : meT Y 84 8 = a := (meT_j (by decide)).trans h8
    have mk : ∀ k, k ≠ 84 ∧ k ≠ 101 ∧ k ≠ 103 ∧ k ≠ 104 → meT Y k = Y k := fun k hk => by unfold meT; rw [incS_r _ hk.1, up_r _ _ _ hk.2.1, up_r _ _ _ hk.2.2.2, up_r _ _ _ hk.2.2.1]
    have n12 : NmR (tc0M p) (meT Y) 12 93 (meT Y 84 15) 16 := by
      rw [meT_j (by decide)]
      have a2 : NmR p (up Y 84 23 m) 12 93 (Y 84 15) 16 := a2
      exact a2.fr (by rw [z0k 12 (by decide)]) (by rw [z0k 12 (by decide)]) (fun j _ => by rw [z0k 13 (by decide)]) (fun j _ => by rw [mk 93 (by decide)]; exact (up_k _ _ (by decide)).symm)
    have n16 : TgR (tc0M p) (meT Y) := by
      unfold TgR
      rw [meT_j (by decide)]
      have a4 : NmR p (up Y 84 23 m) 16 110 (Y 84 36) 16 := a4
      exact a4.fr (by rw [z0k 16 (by decide)]) (by rw [z0k 16 (by decide)]) (fun j _ => by rw [z0k 17 (by decide)]) (fun j _ => by rw [mk 110 (by decide)]; exact (up_k _ _ (by decide)).symm)
    have hlook := look_ok (p := tc0M p) (Y := meT Y) hTk.meU z0T n12 n16 m8 h0 hg (by omega)
    have e1 : tc1M p = up (tc0M p) 51 6 (eouC (tc0M p) a) := by unfold tc1M; rw [h6]
    rw [e1]
    generalize ht : eouC (tc0M p) a = t at hlook ⊢
    have zF : FrM p (up (tc0M p) 51 6 t) := z0F.u (by decide)
    have zT := zF.tc hT
    have z6 : up (tc0M p) 51 6 t 51 6 = t := up_s _ _ _ _
    rw [z6]
    rcases hlook with ⟨l1, l2, l3⟩ | ⟨l1, l2, l3, l4, l5⟩
    · subst l3
      have hkt : KC (up (tc0M p) 51 6 t) t = K t := (zT.2 t hci.1 (by omega)).1
      rw [hkt, if_neg (by omega)]
      have w25 : up (tc0M p) 51 6 t 9 16 = q := by rw [up_k _ _ (by decide), z0k 9 (by decide), e916, hq]
      rw [w25]
      generalize hX : up (up (tc0M p) 51 6 t) 9 16 ((q : Int) + 1) = X
      have Xk : ∀ k, k ≠ 9 ∧ k ≠ 51 ∧ k ≠ 52 ∧ k ≠ 53 ∧ k ≠ 32 → X k = p k := fun k hk => by rw [← hX, up_r _ _ _ hk.1, up_r _ _ _ hk.2.1, z0k k hk.2.2]
      have X51 : ∀ j, j ≠ 6 → X 51 j = p 51 j := fun j hj => by rw [← hX, up_k _ _ (by decide), up_j _ _ hj, z0k 51 (by decide)]
      have X52 : ∀ j, X 52 j = if j = q then a else p 52 j := fun j => by rw [← hX, up_k _ _ (by decide), up_k _ _ (by decide), e0, up_k _ _ (by decide), up_k _ _ (by decide), up_at]
      have X53 : ∀ j, X 53 j = if j = q then Y 84 15 else p 53 j := fun j => by rw [← hX, up_k _ _ (by decide), up_k _ _ (by decide), e0, up_k _ _ (by decide), up_at, up_k _ _ (by decide)]
      have X32 : ∀ j, X 32 j = if j = q then m else p 32 j := fun j => by rw [← hX, up_k _ _ (by decide), up_k _ _ (by decide), e0, up_at, up_k _ _ (by decide), up_k _ _ (by decide)]
      have XF : FrM p X := fun k hk => Xk k (by omega)
      generalize hW : (loM K V S (meT Y)).2 = W at l2
      have W4 : (loM K V S (meT Y)).2 84 4 = Y 84 4 := by
        have : ∀ (n : Nat) (σ : Sg), (loL K V S n σ).1 = 0 → (loL K V S n σ).2 84 4 = σ 84 4 := by
          intro n
          induction n with
          | zero => intro σ _; rfl
          | succ n ih =>
            intro σ h
            simp only [loL] at h ⊢
            split
            · rfl
            · rename_i c
              rw [if_neg c] at h
              split
              · rename_i c2; rw [if_pos c2] at h; exact absurd (show (2 : Int) = 0 from h) (by decide)
              · rename_i c2
                rw [if_neg c2] at h
                exact (ih _ h).trans (incS_j _ (by decide))
        exact (this 1502 (meT Y) l1).trans (meT_j (by decide))
      rw [hW] at W4
      have Wj : ∀ j, j ≠ 4 ∧ j ≠ 8 ∧ j ≠ 25 → W 84 j = Y 84 j := fun j hj => by rw [← hW, loM_j ⟨hj.1, hj.2.1⟩, meT_j hj.2.2]
      have W25 : W 84 25 = (q : Int) + 1 := by rw [← hW, loM_j (by decide), meT_25, hq]
      have Wm : ∀ k, k ≠ 84 → W k = meT Y k := fun k hk => by rw [← hW]; exact loL_k hk _ _
      have Wk : ∀ k, k ≠ 84 ∧ k ≠ 101 ∧ k ≠ 103 ∧ k ≠ 104 → W k = Y k := fun k hk => by rw [Wm k hk.1, mk k hk]
      have W101 : ∀ j, W 101 j = if j = q then m else Y 101 j := fun j => by
        rw [Wm 101 (by decide)]; unfold meT
        rw [incS_k _ (by decide), up_at, hqn, hm, up_k _ _ (by decide), up_k _ _ (by decide), show m + 1 - 1 = m from by omega]
      have W103 : ∀ j, W 103 j = if j = q then a else Y 103 j := fun j => by
        rw [Wm 103 (by decide)]; unfold meT
        rw [incS_k _ (by decide), up_k _ _ (by decide), up_k _ _ (by decide), up_at, hqn, h8]
      have W104 : ∀ j, W 104 j = if j = q then Y 84 15 else Y 104 j := fun j => by
        rw [Wm 104 (by decide)]; unfold meT
        rw [incS_k _ (by decide), up_k _ _ (by decide), up_at, hqn, up_k _ _ (by decide)]
      have l1' : (loM K V S (meT Y)).1 = 0 := l1
      refine ⟨XF, Or.inl ⟨rfl, l1', ?_, X51 7 (by decide), X51 8 (by decide), ?_, ?_, ?_, ?_⟩⟩
      · dsimp only; rw [← hX, up_k _ _ (by decide), up_s]
      · rw [hW]; exact W4
      · rw [hW]
        dsimp only
        have U : ∀ j, j ≠ 4 ∧ j ≠ 8 ∧ j ≠ 25 → up W 84 23 m 84 j = up Y 84 23 m 84 j := fun j hj => by
          by_cases cj : j = 23
          · subst cj; rw [up_s, up_s]
          · rw [up_j _ _ cj, up_j _ _ cj]; exact Wj j hj
        have U25 : up W 84 23 m 84 25 = (q : Int) + 1 := (up_j _ _ (by decide)).trans W25
        have Uk : ∀ k, k ≠ 84 ∧ k ≠ 101 ∧ k ≠ 103 ∧ k ≠ 104 → up W 84 23 m k = up Y 84 23 m k := fun k hk => by rw [up_r _ _ _ hk.1, up_r _ _ _ hk.1]; exact Wk k hk
        unfold RR TgR
        rw [U25, U 10 (by decide), U 15 (by decide), U 23 (by decide), U 36 (by decide), U 30 (by decide)]
        have nf : ∀ {k ka : Nat} {n m2 : Int}, (10 ≤ k ∧ k < 22) → (ka ≠ 84 ∧ ka ≠ 101 ∧ ka ≠ 103 ∧ ka ≠ 104) → NmR p (up Y 84 23 m) k ka n m2 → NmR X (up W 84 23 m) k ka n m2 := fun {k ka n m2} hk hka g => g.fr (by rw [Xk k (by omega)]) (by rw [Xk k (by omega)]) (fun j _ => by rw [Xk (k + 1) (by omega)]) (fun j _ => by rw [Uk ka hka])
        refine ⟨nf (by decide) (by decide) a1, nf (by decide) (by decide) a2, nf (by decide) (by decide) a3, nf (by decide) (by decide) a4, ⟨by rw [Xk 18 (by decide)]; exact a5.1, by rw [← hX, up_s]⟩, fun j hj => ?_, fun j hj => ?_, fun j hj => ?_, fun r hr => ?_, fun j f hj hf hg => ?_⟩
        · exact (a6 j hj).fr (fun k hk => by rw [Xk k (by omega)]) (fun k hk => by rw [Uk k (by omega)])
        · have hb := a2.2.1
          exact (a7 j hj).fr (fun k hk => by rw [Xk k (by omega)]) (Xk _ (by omega)) (fun k hk => by rw [Uk k (by omega)]) (fun f _ => by rw [Uk 99 (by decide)])
        · by_cases cj : j = q
          · unfold ChR
            rw [X32, X52, X53, up_k _ _ (by decide), W101, up_k _ _ (by decide), W103, up_k _ _ (by decide), W104, if_pos cj, if_pos cj, if_pos cj, if_pos cj, if_pos cj, if_pos cj, U 15 (by decide), up_j _ _ (by decide)]
            exact ⟨rfl, rfl, rfl, ⟨hC2.1, Int.le_refl _⟩, h0⟩
          · refine (a8 j (by show (j : Int) < up Y 84 23 m 84 25; rw [up_j _ _ (by decide), ← hq]; omega)).fr (fun k hk => ?_) (fun k hk => ?_) (by rw [U 15 (by decide)]; exact Int.le_refl _)
            · rcases hk with rfl | rfl | rfl
              · rw [X32, if_neg cj]
              · rw [X52, if_neg cj]
              · rw [X53, if_neg cj]
            · rcases hk with rfl | rfl | rfl
              · rw [up_k _ _ (by decide), W101, if_neg cj, up_k _ _ (by decide)]
              · rw [up_k _ _ (by decide), W103, if_neg cj, up_k _ _ (by decide)]
              · rw [up_k _ _ (by decide), W104, if_neg cj, up_k _ _ (by decide)]
        · exact (a9 r hr).fr (fun k hk => by rw [Xk k (by omega)]) (fun k hk => by rw [Uk k (by omega)])
        · rw [Uk 99 (by decide)]; exact a10 j f hj hf hg
      · rw [hW]
        intro j hj
        by_cases c4 : j = 4
        · subst c4; exact W4
        · exact Wj j ⟨c4, hj⟩
      · rw [hW]; exact Wk 100 (by decide)
    · have hkt : KC (up (tc0M p) 51 6 t) t = 22 := (zT.2 t (by omega) (by omega)).1.trans l4
      rw [if_pos hkt]
      refine ⟨zF.fl, Or.inr ⟨rfl, by rw [l1]; decide, ?_, ?_, ?_⟩⟩
      · dsimp only; rw [(flM_7 _ _ _).1, l1]
      · dsimp only; rw [(flM_7 _ _ _).2]; omega
      · dsimp only; rw [(flM_7 _ _ _).2]; exact l5
theorem ChU.tr {m c : Int} {x : Bool × Sg} {y : Int × Sg} {z w : Sg} (h : ChU e S m c z w x y) (hz : FrM p z) (h7 : z 51 7 = p 51 7) (h8 : z 51 8 = p 51 8) (h4 : ∀ j, j ≠ 8 ∧ j ≠ 25 → w 84 j = Y 84 j) (h100 : w 100 = Y 100) : ChU e S m c p Y x y := by
  obtain ⟨a1, a2⟩ := h
  refine ⟨hz.tr a1, ?_⟩
  rcases a2 with ⟨b1, b2, b3, b4, b5, b6, b7, b8, b9⟩ | q
  · exact Or.inl ⟨b1, b2, b3, b4.trans h7, b5.trans h8, b6.trans (h4 4 (by decide)), b7, fun j hj => (b8 j hj).trans (h4 j hj), b9.trans h100⟩
  · exact Or.inr q
theorem ml_l {m b : Int} (hb : K b = 17) : ∀ (q n n2 : Nat) (p Y : Sg) (a : Int), q + 1 < n → q < n2 → IV e K V N S Y → TC p e K V N S → RR p (up Y 84 23 m) → Y 84 23 = m + 1 → p 51 6 = a → Y 84 8 = a → 0 ≤ a → ¬ K a = 17 → LsC K (ChO K) q (a + 1) b → ChU e S m b p Y (mlL n p) (meL K V S n2 Y) := by
  intro q
  induction q with
  | zero =>
    intro n n2 p Y a hn hn2 hI hT hR hm h6 h8 h0 ka hg
    obtain ⟨n, rfl⟩ : ∃ q, n = q + 1 + 1 := ⟨n - 2, by omega⟩
    obtain ⟨n2, rfl⟩ : ∃ q, n2 = q + 1 := ⟨n2 - 1, by omega⟩
    obtain ⟨g1, g2⟩ := hg
    have hbi := hI.1.in hb (by decide)
    have hab := ChO_lt g1
    have hkc : KC p (p 51 6) = K a := by rw [h6]; exact (hT.2 a h0 (by omega)).1
    have ex : mlL (n + 1 + 1) p = if (tcM (nxM p)).1 = true then mlL (n + 1) (tcM (nxM p)).2 else (false, (tcM (nxM p)).2) := by
      show (if ¬ KC p (p 51 6) = 17 then _ else _) = _
      rw [hkc, if_pos ka]
    have hu := tc_ok (p := nxM p) (Y := incS 8 Y) (m := m) (a := a + 1) (c := b) hI.i8 hT.nx (hR.fr (fun k hk => nxM_r _ hk.2.2) (fun j hj => by
      by_cases c : j = 23
      · subst c; rw [up_s, up_s]
      · rw [up_j _ _ c, up_j _ _ c, incS_j _ hj.2]) (fun k hk => by rw [up_r _ _ _ (by omega), up_r _ _ _ (by omega), incS_r _ (by omega)])) ((incS_j _ (by decide)).trans hm) (by rw [nxM_6, h6]) (by rw [incS_s, h8]) (by omega) g1 (Or.inr hb)
    rw [ex]
    simp only [meL]
    refine ChU.tr (z := nxM p) (w := incS 8 Y) ?_ FrM.rf.nx (nxM_j _ (Or.inr (by decide))) (nxM_j _ (Or.inr (by decide))) (fun j hj => incS_j _ hj.1) (incS_r _ (by decide))
    obtain ⟨u1, u2⟩ := hu
    rcases u2 with ⟨b1, b2, b3, b4, b5, b6, b7, b8, b9⟩ | ⟨b1, b2, b3, b4, b5⟩
    · have hTX := u1.tc hT.nx
      have i2 := (meC_inv hI.i8 (c := b) (by rw [incS_s]; omega) (by rw [incS_s, h8]; exact g1) (Or.inr hb) b2).2.1
      rw [if_pos b1, if_pos b2, if_neg (by rw [i2]; exact g2)]
      generalize (tcM (nxM p)).2 = X at u1 b3 b4 b5 b7 hTX ⊢
      have hkb : KC X (X 51 6) = 17 := by rw [b3, (hTX.2 b hbi.1 (by omega)).1]; exact hb
      have ez : mlL (n + 1) X = (true, X) := by
        show (if ¬ KC X (X 51 6) = 17 then _ else _) = _
        rw [if_neg (fun w => w hkb)]
      rw [ez]
      exact ⟨u1, Or.inl ⟨rfl, rfl, b3, b4, b5, b6, b7, b8, b9⟩⟩
    · rw [if_neg (by rw [b1]; decide), if_neg (by omega)]
      exact ⟨u1, Or.inr ⟨rfl, b2, b3, b4, b5⟩⟩
  | succ q ih =>
    intro n n2 p Y a hn hn2 hI hT hR hm h6 h8 h0 ka hg
    obtain ⟨n, rfl⟩ : ∃ q, n = q + 1 := ⟨n - 1, by omega⟩
    obtain ⟨n2, rfl⟩ : ∃ q, n2 = q + 1 := ⟨n2 - 1, by omega⟩
    obtain ⟨c, g1, g2, g3⟩ := hg
    have hci := hI.1.in g2 (by decide)
    have hac := ChO_lt g1
    have hkc : KC p (p 51 6) = K a := by rw [h6]; exact (hT.2 a h0 (by omega)).1
    have ex : mlL (n + 1) p = if (tcM (nxM p)).1 = true then mlL n (tcM (nxM p)).2 else (false, (tcM (nxM p)).2) := by
      show (if ¬ KC p (p 51 6) = 17 then _ else _) = _
      rw [hkc, if_pos ka]
    have hu := tc_ok (p := nxM p) (Y := incS 8 Y) (m := m) (a := a + 1) (c := c) hI.i8 hT.nx (hR.fr (fun k hk => nxM_r _ hk.2.2) (fun j hj => by
      by_cases c : j = 23
      · subst c; rw [up_s, up_s]
      · rw [up_j _ _ c, up_j _ _ c, incS_j _ hj.2]) (fun k hk => by rw [up_r _ _ _ (by omega), up_r _ _ _ (by omega), incS_r _ (by omega)])) ((incS_j _ (by decide)).trans hm) (by rw [nxM_6, h6]) (by rw [incS_s, h8]) (by omega) g1 (Or.inl g2)
    rw [ex]
    simp only [meL]
    refine ChU.tr (z := nxM p) (w := incS 8 Y) ?_ FrM.rf.nx (nxM_j _ (Or.inr (by decide))) (nxM_j _ (Or.inr (by decide))) (fun j hj => incS_j _ hj.1) (incS_r _ (by decide))
    obtain ⟨u1, u2⟩ := hu
    rcases u2 with ⟨b1, b2, b3, b4, b5, b6, b7, b8, b9⟩ | ⟨b1, b2, b3, b4, b5⟩
    · have hTX := u1.tc hT.nx
      obtain ⟨i1, i2, -⟩ := meC_inv hI.i8 (c := c) (by rw [incS_s]; omega) (by rw [incS_s, h8]; exact g1) (Or.inl g2) b2
      rw [if_pos b1, if_pos b2, if_pos (by rw [i2]; exact g2)]
      generalize (tcM (nxM p)).2 = X at u1 b3 b4 b5 b7 hTX ⊢
      generalize (meC K V S (incS 8 Y)).2 = W at i1 i2 b6 b7 b8 b9 ⊢
      exact (ih n n2 X W c (by omega) (by omega) i1 hTX b7 (by rw [b8 23 (by decide), incS_j _ (by decide)]; exact hm) b3 i2 hci.1 (by rw [g2]; decide) g3).tr u1 b4 b5 b8 b9
    · rw [if_neg (by rw [b1]; decide), if_neg (by omega)]
      exact ⟨u1, Or.inr ⟨rfl, b2, b3, b4, b5⟩⟩
theorem me_ok {a b : Int} (hI : IV e K V N S τ) (hT : TC σ e K V N S) (hR : RR σ τ) (h0 : 0 ≤ a) (hg : MlO K (a + 1) b) (h6 : σ 51 6 = a) (h8 : τ 84 8 = a + 1) : OU e S b σ τ (mlM σ) (meM K V S a τ) := by
  obtain ⟨g1, g2, q, g3, gb⟩ := hg
  obtain ⟨hTk, hC, hD, hCI⟩ := id hI
  have hbi := hTk.in gb (by decide)
  have i1 := hTk.in g1 (by decide)
  have i2 := hTk.in g2 (by decide)
  have hlt := LsCh_lt q _ g3
  have he := hTk.e
  obtain ⟨a1, a2, a3, a4, a5, a6, a7, a8, a9, a10⟩ := id hR
  have hn := a3.2.1
  unfold mlM meM
  rw [a3.full, h8, h6]
  by_cases c1 : τ 84 23 = 4
  · rw [if_pos (decide_eq_true (by omega)), if_pos c1]
    exact OU.no FrM.rf rfl (by decide) ⟨h0, by omega⟩ rfl (by dsimp only; rw [up_s])
  · rw [if_neg (fun z => by have := of_decide_eq_true z; omega), if_neg c1]
    have e1 : nnM (nxM σ) = if tknR τ (V (a + 1)) = true then (false, flM (nxM σ) 3 (a + 1)) else (true, nxM (nxM σ)) := 
      nn_e hT.nx (a1.fr (nxM_j σ (Or.inl (by decide))) (nxM_j σ (Or.inl (by decide))) (fun j _ => nxM_j σ (Or.inl (by decide))) (fun _ _ => rfl)) (a2.fr (nxM_j σ (Or.inl (by decide))) (nxM_j σ (Or.inl (by decide))) (fun j _ => nxM_j σ (Or.inl (by decide))) (fun _ _ => rfl)) (a3.fr (nxM_j σ (Or.inl (by decide))) (nxM_j σ (Or.inl (by decide))) (fun j _ => nxM_j σ (Or.inl (by decide))) (fun _ _ => rfl)) ⟨by omega, by omega⟩ g1 (by rw [nxM_6, h6])
    by_cases c2 : tknR τ (V (a + 1)) = true
    · rw [if_pos c2] at e1
      rw [if_pos c2, e1, if_neg (by first | exact fun z => ff z | decide)]
      exact OU.no FrM.rf.nx rfl (by decide) ⟨by omega, by omega⟩ rfl (by dsimp only; rw [up_s])
    · rw [if_neg c2] at e1
      have hv := (tkn_no c2).2.2
      rw [if_neg c2, e1, if_pos rfl]
      dsimp only
      have hvn : VC σ (a + 1) = V (a + 1) := (hT.2 (a + 1) (by omega) (by omega)).2.1 g1
      rw [hvn]
      obtain ⟨m, hm⟩ : ∃ m : Nat, (m : Int) = τ 84 23 := ⟨(τ 84 23).toNat, by omega⟩
      have hmn : (τ 84 23).toNat = m := by omega
      rw [hmn]
      generalize hY : incS 8 (incS 23 (up τ 100 m (V (a + 1)))) = Y
      have Y8 : Y 84 8 = a + 2 := by rw [← hY, incS_s, incS_j _ (by decide), up_k _ _ (by decide), h8]; omega
      have Y23 : Y 84 23 = (m : Int) + 1 := by rw [← hY, incS_j _ (by decide), incS_s, up_k _ _ (by decide), hm]
      have Yj : ∀ j, j ≠ 8 ∧ j ≠ 23 → Y 84 j = τ 84 j := fun j hj => by rw [← hY, incS_j _ hj.1, incS_j _ hj.2, up_k _ _ (by decide)]
      have Yk : ∀ k, k ≠ 84 ∧ k ≠ 100 → Y k = τ k := fun k hk => by rw [← hY, incS_r _ hk.1, incS_r _ hk.1, up_r _ _ _ hk.2]
      have Y100 : ∀ j : Nat, Y 100 j = if j = m then V (a + 1) else τ 100 j := fun j => by rw [← hY, incS_k _ (by decide), incS_k _ (by decide), up_at]
      have hIY : IV e K V N S Y := by
        obtain ⟨hC1, hC2, hC3, hC4, hC5, hC6⟩ := hC
        rw [← hY]
        refine ⟨Tk.i (by decide) (Tk.i (by decide) (Tk.x (by decide) hTk)), ?_, ?_, ?_⟩
        · unfold Cn
          rw [hY, Yj 10 (by decide), Yj 15 (by decide), Y23, Yj 25 (by decide), Yj 30 (by decide), Yj 36 (by decide)]
          exact ⟨hC1, hC2, ⟨by omega, by omega⟩, hC4, hC5, hC6⟩
        · rw [hY]
          exact hD.cg (Yj 10 (by decide)) (Yj 15 (by decide)) (fun j _ => ⟨congrFun (Yk 94 (by decide)) j, congrFun (Yk 95 (by decide)) j, congrFun (Yk 96 (by decide)) j, fun f _ => congrFun (Yk 99 (by decide)) _⟩) (Yk 90 (by decide)) (Yk 91 (by decide))
        · rw [hY]
          exact hCI.cg (Yj 25 (by decide)) (Yk 103 (by decide)) (Yk 104 (by decide))
      -- the rows, at the old number of meals
      have hRY : RR (nxM (nxM σ)) (up Y 84 23 m) := by
        have U : ∀ j, j ≠ 8 ∧ j ≠ 23 → up Y 84 23 (m : Int) 84 j = τ 84 j := fun j hj => by rw [up_j _ _ hj.2]; exact Yj j hj
        have Uk : ∀ k, k ≠ 84 ∧ k ≠ 100 → up Y 84 23 (m : Int) k = τ k := fun k hk => by rw [up_r _ _ _ hk.1]; exact Yk k hk
        have nk : ∀ k, k ≠ 51 → nxM (nxM σ) k = σ k := fun k hk => by rw [nxM_r _ hk, nxM_r _ hk]
        unfold RR TgR
        rw [U 10 (by decide), U 15 (by decide), up_s, U 36 (by decide), U 30 (by decide), U 25 (by decide), nk 18 (by decide), nk 9 (by decide)]
        have nf : ∀ {k ka : Nat} {n m2 : Int}, (9 ≤ k ∧ k < 22) → (ka ≠ 84 ∧ ka ≠ 100) → NmR σ τ k ka n m2 → NmR (nxM (nxM σ)) (up Y 84 23 (m : Int)) k ka n m2 := fun {k ka n m2} hk hka g => g.fr (by rw [nk k (by omega)]) (by rw [nk k (by omega)]) (fun j _ => by rw [nk (k + 1) (by omega)]) (fun j _ => by rw [Uk ka hka])
        rw [← hm] at a3
        refine ⟨nf (by decide) (by decide) a1, nf (by decide) (by decide) a2, a3.fr (by rw [nk 14 (by decide)]) (by rw [nk 14 (by decide)]) (fun j _ => by rw [nk 15 (by decide)]) (fun j hj => by rw [up_k _ _ (by decide), Y100, if_neg (by omega)]), nf (by decide) (by decide) a4, a5, fun j hj => ?_, fun j hj => ?_, fun j hj => ?_, fun r hr => ?_, fun j f hj hf hg => ?_⟩
        · exact (a6 j hj).fr (fun k hk => by rw [nk k (by omega)]) (fun k hk => by rw [Uk k (by omega)])
        · have hb := a2.2.1
          exact (a7 j hj).fr (fun k hk => by rw [nk k (by omega)]) (nk _ (by omega)) (fun k hk => by rw [Uk k (by omega)]) (fun f _ => by rw [Uk 99 (by decide)])
        · exact (a8 j hj).fr (fun k hk => by rw [nk k (by omega)]) (fun k hk => by rw [Uk k (by omega)]) (by rw [U 15 (by decide)]; exact Int.le_refl _)
        · exact (a9 r hr).fr (fun k hk => by rw [nk k (by omega)]) (fun k hk => by rw [Uk k (by omega)])
        · rw [Uk 99 (by decide)]; exact a10 j f hj hf hg
      have hl := ml_l (m := m) (b := b) gb q 1500 1502 (nxM (nxM σ)) Y (a + 2) (by omega) (by omega) hIY hT.nx.nx hRY Y23 (by rw [nxM_6, nxM_6, h6]; omega) Y8 (by omega) (by rw [show a + 2 = a + 1 + 1 from by omega, g2]; decide) (by rw [show a + 2 + 1 = a + 1 + 2 from by omega]; exact g3)
      generalize mlL 1500 (nxM (nxM σ)) = x at hl ⊢
      generalize meL K V S 1502 Y = y at hl ⊢
      obtain ⟨u1, u2⟩ := hl
      have uF : FrM σ x.2 := FrM.rf.nx.nx.tr u1
      unfold mlE
      rcases u2 with ⟨b1, b2, b3, b4, b5, b6, b7, b8, b9⟩ | ⟨b1, b2, b3, b4, b5⟩
      · rw [if_pos b1]
        have r3 : NmR x.2 (up y.2 84 23 (m : Int)) 14 100 (m : Int) 4 := by
          have := b7.2.2.1
          rw [up_s] at this
          exact this
        have w14 : x.2 14 2 = m := r3.1
        rw [addC_e w14 ⟨by omega, by omega⟩]
        have emn : ((m : Int)).toNat = m := by omega
        rw [emn]
        generalize hX : nxM (up (up x.2 15 m (V (a + 1))) 14 2 ((m : Int) + 1)) = X
        have Xk : ∀ k, k ≠ 14 ∧ k ≠ 15 ∧ k ≠ 51 → X k = x.2 k := fun k hk => by rw [← hX, nxM_r _ hk.2.2, up_r _ _ _ hk.1, up_r _ _ _ hk.2.1]
        have X51 : ∀ j, j ≠ 6 → X 51 j = x.2 51 j := fun j hj => by rw [← hX, nxM_j _ (Or.inr hj), up_k _ _ (by decide), up_k _ _ (by decide)]
        have X15 : ∀ j, X 15 j = if j = m then V (a + 1) else x.2 15 j := fun j => by rw [← hX, nxM_j _ (Or.inl (by decide)), up_k _ _ (by decide), up_at]
        have y23 : y.2 84 23 = (m : Int) + 1 := by rw [b8 23 (by decide)]; exact Y23
        refine ⟨fun k hk => (Xk k (by omega)).trans (uF k hk), Or.inl ⟨rfl, b2, ?_, ?_, ?_, ?_, ?_⟩⟩
        · dsimp only; rw [← hX, nxM_6, up_k _ _ (by decide), up_k _ _ (by decide), b3]
        · dsimp only; rw [X51 7 (by decide), b4, nxM_j _ (Or.inr (by decide)), nxM_j _ (Or.inr (by decide))]
        · dsimp only; rw [X51 8 (by decide), b5, nxM_j _ (Or.inr (by decide)), nxM_j _ (Or.inr (by decide))]
        · rw [b6]; exact Yj 4 (by decide)
        · dsimp only
          obtain ⟨d1, d2, d3, d4, d5, d6, d7, d8, d9, d10⟩ := b7
          have U : ∀ j, j ≠ 23 → up y.2 84 23 (m : Int) 84 j = y.2 84 j := fun j hj => up_j _ _ hj
          have Uk : ∀ k, k ≠ 84 → up y.2 84 23 (m : Int) k = y.2 k := fun k hk => up_r _ _ _ hk
          unfold TgR at d4
          rw [U 10 (by decide)] at d1 d6 d10
          rw [U 15 (by decide)] at d2 d7 d10
          rw [U 36 (by decide)] at d4
          rw [U 30 (by decide)] at d5 d9
          rw [U 25 (by decide)] at d5 d8
          unfold RR TgR
          rw [y23]
          have nf : ∀ {k ka : Nat} {n m2 : Int}, (k ≠ 14 ∧ k ≠ 15 ∧ k ≠ 51 ∧ k + 1 ≠ 14 ∧ k + 1 ≠ 15 ∧ k + 1 ≠ 51) → ka ≠ 84 → NmR x.2 (up y.2 84 23 (m : Int)) k ka n m2 → NmR X y.2 k ka n m2 := fun {k ka n m2} hk hka g => g.fr (by rw [Xk k (by omega)]) (by rw [Xk k (by omega)]) (fun j _ => by rw [Xk (k + 1) (by omega)]) (fun j _ => by rw [Uk ka hka])
          have v100 : ∀ j : Nat, y.2 100 j = if j = m then V (a + 1) else τ 100 j := fun j => by rw [b9]; exact Y100 j
          refine ⟨nf (by decide) (by decide) d1, nf (by decide) (by decide) d2, r3.add (v := V (a + 1)) (by omega) ?_ ?_ ?_ (fun j hj => ?_) (fun j hj => ?_) ?_ ?_, nf (by decide) (by decide) d4, ⟨by rw [Xk 18 (by decide)]; exact d5.1, by rw [Xk 9 (by decide)]; exact d5.2⟩, fun j hj => ?_, fun j hj => ?_, fun j hj => ?_, fun r hr => ?_, fun j f hj hf hg => ?_⟩
          · rcases fn_spec (τ := up y.2 84 23 (m : Int)) (ka := 100) (m := (m : Int)) (v := V (a + 1)) ⟨by omega, by omega⟩ with ⟨z, _⟩ | ⟨z1, z2⟩
            · exact z
            · rw [← hm] at hv
              rcases fn_spec (τ := τ) (ka := 100) (m := (m : Int)) (v := V (a + 1)) ⟨by omega, by omega⟩ with ⟨_, w⟩ | ⟨w, _⟩
              · rw [up_k _ _ (by decide), v100, if_neg (by omega)] at z2
                exact absurd z2 (w _ (by omega))
              · omega
          · rw [← hX, nxM_j _ (Or.inl (by decide)), up_j _ _ (by decide), up_k _ _ (by decide)]
          · rw [← hX, nxM_j _ (Or.inl (by decide)), up_s]
          · rw [X15, if_neg (by omega)]
          · rw [Uk 100 (by decide)]
          · rw [emn, X15, if_pos rfl]
          · rw [emn, v100, if_pos rfl]
          · exact (d6 j hj).fr (fun k hk => by rw [Xk k (by omega)]) (fun k hk => by rw [Uk k (by omega)])
          · have hb := d2.2.1
            exact (d7 j hj).fr (fun k hk => by rw [Xk k (by omega)]) (Xk _ (by omega)) (fun k hk => by rw [Uk k (by omega)]) (fun f _ => by rw [Uk 99 (by decide)])
          · exact (d8 j hj).fr (fun k hk => by rw [Xk k (by omega)]) (fun k hk => by rw [Uk k (by omega)]) (by rw [U 15 (by decide)]; exact Int.le_refl _)
          · exact (d9 r hr).fr (fun k hk => by rw [Xk k (by omega)]) (fun k hk => by rw [Uk k (by omega)])
          · have := d10 j f hj hf hg
            rw [Uk 99 (by decide)] at this
            exact this
      · rw [if_neg (by rw [b1]; decide)]
        exact ⟨uF, Or.inr ⟨rfl, b2, b3, b4, b5⟩⟩
end S67
