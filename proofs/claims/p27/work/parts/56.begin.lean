/-! a menu begun; what is asked of the tallies -/
section S56
variable {σ τ : Sg}
theorem sim_loop {α β : Type} {c : Int → α → Bool} {g : Int → α → α} {h : Int → β → β} {N : Int} (P : Int → α → β → Prop) (hs : ∀ i a b, 0 ≤ i → i < N → P i a b → P (i + 1) (g i a) (h i b)) (hc : ∀ i a b, 0 ≤ i → P i a b → c i a = decide (i < N)) : ∀ (n m : Nat) (i : Int) (a : α) (b : β), 0 ≤ i → i ≤ N → N ≤ i + n → N ≤ i + m → P i a b → P N (fG c g n i a) (fW N h m i b)
  | 0, m, i, a, b, h0, h1, h2, h3, hp => by
    have e : i = N := by omega
    subst e
    cases m with
    | zero => exact hp
    | succ m => rw [fW_s, if_neg (by omega)]; exact hp
  | n + 1, m, i, a, b, h0, h1, h2, h3, hp => by
    rw [fG_s, hc i a b h0 hp]
    by_cases c1 : i < N
    · obtain ⟨m, rfl⟩ : ∃ q, m = q + 1 := ⟨m - 1, by omega⟩
      rw [if_pos (decide_eq_true c1), fW_s, if_pos c1]
      exact sim_loop P hs hc n m (i + 1) _ _ (by omega) (by omega) (by omega) (by omega) (hs i a b h0 c1 hp)
    · rw [if_neg (by rw [decide_eq_false c1]; decide)]
      have e : i = N := by omega
      subst e
      cases m with
      | zero => exact hp
      | succ m => rw [fW_s, if_neg (by omega)]; exact hp
/-- a loop that ends at its bound, by an invariant -/
theorem fW_to {α : Type} {N : Int} {g : Int → α → α} (P : Int → α → Prop) (hs : ∀ i a, 0 ≤ i → i < N → P i a → P (i + 1) (g i a)) : ∀ (n : Nat) (i : Int) (a : α), 0 ≤ i → i ≤ N → N ≤ i + n → P i a → P N (fW N g n i a)
  | 0, i, a, h0, h1, h2, hp => by
    have e : i = N := by omega
    subst e; exact hp
  | n + 1, i, a, h0, h1, h2, hp => by
    rw [fW_s]
    by_cases c : i < N
    · rw [if_pos c]; exact fW_to P hs n (i + 1) _ (by omega) (by omega) (by omega) (hs i a h0 c hp)
    · have e : i = N := by omega
      subst e
      rw [if_neg c]; exact hp
theorem af_e (hP : PI τ) (h1 : RP σ τ) (h2 : RM σ τ) : afC σ = afV τ := by
  have hR := hP.1.2.2.2.2.1
  unfold afC
  rw [h1.1.2.2.2.2.1, i32_n _ (by omega), show min (τ 84 30) 8 = τ 84 30 from by omega, h2.2.2.1, afV_e hP]
  rw [fW_sm0 (n := 8) (h := ruV τ) (fun i a i0 i1 => by
    have := h2.2.2.2.2.2.2 i.toNat (by omega)
    rw [show ((i.toNat : Nat) : Int) = i from by omega] at this
    rw [← this]) hR.1 (by omega)]
theorem ft_e (hP : PI τ) (h1 : RP σ τ) (h2 : RM σ τ) : ftC σ = hfV τ := by
  have hR := hP.1.2.2.2.2.1
  unfold ftC
  rw [h1.1.2.2.2.2.1, i32_n _ (by omega), show min (τ 84 30) 8 = τ 84 30 from by omega, hfV_e hP]
  rw [fW_sm0 (n := 8) (a := 0) (h := hfH τ) (fun i a i0 i1 => by
    have e := h2.2.2.2.2.2.2 i.toNat (by omega)
    have e2 := (h1.2.2.2.2.2 i.toNat (by omega)).1
    have e3 := (hP.2.2.1 i.toNat (by omega)).1
    rw [show ((i.toNat : Nat) : Int) = i from by omega] at e
    unfold ftG hfH
    rw [e2, i32_n _ (by omega), e]
    split <;> omega) hR.1 (by omega)]
  exact Int.zero_add _
theorem suit_e (hP : PI τ) (h1 : RP σ τ) {c x : Int} (hc : 0 ≤ c ∧ c < τ 84 25) (hx : 0 ≤ x ∧ x < τ 84 15) : suitC σ c x = decide (¬ iand (ishr (τ 102 c.toNat) x) 1 = 0) := by
  have hN := hP.1.2.1
  have hC := hP.1.2.2.2.1
  unfold suitC
  have a1 : hasCh σ c = true := by
    unfold hasCh
    rw [h1.1.2.2.2.2.2, i32_n c (by omega), i32_n (τ 84 25) (by omega)]
    exact decide_eq_true (by omega)
  have a2 : hasC σ 12 x = true := by rw [hasC_y h1.1.2.1 hN ⟨by omega, hx.2⟩]; exact decide_eq_true (by omega)
  have e := (h1.2.2.2.2.1 c.toNat (by omega)).2
  rw [i32_n c (by omega), e, iand_i32]
  rcases iand1 (ishr (τ 102 c.toNat) x) with h | h
  · rw [decide_eq_false (fun z => by have := z.2.2; omega), decide_eq_false (fun z => z h)]
  · rw [decide_eq_true ⟨a1, a2, h⟩, decide_eq_true (by omega)]
theorem dOn_e (hP : PI τ) (h1 : RP σ τ) (h2 : RM σ τ) {d c : Int} (hd : 0 ≤ d ∧ d < τ 84 39) (hc : 0 ≤ c ∧ c < τ 84 25) : dOn σ d c = dA τ d c := by
  have hC := hP.1.2.2.2.1
  have hD := hP.2.2.2.1
  unfold dOn
  rw [if_pos (hasPl_y h2.1 h1.1.2.2.2.2.2 hD hC hd hc), i32_n d (by omega), i32_n c (by omega), h2.2.1 d.toNat c.toNat (by omega) (by omega)]
  rw [show ((d.toNat : Nat) : Int) = d from by omega, show ((c.toNat : Nat) : Int) = c from by omega]
/-! a menu without dishes -/
theorem cnt_none {s d : Int} (h : ∀ c : Int, 0 ≤ c → c < τ 84 25 → dA τ d c = -1) : cnt τ s d = 0 := by
  unfold cnt
  exact sm_zero _ (fun j h0 h1 => by rw [isB_bt, h j h0 (by omega)]; rfl)
theorem su_none (hP : PI τ) {d : Int} {p : Bool} (h : ∀ c : Int, 0 ≤ c → c < τ 84 25 → dA τ d c = -1) : suV2 τ d p = 0 := by
  rw [suV2_e hP]
  exact sm_zero _ (fun j h0 h1 => by unfold suH; rw [if_pos (h j h0 (by omega))])
theorem sm_const (k : Int) : ∀ n : Nat, sm (fun _ => k) n = n * k
  | 0 => by simp [sm]
  | n + 1 => by rw [sm_s, sm_const k n, Int.natCast_add, Int.add_mul]; simp
theorem gap_none (hP : PI τ) (h : ∀ d c : Int, 0 ≤ d → d < τ 84 39 → 0 ≤ c → c < τ 84 25 → dA τ d c = -1) : gapV τ = τ 84 39 * τ 84 25 := by
  have hC := hP.1.2.2.2.1
  have hD := hP.2.2.2.1
  rw [gapV_e hP]
  rw [sm_ext (g := fun _ => τ 84 25) _ (fun d d0 d1 => by
    rw [sm_ext (g := fun _ => 1) _ (fun c c0 c1 => by unfold gpH; rw [if_pos (h d c d0 (by omega) c0 (by omega))]), sm_const]; omega)]
  rw [sm_const, show (((τ 84 39).toNat : Nat) : Int) = τ 84 39 from by omega]
theorem ti_none (hP : PI τ) {x : Int} (hx : 0 ≤ x) (h : ∀ d c : Int, 0 ≤ d → d < τ 84 39 → 0 ≤ c → c < τ 84 25 → dA τ d c = -1) : tiV τ x = 0 := by
  rw [tiV_e hP]
  exact sm_zero _ (fun d d0 d1 => sm_zero _ (fun c c0 c1 => by unfold tiH; rw [h d c d0 (by omega) c0 (by omega), if_neg (by omega)]))
def BgJ (σ : Sg) (i : Int) (a : Sg) : Prop :=
  (∀ k, ¬ (k = 58 ∨ (61 ≤ k ∧ k < 83)) → a k = σ k) ∧ (∀ d : Nat, (d : Int) < i → a 58 d = 0 ∧ (∀ c : Nat, c < 8 → a (61 + d) c = -1) ∧ ∀ r : Nat, r < 8 → a (75 + r) d = 0)
theorem bg3_ok {a : Sg} {i : Int} (hi : 0 ≤ i ∧ i < 14) (J : BgJ σ i a) : BgJ σ (i + 1) (bg3 i a) := by
  have k1 : ∀ (b : Sg), (∀ k, k ≠ 61 + i.toNat → fW 8 (bg1 i) 8 0 b k = b k) ∧ ∀ c : Nat, c < 8 → fW 8 (bg1 i) 8 0 b (61 + i.toNat) c = -1 := by
    intro b
    have := fW_to (N := 8) (g := bg1 i) (fun (j : Int) (s : Sg) => (∀ k, k ≠ 61 + i.toNat → s k = b k) ∧ ∀ c : Nat, (c : Int) < j → s (61 + i.toNat) c = -1) (fun j s j0 j1 hp => ⟨fun k hk => by show up s (61 + i.toNat) j.toNat (-1) k = _; rw [up_r _ _ _ hk]; exact hp.1 k hk, fun c hc => by
      show up s (61 + i.toNat) j.toNat (-1) (61 + i.toNat) c = -1
      rw [up_at]
      by_cases z : c = j.toNat
      · rw [if_pos z]
      · rw [if_neg z]; exact hp.2 c (by omega)⟩) 8 0 b (Int.le_refl _) (by omega) (by omega) ⟨fun _ _ => rfl, fun c hc => by omega⟩
    exact ⟨this.1, fun c hc => this.2 c (by omega)⟩
  have k2 : ∀ (b : Sg), (∀ k, ¬ (75 ≤ k ∧ k < 83) → fW 8 (bg2 i) 8 0 b k = b k) ∧ (∀ r d : Nat, r < 8 → d ≠ i.toNat → fW 8 (bg2 i) 8 0 b (75 + r) d = b (75 + r) d) ∧ ∀ r : Nat, r < 8 → fW 8 (bg2 i) 8 0 b (75 + r) i.toNat = 0 := by
    intro b
    have := fW_to (N := 8) (g := bg2 i) (fun (j : Int) (s : Sg) => (∀ k, ¬ (75 ≤ k ∧ k < 83) → s k = b k) ∧ (∀ r d : Nat, r < 8 → d ≠ i.toNat → s (75 + r) d = b (75 + r) d) ∧ ∀ r : Nat, (r : Int) < j → s (75 + r) i.toNat = 0) (fun j s j0 j1 hp => ⟨fun k hk => by show up s (75 + j.toNat) i.toNat 0 k = _; rw [up_r _ _ _ (by omega)]; exact hp.1 k hk, fun r d hr hd => by show up s (75 + j.toNat) i.toNat 0 (75 + r) d = _; rw [up_j _ _ hd]; exact hp.2.1 r d hr hd, fun r hr => by
      show up s (75 + j.toNat) i.toNat 0 (75 + r) i.toNat = 0
      by_cases z : r = j.toNat
      · rw [z, up_s]
      · rw [up_k _ _ (by omega)]; exact hp.2.2 r (by omega)⟩) 8 0 b (Int.le_refl _) (by omega) (by omega) ⟨fun _ _ => rfl, fun _ _ _ _ => rfl, fun c hc => by omega⟩
    exact ⟨this.1, this.2.1, fun c hc => this.2.2 c (by omega)⟩
  unfold bg3
  generalize hb0 : up a 58 i.toNat 0 = b
  have h1 := k1 b
  generalize fW 8 (bg1 i) 8 0 b = b1 at h1
  have h2 := k2 b1
  generalize fW 8 (bg2 i) 8 0 b1 = b2 at h2
  have bk : ∀ k, k ≠ 58 → b k = a k := fun k hk => by rw [← hb0]; exact up_r _ _ _ hk
  refine ⟨fun k hk => by rw [h2.1 k (by omega), h1.1 k (by omega), bk k (by omega)]; exact J.1 k hk, fun d hd => ⟨?_, fun c hc => ?_, fun r hr => ?_⟩⟩
  · rw [h2.1 58 (by omega), h1.1 58 (by omega), ← hb0, up_at]
    by_cases z : d = i.toNat
    · rw [if_pos z]
    · rw [if_neg z]; exact (J.2 d (by omega)).1
  · by_cases z : d = i.toNat
    · by_cases z2 : 75 ≤ 61 + d
      · omega
      · rw [h2.1 _ (by omega), z]; exact h1.2 c hc
    · rw [h2.1 _ (by omega), h1.1 _ (by omega), bk _ (by omega)]; exact (J.2 d (by omega)).2.1 c hc
  · by_cases z : d = i.toNat
    · rw [z]; exact h2.2.2 r hr
    · rw [h2.2.1 r d hr z, h1.1 _ (by omega), bk _ (by omega)]; exact (J.2 d (by omega)).2.2 r hr
/-- a menu of D days begun, where the reference's is empty -/
theorem bg_ok (hP : PI τ) (hG : RuG τ) (h1 : RP σ τ) (hn : ∀ d c : Int, 0 ≤ d → d < τ 84 39 → 0 ≤ c → c < τ 84 25 → dA τ d c = -1) : RP (bgC σ (τ 84 39)) τ ∧ RM (bgC σ (τ 84 39)) τ ∧ ∀ k, ¬ mnK k → bgC σ (τ 84 39) k = σ k := by
  have hN := hP.1.2.1
  have hC := hP.1.2.2.2.1
  have hD := hP.2.2.2.1
  have hR := hP.1.2.2.2.2.1
  unfold bgC
  generalize hb0 : bg0 σ (τ 84 39) = b
  have eD : i32 (τ 84 39) = τ 84 39 := i32_n _ (by omega)
  have bk : ∀ k, k ≠ 55 → b k = σ k := fun k hk => by rw [← hb0]; unfold bg0; rw [up_r _ _ _ hk, up_r _ _ _ hk]
  have b6 : b 55 6 = τ 84 39 := by rw [← hb0]; unfold bg0; rw [up_j _ _ (by decide), up_s, eD, if_neg (by omega)]
  have b7 : b 55 7 = τ 84 39 * τ 84 25 := by rw [← hb0]; unfold bg0; rw [up_s, eD, if_neg (by omega), h1.1.2.2.2.2.2]
  have J3 := fW_to (N := 14) (g := bg3) (BgJ b) (fun i a i0 i1 hp => bg3_ok ⟨i0, i1⟩ hp) 14 0 b (Int.le_refl _) (by omega) (by omega) ⟨fun _ _ => rfl, fun d hd => by omega⟩
  generalize fW 14 bg3 14 0 b = b1 at J3
  have J4 := fW_to (N := 16) (g := bg4) (fun (j : Int) (s : Sg) => (∀ k, k ≠ 59 → s k = b1 k) ∧ ∀ x : Nat, (x : Int) < j → s 59 x = 0) (fun j s j0 j1 hp => ⟨fun k hk => by show up s 59 j.toNat 0 k = _; rw [up_r _ _ _ hk]; exact hp.1 k hk, fun c hc => by
      show up s 59 j.toNat 0 59 c = 0
      rw [up_at]
      by_cases z : c = j.toNat
      · rw [if_pos z]
      · rw [if_neg z]; exact hp.2 c (by omega)⟩) 16 0 b1 (Int.le_refl _) (by omega) (by omega) ⟨fun _ _ => rfl, fun c hc => by omega⟩
  generalize fW 16 bg4 16 0 b1 = b2 at J4
  have b2k : ∀ k, ¬ mnK k → b2 k = σ k := fun k hk => by
    unfold mnK at hk
    rw [J4.1 k (by omega), J3.1 k (by omega), bk k (by omega)]
  have hc0 : ∀ (s : Int) (d : Nat), (d : Int) < τ 84 39 → cnt τ s d = 0 := fun s d hd => cnt_none (fun c c0 c1 => hn d c (by omega) hd c0 c1)
  have hs0 : ∀ d : Nat, (d : Int) < τ 84 39 → suV2 τ d false = 0 := fun d hd => su_none hP (fun c c0 c1 => hn d c (by omega) hd c0 c1)
  have q55 : b2 55 = b 55 := by rw [J4.1 55 (by decide), J3.1 55 (by omega)]
  have q58 : ∀ d : Nat, (d : Int) < 14 → b2 58 d = 0 := fun d hd => by rw [J4.1 58 (by decide)]; exact (J3.2 d hd).1
  have q61 : ∀ d c : Nat, (d : Int) < 14 → c < 8 → b2 (61 + d) c = -1 := fun d c hd hc => by rw [J4.1 _ (by omega)]; exact (J3.2 d hd).2.1 c hc
  have q75 : ∀ r d : Nat, r < 8 → (d : Int) < 14 → b2 (75 + r) d = 0 := fun r d hr hd => by rw [J4.1 _ (by omega)]; exact (J3.2 d hd).2.2 r hr
  have J5 := fW_to (N := 8) (g := bg5) (fun (j : Int) (s : Sg) => (∀ k, k ≠ 60 → s k = b2 k) ∧ ∀ r : Nat, (r : Int) < j → (r : Int) < τ 84 30 → s 60 r = ruV τ r) (fun j s j0 j1 hp => by
      obtain ⟨r, rfl⟩ : ∃ r : Nat, j = r := ⟨j.toNat, by omega⟩
      have hk : ∀ k, k ≠ 60 → bg5 r s k = b2 k := fun k hk => by
        unfold bg5 rcC
        split
        · rw [up_r _ _ _ hk, up_r _ _ _ hk]; exact hp.1 k hk
        · rw [up_r _ _ _ hk]; exact hp.1 k hk
      refine ⟨hk, fun r2 h2 h3 => ?_⟩
      by_cases z : r2 = r
      · rw [z]
        have h3 : (r : Int) < τ 84 30 := by omega
        have e18 : up s 60 r 0 18 4 = τ 84 30 := by rw [up_k _ _ (by decide), hp.1 18 (by decide), b2k 18 (by unfold mnK; omega)]; exact h1.1.2.2.2.2.1
        have hRH : rHas (up s 60 r 0) r = true := by
          unfold rHas
          rw [e18, i32_n _ (by omega), i32_n _ (by omega)]
          exact decide_eq_true ⟨by omega, h3, by omega⟩
        show (rcC (up s 60 r 0) r) 60 r = _
        unfold rcC
        rw [if_pos hRH]
        show up (up s 60 r 0) 60 r _ 60 r = _
        rw [up_s]
        obtain ⟨q19, q20, q21, q22⟩ := h1.2.2.2.2.2 r h3
        have hRI := hP.2.2.1 r h3
        have hGr := hG r h3
        have q : ∀ k, k ≠ 60 → up s 60 r 0 k = b2 k := fun k hk => by rw [up_r _ _ _ hk]; exact hp.1 k hk
        have p19 : b2 19 = σ 19 := b2k 19 (by unfold mnK; omega)
        have p20 : b2 20 = σ 20 := b2k 20 (by unfold mnK; omega)
        have p21 : b2 21 = σ 21 := b2k 21 (by unfold mnK; omega)
        have hRc : RcH (up s 60 r 0) r := by
          unfold RcH
          rw [q 19 (by decide), q 20 (by decide), q 21 (by decide), q 55 (by decide), q 58 (by decide), q (75 + r) (by omega), p19, p20, p21, q19, q20, q21, q55, b6]
          refine ⟨by omega, by omega, by omega, hD, hGr.1, hGr.2, fun d hd => ?_⟩
          rw [q75 r d (by omega) (by omega), q58 d (by omega)]
          omega
        rw [rcV_e hRc, ruV_e hP ⟨by omega, h3⟩ hGr.1 hGr.2, q 19 (by decide), q 20 (by decide), q 21 (by decide), q 55 (by decide), p19, p20, p21, q19, q20, q21, q55, b6]
        refine rcN_ext hD.1 (by omega) (fun _ d d0 d1 => ?_) (fun _ d d0 d1 => ?_)
        · show up s 60 r 0 (75 + r) d.toNat = cnt τ _ d
          have := hc0 (mtV τ r) d.toNat (by omega)
          rw [show ((d.toNat : Nat) : Int) = d from by omega] at this
          rw [q _ (by omega), q75 r _ (by omega) (by omega)]
          exact this.symm
        · show up s 60 r 0 58 d.toNat = suV2 τ d false
          have := hs0 d.toNat (by omega)
          rw [show ((d.toNat : Nat) : Int) = d from by omega] at this
          rw [q _ (by omega), q58 _ (by omega)]
          exact this.symm
      · have : bg5 r s 60 r2 = s 60 r2 := by
          unfold bg5 rcC
          split
          · show up (up s 60 r 0) 60 r _ 60 r2 = _
            rw [up_j _ _ z]; show up s 60 r 0 60 r2 = _; rw [up_j _ _ z]
          · show up s 60 r 0 60 r2 = _; rw [up_j _ _ z]
        rw [this]; exact hp.2 r2 (by omega) h3) 8 0 b2 (Int.le_refl _) (by omega) (by omega) ⟨fun _ _ => rfl, fun c hc => by omega⟩
  generalize fW 8 bg5 8 0 b2 = z at J5
  have zk : ∀ k, ¬ mnK k → z k = σ k := fun k hk => by
    have hk2 := hk
    unfold mnK at hk2
    rw [J5.1 k (by omega)]; exact b2k k hk
  refine ⟨?_, ⟨?_, fun d2 c2 hd2 hc2 => ?_, ?_, fun r j hr hj => ?_, fun j hj => ?_, fun y hy => ?_, fun r hr => ?_⟩, zk⟩
  · have q := zk
    obtain ⟨-, hfo, hdi, hta, hch, hru⟩ := id h1
    unfold RP
    rw [q 10 (by unfold mnK; omega), q 12 (by unfold mnK; omega), q 14 (by unfold mnK; omega), q 16 (by unfold mnK; omega), q 18 (by unfold mnK; omega), q 9 (by unfold mnK; omega), q 23 (by unfold mnK; omega), q 24 (by unfold mnK; omega), q 25 (by unfold mnK; omega), q 13 (by unfold mnK; omega), q 26 (by unfold mnK; omega), q 27 (by unfold mnK; omega), q 28 (by unfold mnK; omega), q 29 (by unfold mnK; omega), q 30 (by unfold mnK; omega), q 17 (by unfold mnK; omega), q 32 (by unfold mnK; omega), q 33 (by unfold mnK; omega), q 19 (by unfold mnK; omega), q 20 (by unfold mnK; omega), q 21 (by unfold mnK; omega), q 22 (by unfold mnK; omega)]
    refine ⟨h1.1, hfo, fun j hj => ?_, hta, hch, hru⟩
    obtain ⟨z1, z2, z3, z4, z5, z6, z7⟩ := hdi j hj
    refine ⟨z1, z2, z3, z4, z5, z6, fun f hf => ?_⟩
    rw [q (34 + j) (by unfold mnK; omega)]; exact z7 f hf
  · rw [J5.1 55 (by decide), q55, b6]
  · rw [J5.1 _ (by omega), q61 d2 c2 (by omega) (by omega), hn d2 c2 (by omega) hd2 (by omega) hc2]
  · rw [J5.1 55 (by decide), q55, b7, gap_none hP hn]
  · rw [J5.1 _ (by omega), q75 r j (by omega) (by omega), hc0 _ j hj]
  · rw [J5.1 58 (by decide), q58 j (by omega), hs0 j hj]
  · rw [J5.1 59 (by decide), J4.2 y (by omega), ti_none hP (by omega) hn]
  · exact J5.2 r (by omega) hr
end S56
