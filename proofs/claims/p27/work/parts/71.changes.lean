/-! calls that change the menu, and sums told -/
section S71
variable {σ τ : Sg}
theorem fW_cong {sz : Int} {g h : Int → Int → Int} : ∀ (n m : Nat) (i a : Int), 0 ≤ i → sz ≤ i + n → sz ≤ i + m → (∀ j a, 0 ≤ j → j < sz → g j a = h j a) → fW sz g n i a = fW sz h m i a
  | 0, 0, _, _, _, _, _, _ => rfl
  | 0, m + 1, i, a, h0, h1, h2, e => by
    rw [fW_s, if_neg (by omega)]; rfl
  | n + 1, 0, i, a, h0, h1, h2, e => by
    rw [fW_s, if_neg (by omega)]; rfl
  | n + 1, m + 1, i, a, h0, h1, h2, e => by
    rw [fW_s, fW_s]
    by_cases c : i < sz
    · rw [if_pos c, if_pos c, e i a h0 c]
      exact fW_cong n m (i + 1) _ (by omega) (by omega) (by omega) e
    · rw [if_neg c, if_neg c]
theorem plT_k (d : Int) {k : Nat} (h : k ≠ 111) : plT τ d k = up (up τ 84 0 0) 84 39 d k := by
  unfold plT
  rw [fW_r (fun i q _ => by
    unfold plH
    exact fW_r (fun i q _ => by unfold plG; exact up_r _ _ _ h) _ _ _), plF_r _ _ h]
theorem OpI.e {Es : List String} {O : Rs} {v th : Int} {i : Nat} {E : String} (h : Es[i]? = some E) (hO : O = .inr E) (ht : th = i + 1) : OpI Es O v th := Or.inr ⟨i, E, h, hO, ht⟩
theorem OpI.v {Es : List String} {O : Rs} {v th x : Int} (hO : O = .inl (some (.int (I32 x)))) (ht : th = 0) (hx : I32 x = I32 v) : OpI Es O v th := Or.inl ⟨x, hO, ht, hx⟩
theorem Rel.plan (h : Rel σ τ) {d : Int} (hd : inr d) : OpI [IAE, ISE] (plO σ d) (plRV τ d) (plRS τ d 84 0) ∧ Rel (plS σ d) (plRS τ d) := by
  have hin : inR d 1 14 = decide (1 ≤ d ∧ d ≤ 14) := inR_e hd ⟨by decide, by decide⟩ ⟨by decide, by decide⟩
  have hN := h.1.1.2.1
  have e12 : i32 (σ 12 2) = τ 84 15 := by rw [h.2.2.1.1.2.1]; exact i32_n _ (by omega)
  have h3 := h.2.2.2.2.2.2.2.2.2.2
  unfold plO plS plRV plRS
  rw [hin, i32_eq hd, e12]
  by_cases c : 1 ≤ d ∧ d ≤ 14
  · have n1 : ¬ (d < 1 ∨ 14 < d) := by omega
    rw [if_neg n1, if_neg n1, decide_eq_true c, if_pos rfl, if_pos rfl]
    by_cases c2 : τ 84 15 = 0
    · have n3 : ¬ τ 84 3 = 1 := by omega
      rw [if_pos c2, if_pos c2, if_neg n3, if_neg n3]
      exact ⟨OpI.e (i := 1) (E := ISE) rfl rfl (up_s _ _ _ _), (h.no 0).no 2⟩
    · have n3 : τ 84 3 = 1 := by omega
      rw [if_neg c2, if_neg c2, if_pos n3, if_pos n3]
      have hx := plan_ok h.1 h.2.1 h.2.2.1 c
      have hafe := af_e hx.1 hx.2.2.1 hx.2.2.2.1
      refine ⟨OpI.v rfl ?_ (by rw [hafe]), h.mn hx (fun k hk => ?_) (fun j hj => ?_)⟩
      · rw [plT_k _ (by decide)]; rfl
      · rw [plT_k _ hk.2, up_r _ _ _ hk.1, up_r _ _ _ hk.1]
      · rw [plT_k _ (by decide), up_j _ _ hj.2, up_j _ _ hj.1]
  · have n1 : d < 1 ∨ 14 < d := by omega
    rw [if_pos n1, if_pos n1, decide_eq_false c, if_neg (fun z => ff z), if_neg (fun z => ff z)]
    exact ⟨OpI.e (i := 0) (E := IAE) rfl rfl (up_s _ _ _ _), (h.no 0).no 1⟩
theorem Rel.set (h : Rel σ τ) {d c x : Int} (hd : inr d) (hc : inr c) (hx : inr x) : OpI [IOO, ISE] (seO σ d c x) (seRV τ d c x) (seRS τ d c x 84 0) ∧ Rel (seS σ d c x) (seRS τ d c x) := by
  have a1 := h.1
  have a3 := h.2.2.1
  have a4 := h.2.2.2.1
  have hF := a1.1.2.2.2.1
  have hN := a1.1.2.1
  have hM := a1.2.2.2.1
  have e1 : hasCh σ c = isC τ c := hasCh_e (x := c) a3.1.2.2.2.2.2 hF hc
  have e2 : hasDy σ d = isD τ d := hasDy_e (x := d) a4.1 hM hd
  have e4 := has_e (k := 12) (x := x) a3.1.2.1 hN hx
  have e4r : inR x 0 (τ 84 15 - 1) = decide (0 ≤ x ∧ x ≤ τ 84 15 - 1) := inR_e hx inr_0 ⟨by omega, by omega⟩
  have e5 : inR x (-1) (τ 84 15 - 1) = decide (-1 ≤ x ∧ x ≤ τ 84 15 - 1) := inR_e hx ⟨by decide, by decide⟩ ⟨by omega, by omega⟩
  have ep : hasPl σ d c = (isD τ d && isC τ c) := by
    unfold hasPl
    rw [e1, e2]
    cases isD τ d <;> cases isC τ c <;> rfl
  unfold seO seS seRV seRS
  rw [ep, e4, e4r, e5, i32_eq hx]
  cases pd : isD τ d with
  | false =>
    have n1 : ¬ ((false && isC τ c) = true ∧ (x = -1 ∨ decide (0 ≤ x ∧ x ≤ τ 84 15 - 1) = true)) := fun w => ff w.1
    have n2 : ¬ (false = true ∧ isC τ c = true ∧ decide (-1 ≤ x ∧ x ≤ τ 84 15 - 1) = true) := fun w => ff w.1
    rw [if_neg n1, if_neg n1, if_neg n2, if_neg n2]
    exact ⟨OpI.e (i := 0) (E := IOO) rfl rfl (up_s _ _ _ _), (h.no 0).no 1⟩
  | true =>
    cases pc : isC τ c with
    | false =>
      have n1 : ¬ ((true && false) = true ∧ (x = -1 ∨ decide (0 ≤ x ∧ x ≤ τ 84 15 - 1) = true)) := fun w => ff w.1
      have n2 : ¬ (true = true ∧ false = true ∧ decide (-1 ≤ x ∧ x ≤ τ 84 15 - 1) = true) := fun w => ff w.2.1
      rw [if_neg n1, if_neg n1, if_neg n2, if_neg n2]
      exact ⟨OpI.e (i := 0) (E := IOO) rfl rfl (up_s _ _ _ _), (h.no 0).no 1⟩
    | true =>
      have hdb := inR_b hd inr_0 ⟨by omega, by omega⟩ pd
      have hcb := inR_b hc inr_0 ⟨by omega, by omega⟩ pc
      have hd1 : 0 ≤ d ∧ d < τ 84 39 := ⟨hdb.1, by omega⟩
      have hc1 : 0 ≤ c ∧ c < τ 84 25 := ⟨hcb.1, by omega⟩
      by_cases cx : -1 ≤ x ∧ x ≤ τ 84 15 - 1
      · have q1 : (true && true) = true ∧ (x = -1 ∨ decide (0 ≤ x ∧ x ≤ τ 84 15 - 1) = true) := ⟨rfl, by
          by_cases z : x = -1
          · exact Or.inl z
          · exact Or.inr (decide_eq_true ⟨by omega, by omega⟩)⟩
        have n2 : true = true ∧ true = true ∧ true = true := ⟨rfl, rfl, rfl⟩
        rw [if_pos q1, if_pos q1, decide_eq_true cx, if_pos n2, if_pos n2]
        have qs : (x = -1 ∨ suitC σ c x = true) ↔ (x = -1 ∨ ¬ iand (ishr (τ 102 c.toNat) x) 1 = 0) := by
          by_cases z : x = -1
          · exact ⟨fun _ => Or.inl z, fun _ => Or.inl z⟩
          · rw [suit_e a1 a3 hc1 (x := x) ⟨by omega, by omega⟩]
            exact ⟨fun w => w.elim Or.inl (fun w => Or.inr (of_decide_eq_true w)), fun w => w.elim Or.inl (fun w => Or.inr (decide_eq_true w))⟩
        by_cases cs : x = -1 ∨ ¬ iand (ishr (τ 102 c.toNat) x) 1 = 0
        · rw [if_pos (qs.mpr cs), if_pos (qs.mpr cs), if_pos cs, if_pos cs]
          have hp := (h.no 0).rx.put hd1 hc1 (x := x) ⟨cx.1, by show x < τ 84 15; omega⟩
          refine ⟨OpI.v rfl rfl (by rw [dOn_e a1 a3 a4 hd1 hc1]), (h.no 0).mn hp (fun k hk => up_r _ _ _ hk.2) (fun j _ => up_k _ _ (by decide))⟩
        · rw [if_neg (fun w => cs (qs.mp w)), if_neg (fun w => cs (qs.mp w)), if_neg cs, if_neg cs]
          exact ⟨OpI.e (i := 1) (E := ISE) rfl rfl (up_s _ _ _ _), (h.no 0).no 2⟩
      · have q1 : ¬ ((true && true) = true ∧ (x = -1 ∨ decide (0 ≤ x ∧ x ≤ τ 84 15 - 1) = true)) := fun w => cx (by
          rcases w.2 with z | z
          · omega
          · have := of_decide_eq_true z; omega)
        have n2 : ¬ (true = true ∧ true = true ∧ false = true) := fun w => ff w.2.2
        rw [if_neg q1, if_neg q1, decide_eq_false cx, if_neg n2, if_neg n2]
        exact ⟨OpI.e (i := 0) (E := IOO) rfl rfl (up_s _ _ _ _), (h.no 0).no 1⟩
theorem Rel.improve (h : Rel σ τ) : I32 (afC (cbC σ)) = I32 (imRV τ) ∧ Rel (cbC σ) (imRS τ) := by
  obtain ⟨h1, h2⟩ := imp_ok (h.no 0).rx
  have e1 : imRS τ = imS (up τ 84 0 0) := rfl
  rw [e1]
  refine ⟨by rw [h2]; rfl, (h.no 0).mn h1 (fun k hk => ?_) (fun j _ => ?_)⟩
  · unfold imS
    split
    · rfl
    · exact up_r _ _ _ hk.2
  · unfold imS
    split
    · rfl
    · exact up_k _ _ (by decide)
theorem exF_k (a b : Int) {k : Nat} (hk : k ≠ 111) (sz : Int) (n : Nat) (y : Sg) : fW sz (exG a b) n 0 y k = y k := fW_r (fun i q _ => by unfold exG; rw [up_r _ _ _ hk, up_r _ _ _ hk]) _ _ _
theorem Rel.exchange (h : Rel σ τ) {a b : Int} (ha : inr a) (hb : inr b) : OpI [IOO, IAE] (xcO σ a b) (exRV τ a b) (exRS τ a b 84 0) ∧ Rel (xcS σ a b) (exRS τ a b) := by
  have a1 := h.1
  have a4 := h.2.2.2.1
  have hM := a1.2.2.2.1
  have ea : hasDy σ a = isD τ a := hasDy_e (x := a) a4.1 hM ha
  have eb : hasDy σ b = isD τ b := hasDy_e (x := b) a4.1 hM hb
  unfold xcO xcS exRV exRS
  rw [ea, eb, i32_eq ha, i32_eq hb]
  by_cases c : isD τ a = true ∧ isD τ b = true
  · rw [if_pos c, if_pos c, if_pos c, if_pos c]
    by_cases c2 : a = b
    · rw [if_pos c2, if_pos c2, if_pos c2, if_pos c2]
      exact ⟨OpI.e (i := 1) (E := IAE) rfl rfl (up_s _ _ _ _), (h.no 0).no 2⟩
    · rw [if_neg c2, if_neg c2, if_neg c2, if_neg c2]
      have hab := inR_b ha inr_0 ⟨by omega, by omega⟩ c.1
      have hbb := inR_b hb inr_0 ⟨by omega, by omega⟩ c.2
      have hx := exc_ok (h.no 0).rx (a := a) (b := b) ⟨hab.1, by show a < τ 84 39; omega⟩ ⟨hbb.1, by show b < τ 84 39; omega⟩
      have ex : fW (up τ 84 0 0 84 25) (exG a b) 8 0 (up τ 84 0 0) = exT τ a b := rfl
      rw [ex] at hx
      have hafe := af_e hx.1 hx.2.2.1 hx.2.2.2.1
      refine ⟨OpI.v rfl ?_ (by rw [hafe]), (h.no 0).mn hx (fun k hk => exF_k a b hk.2 _ _ _) (fun j _ => congrFun (exF_k a b (by decide) _ _ _) j)⟩
      have := congrFun (exF_k a b (k := 84) (by decide) (τ 84 25) 8 (up τ 84 0 0)) 0
      exact this
  · rw [if_neg c, if_neg c, if_neg c, if_neg c]
    exact ⟨OpI.e (i := 0) (E := IOO) rfl rfl (up_s _ _ _ _), (h.no 0).no 1⟩
theorem Rel.faults (h : Rel σ τ) : afC σ = afV (up τ 84 0 0) := af_e (h.no 0).1 (h.no 0).2.2.1 (h.no 0).2.2.2.1
/-! sums over dishes -/
theorem sm_pick (F : Int → Int) (v : Int) : ∀ N : Nat, sm (fun x => F x * (if v = x then 1 else 0)) N = if 0 ≤ v ∧ v < N then F v else 0
  | 0 => by rw [if_neg (by omega)]; rfl
  | N + 1 => by
    rw [sm_s, sm_pick F v N]
    by_cases c : v = N
    · rw [if_neg (by omega), if_pos c, if_pos (by omega), c]; omega
    · rw [if_neg c]
      by_cases c2 : 0 ≤ v ∧ v < N
      · rw [if_pos c2, if_pos (by omega)]; omega
      · rw [if_neg c2, if_neg (by omega)]; omega
theorem ti_sum (hP : PI τ) (F : Int → Int) : sm (fun x => tiV τ x * F x) (τ 84 15).toNat = sm (fun d => sm (fun c => if dA τ d c = -1 then 0 else F (dA τ d c)) (τ 84 25).toNat) (τ 84 39).toNat := by
  have e1 : ∀ x : Int, tiV τ x * F x = sm (fun d => sm (fun c => F x * tiH τ x d c) (τ 84 25).toNat) (τ 84 39).toNat := fun x => by
    rw [tiV_e hP, Int.mul_comm, ← sm_mul]
    exact sm_ext _ (fun d _ _ => (sm_mul _ _ _).symm)
  rw [sm_ext (g := fun x => sm (fun d => sm (fun c => F x * tiH τ x d c) (τ 84 25).toNat) (τ 84 39).toNat) _ (fun x _ _ => e1 x)]
  rw [sm_swap (fun x d => sm (fun c => F x * tiH τ x d c) (τ 84 25).toNat)]
  refine sm_ext _ (fun d d0 d1 => ?_)
  rw [sm_swap (fun x c => F x * tiH τ x d c)]
  refine sm_ext _ (fun c c0 c1 => ?_)
  have hC := hP.1.2.2.2.1
  have hM := hP.2.2.2.1
  have hN := hP.1.2.1
  have hb := hP.dA (d := d) (c := c) ⟨d0, by omega⟩ ⟨c0, by omega⟩
  unfold tiH
  rw [sm_pick F (dA τ d c)]
  by_cases z : dA τ d c = -1
  · rw [if_pos z, if_neg (by omega)]
  · rw [if_neg z, if_pos (by omega)]
theorem mq_e (hP : PI τ) : (mqT τ).1 = sm (fun d => suV2 τ d true) (τ 84 39).toNat ∧ (mqT τ).2 = τ 84 39 * τ 84 25 - gapV τ := by
  have hN := hP.1.2.1
  have hC := hP.1.2.2.2.1
  have hM := hP.2.2.2.1
  have pr : ∀ (n : Nat) (i : Int) (q : Int × Int), fW (τ 84 15) (mqG τ) n i q = (fW (τ 84 15) (fun d a => a + tiV τ d * pcR τ d) n i q.1, fW (τ 84 15) (fun d a => a + tiV τ d) n i q.2) := by
    intro n
    induction n with
    | zero => intro i q; rfl
    | succ n ih =>
      intro i q
      rw [fW_s, fW_s, fW_s]
      by_cases c : i < τ 84 15
      · rw [if_pos c, if_pos c, if_pos c, ih]; rfl
      · rw [if_neg c, if_neg c, if_neg c]
  unfold mqT
  rw [pr]
  dsimp only
  refine ⟨?_, ?_⟩
  · rw [fW_sm0 (h := fun x => tiV τ x * pcR τ x) (fun i a _ _ => rfl) hN.1 (by omega), ti_sum hP]
    rw [Int.zero_add]
    exact sm_ext _ (fun d d0 d1 => by rw [suV2_e hP]; rfl)
  · rw [fW_sm0 (h := fun x => tiV τ x * 1) (fun i a _ _ => by rw [Int.mul_one]) hN.1 (by omega), ti_sum hP (fun _ => 1), gapV_e hP]
    rw [Int.zero_add]
    have e1 : ∀ d : Int, sm (fun c => if dA τ d c = -1 then (0 : Int) else 1) (τ 84 25).toNat = τ 84 25 - sm (gpH τ d) (τ 84 25).toNat := fun d => by
      have h1 := sm_add (fun c => if dA τ d c = -1 then (0 : Int) else 1) (gpH τ d) (τ 84 25).toNat
      have h2 : sm (fun c => (if dA τ d c = -1 then (0 : Int) else 1) + gpH τ d c) (τ 84 25).toNat = τ 84 25 := by
        rw [sm_ext (g := fun _ => 1) _ (fun c _ _ => by unfold gpH; split <;> rfl), sm_const]
        omega
      omega
    rw [sm_ext (g := fun d => τ 84 25 - sm (gpH τ d) (τ 84 25).toNat) _ (fun d _ _ => e1 d)]
    have h1 := sm_add (fun d => τ 84 25 - sm (gpH τ d) (τ 84 25).toNat) (fun d => sm (gpH τ d) (τ 84 25).toNat) (τ 84 39).toNat
    have h2 : sm (fun d => τ 84 25 - sm (gpH τ d) (τ 84 25).toNat + sm (gpH τ d) (τ 84 25).toNat) (τ 84 39).toNat = τ 84 39 * τ 84 25 := by
      rw [sm_ext (g := fun _ => τ 84 25) _ (fun d _ _ => by omega), sm_const]
      rw [show (((τ 84 39).toNat : Nat) : Int) = τ 84 39 from by omega]
    omega
theorem Rel.meanPrice (h : Rel σ τ) : mpV σ = mqV (up τ 84 0 0) := by
  have a1 := (h.no 0).1
  have a3 := (h.no 0).2.2.1
  have a4 := (h.no 0).2.2.2.1
  obtain ⟨m1, m2⟩ := mq_e a1
  have hC := a1.1.2.2.2.1
  have hM := a1.2.2.2.1
  have hN := a1.1.2.1
  have hdc := dc_le hM hC
  have hgp := gapV_bd (σ := up τ 84 0 0)
  have e55 : i32 (σ 55 6) = up τ 84 0 0 84 39 := by rw [a4.1]; exact i32_n _ (by omega)
  have en : mpN σ = (mqT (up τ 84 0 0)).2 := by
    unfold mpN
    rw [a4.1, a3.1.2.2.2.2.2, a4.2.2.1, m2]
    exact i32_n _ (by omega)
  have ebd : ∀ d : Int, 0 ≤ d → d < up τ 84 0 0 84 39 → 0 ≤ suV2 (up τ 84 0 0) d true ∧ suV2 (up τ 84 0 0) d true ≤ 8000000 := fun d d0 d1 => suV2_bd a1 true ⟨d0, d1⟩
  have hsb := sm_bd (h := fun d => suV2 (up τ 84 0 0) d true) (a := 0) (b := 8000000) (up τ 84 0 0 84 39).toNat (fun j j0 j1 => ebd j j0 (by omega))
  have ea : mpA σ = (mqT (up τ 84 0 0)).1 := by
    unfold mpA
    rw [e55, m1, fW_sm0 (h := fun d => suV2 (up τ 84 0 0) d true) (a := 0) (fun i a i0 i1 => by
      rw [pr_e a1 a3 a4 ⟨i0, i1⟩, i32_eq (by have := ebd i i0 i1; exact ⟨by omega, by omega⟩)]) hM.1 (by omega)]
    omega
  have hm0 : 0 ≤ (mqT (up τ 84 0 0)).2 := by
    rw [m2, gapV_e a1]
    have h1 : sm (fun d => sm (gpH (up τ 84 0 0) d) (up τ 84 0 0 84 25).toNat) (up τ 84 0 0 84 39).toNat ≤ up τ 84 0 0 84 25 * (((up τ 84 0 0 84 39).toNat : Nat) : Int) := (sm_bd (a := 0) _ (fun d d0 d1 => by
      have := sm_bd (h := gpH (up τ 84 0 0) d) (a := 0) (b := 1) (up τ 84 0 0 84 25).toNat (fun c _ _ => by unfold gpH; split <;> omega)
      omega)).2
    rw [show (((up τ 84 0 0 84 39).toNat : Nat) : Int) = up τ 84 0 0 84 39 from by omega, Int.mul_comm] at h1
    omega
  unfold mpV mqV
  rw [en, ea]
  by_cases c : (mqT (up τ 84 0 0)).2 = 0
  · rw [if_pos (by omega), if_pos c]
  · rw [if_neg (by omega), if_neg c, i64_eq (by rw [m1]; exact ⟨by omega, by omega⟩), i32_eq (by rw [m1]; exact ⟨by omega, by omega⟩)]
def OpL (Es : List String) (O : Rs) (v th : Int) : Prop := (∃ x, O = .inl (some (.long (I64 x))) ∧ th = 0 ∧ I64 x = I64 v) ∨ (∃ (i : Nat) (E : String), Es[i]? = some E ∧ O = .inr E ∧ th = i + 1)
theorem Rel.buy (h : Rel σ τ) {x n : Int} (hx : inr x) (hn : inr n) : OpL [IOO, IAE] (byO σ x n) (buRV τ x n) (up τ 84 0 (buT τ x n) 84 0) ∧ Rel σ (up τ 84 0 (buT τ x n)) := by
  refine ⟨?_, h.no _⟩
  have a1 := h.1
  have a3 := h.2.2.1
  have a4 := h.2.2.2.1
  have hF := a1.1.1
  have hN := a1.1.2.1
  have e1 := has_e (k := 10) (x := x) a3.1.1 hF hx
  have en : inR n 1 1000 = decide (1 ≤ n ∧ n ≤ 1000) := inR_e hn ⟨by decide, by decide⟩ ⟨by decide, by decide⟩
  have e12 : i32 (σ 12 2) = τ 84 15 := by rw [a3.1.2.1]; exact i32_n _ (by omega)
  rw [up_s]
  unfold byO buRV buT
  rw [e1, en, i32_eq hn]
  by_cases c : inR x 0 (τ 84 10 - 1) = true
  · rw [if_pos c, if_pos c]
    have hxb := inR_b hx inr_0 ⟨by omega, by omega⟩ c
    by_cases c2 : 1 ≤ n ∧ n ≤ 1000
    · rw [if_neg (by omega), decide_eq_true c2, if_pos rfl, if_pos rfl]
      refine Or.inl ⟨byV σ x n, rfl, rfl, ?_⟩
      refine congrArg I64 ?_
      unfold byV
      rw [e12]
      refine fW_cong _ 16 0 0 (Int.le_refl _) (by omega) (by omega) (fun j a j0 j1 => ?_)
      unfold byG buG
      obtain ⟨f1, f2, f3, f4, f5, f6, f7⟩ := a3.2.2.1 j.toNat (by omega)
      have ht := a4.2.2.2.2.2.1 j.toNat (by omega)
      rw [show ((j.toNat : Nat) : Int) = j from by omega] at ht
      have hd := a1.2.1.1 j.toNat (by omega)
      have hg := hd.2.2.2 x.toNat (by omega)
      have eg : gfC σ n j x = (i64 (n * τ 99 (16 * j + x).toNat)).tdiv (τ 94 j.toNat) := by
        unfold gfC
        rw [i32_n j (by omega), i32_eq hx, i32_eq hn, f2, f7 x.toNat (by omega), i32_n (τ 94 j.toNat) (by omega), i32_n (τ 99 (16 * j.toNat + x.toNat)) (by omega), if_neg (by omega), show 16 * j.toNat + x.toNat = (16 * j + x).toNat from by omega]
      rw [eg, ht, i32_n (tiV τ j) (by have := tiV_bd (σ := τ) j; omega)]
      rfl
    · rw [if_pos (by omega), decide_eq_false c2, if_neg (by first | exact fun z => ff z | decide), if_neg (by first | exact fun z => ff z | decide)]
      exact Or.inr ⟨1, IAE, rfl, rfl, rfl⟩
  · rw [if_neg c, if_neg c, if_neg (by first | exact fun z => ff z | decide)]
    exact Or.inr ⟨0, IOO, rfl, rfl, rfl⟩
theorem Rel.digest (h : Rel σ τ) : dcV σ = dgT2 (up τ 84 0 0) := by
  have a1 := h.1
  have a3 := h.2.2.1
  have a4 := h.2.2.2.1
  obtain ⟨b1, b2, b3, b4, b5, b6⟩ := id a3
  have hF := a1.1.1
  have hN := a1.1.2.1
  have hC := a1.1.2.2.2.1
  have hR := a1.1.2.2.2.2.1
  have hM := a1.2.2.2.1
  have e10 : i32 (σ 10 2) = τ 84 10 := by rw [b1.1]; exact i32_n _ (by omega)
  have e12 : i32 (σ 12 2) = τ 84 15 := by rw [b1.2.1]; exact i32_n _ (by omega)
  have e9 : i32 (σ 9 16) = τ 84 25 := by rw [b1.2.2.2.2.2]; exact i32_n _ (by omega)
  have e18 : i32 (σ 18 4) = τ 84 30 := by rw [b1.2.2.2.2.1]; exact i32_n _ (by omega)
  have e55 : i32 (σ 55 6) = τ 84 39 := by rw [a4.1]; exact i32_n _ (by omega)
  show dcV σ = dgT2 τ
  unfold dcV dgT2 adC paC
  rw [e10, e12, e9, e18, e55, af_e a1 a3 a4, show min (τ 84 25) 8 = τ 84 25 from by omega]
  have s1 : fW 8 (dcG σ) 8 0 359 = fW 8 (dgC2 τ) 8 0 359 := fW_cong 8 8 0 _ (Int.le_refl _) (by decide) (by decide) (fun w a w0 w1 => by unfold dcG dgC2; rw [co_e h ⟨w0, by omega⟩])
  rw [s1]
  have s2 : ∀ A : Int, fW (τ 84 10) (dg2 σ fFact 3) (τ 84 10).toNat 0 A = fW (τ 84 10) (dgF2 τ) 16 0 A := fun A => fW_cong _ 16 0 _ (Int.le_refl _) (by omega) (by omega) (fun f a f0 f1 => by
    unfold dg2 dgF2
    refine fW_cong 3 3 0 _ (Int.le_refl _) (by decide) (by decide) (fun w a w0 w1 => ?_)
    obtain ⟨g1, g2, g3⟩ := b2 f.toNat (by omega)
    unfold dg1 fFact fT
    rw [has_e (k := 10) b1.1 hF ⟨by omega, by omega⟩, inR_e ⟨by omega, by omega⟩ inr_0 ⟨by omega, by omega⟩, decide_eq_true (show 0 ≤ f ∧ f ≤ τ 84 10 - 1 by omega), if_pos rfl, i32_n w (by omega), i32_n f (by omega), g1, g2, g3])
  rw [s2]
  have s3 : ∀ A : Int, fW (τ 84 15) (dg2 σ dFact 5) (τ 84 15).toNat 0 A = fW (τ 84 15) (dgD2 τ) 16 0 A := fun A => fW_cong _ 16 0 _ (Int.le_refl _) (by omega) (by omega) (fun f a f0 f1 => by
    unfold dg2 dgD2
    refine fW_cong 5 5 0 _ (Int.le_refl _) (by decide) (by decide) (fun w a w0 w1 => ?_)
    obtain ⟨g1, g2, g3, g4, g5, g6, g7⟩ := b3 f.toNat (by omega)
    rw [show ((f.toNat : Nat) : Int) = f from by omega] at g3 g4
    unfold dg1 dFact dT
    rw [has_e (k := 12) b1.2.1 hN ⟨by omega, by omega⟩, inR_e ⟨by omega, by omega⟩ inr_0 ⟨by omega, by omega⟩, decide_eq_true (show 0 ≤ f ∧ f ≤ τ 84 15 - 1 by omega), if_pos rfl, i32_n w (by omega), i32_n f (by omega), g2, g3, g4, g5, g6])
  rw [s3]
  have s4 : ∀ A : Int, fW (τ 84 25) (dgc σ) 8 0 A = fW (τ 84 25) (dgH2 τ) 8 0 A := fun A => fW_cong _ 8 0 _ (Int.le_refl _) (by omega) (by omega) (fun c a c0 c1 => by
    obtain ⟨g1, g2⟩ := b5 c.toNat (by omega)
    unfold dgc dgH2
    rw [g1, g2])
  rw [s4]
  have s5 : ∀ A : Int, fW (τ 84 30) (dg2 σ rFact 4) (τ 84 30).toNat 0 A = fW (τ 84 30) (dgR2 τ) 8 0 A := fun A => fW_cong _ 8 0 _ (Int.le_refl _) (by omega) (by omega) (fun f a f0 f1 => by
    unfold dg2 dgR2
    refine fW_cong 4 4 0 _ (Int.le_refl _) (by decide) (by decide) (fun w a w0 w1 => ?_)
    obtain ⟨g1, g2, g3, g4⟩ := b6 f.toNat (by omega)
    rw [show ((f.toNat : Nat) : Int) = f from by omega] at g4
    unfold dg1 rFact rT
    rw [e18, i32_n f (by omega), if_pos ⟨f0, f1, by omega⟩, i32_n w (by omega), g1, g2, g3, g4])
  rw [s5]
  have s6 : ∀ A : Int, fW (τ 84 39) (adH σ) (τ 84 39).toNat 0 A = fW (τ 84 39) (dgM2 τ) 14 0 A := fun A => fW_cong _ 14 0 _ (Int.le_refl _) (by omega) (by omega) (fun d a d0 d1 => by
    unfold adH dgM2
    rw [e9]
    refine fW_cong _ 8 0 _ (Int.le_refl _) (by omega) (by omega) (fun c a c0 c1 => ?_)
    unfold adG
    rw [dOn_e a1 a3 a4 ⟨d0, d1⟩ ⟨c0, c1⟩])
  rw [s6]
end S71
