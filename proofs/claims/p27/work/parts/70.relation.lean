/-! the whole relation, and the calls that ask -/
section S70
variable {σ τ : Sg}
/-- class (cells of σ) and reference (cells of τ) stand side by side -/
def Rel (σ τ : Sg) : Prop :=
  PI τ ∧ RuG τ ∧ RP σ τ ∧ RM σ τ ∧ RN σ τ ∧ KwOk σ ∧ (σ 10 1 = 16 ∧ σ 12 1 = 16 ∧ σ 14 1 = 4 ∧ σ 16 1 = 16) ∧ ByS σ τ ∧ (Rb τ ∧ Rt τ ∧ 0 ≤ τ 84 9 ∧ τ 84 9 ≤ 1500) ∧ (σ 0 8 = τ 84 4 ∧ σ 0 9 = τ 84 38) ∧ ((τ 84 3 = 0 ∧ τ 84 15 = 0) ∨ (τ 84 3 = 1 ∧ 1 ≤ τ 84 15))
/-- the reference's cells alone -/
def rs (τ : Sg) : Sg := fun k => if 84 ≤ k ∧ k < 112 then τ k else fun _ => 0
theorem rs_eq {y : Sg} (h : ∀ k, 84 ≤ k ∧ k < 112 → y k = τ k) : rs y = rs τ := by
  funext k
  unfold rs
  by_cases c : 84 ≤ k ∧ k < 112
  · rw [if_pos c, if_pos c]; exact h k c
  · rw [if_neg c, if_neg c]
theorem rs_PI : PI (rs τ) = PI τ := rfl
theorem rs_RuG : RuG (rs τ) = RuG τ := rfl
theorem rs_RP : RP σ (rs τ) = RP σ τ := rfl
theorem rs_RM : RM σ (rs τ) = RM σ τ := rfl
theorem rs_RN : RN σ (rs τ) = RN σ τ := rfl
theorem rs_ByS : ByS σ (rs τ) = ByS σ τ := rfl
theorem rs_Rb : Rb (rs τ) = Rb τ := rfl
theorem rs_Rt : Rt (rs τ) = Rt τ := rfl
theorem rs_Rel : Rel σ (rs τ) = Rel σ τ := by
  unfold Rel
  rw [rs_PI, rs_RuG, rs_RP, rs_RM, rs_RN, rs_ByS, rs_Rb, rs_Rt]
  rfl
theorem Rel.cg2 {y : Sg} (h : Rel σ τ) (hy : ∀ k, 84 ≤ k ∧ k < 112 → y k = τ k) : Rel σ y := by
  rw [← rs_Rel, rs_eq hy, rs_Rel]; exact h
theorem Rel.cg1 {z : Sg} (h : Rel σ τ) (hz : ∀ k, k < 84 → z k = σ k) : Rel z τ := by
  obtain ⟨a1, a2, ⟨b1, b2, b3, b4, b5, b6⟩, ⟨c1, c2, c3, c4, c5, c6, c7⟩, a5, a6, a7, a8, a9, a10, a11⟩ := h
  have hN := a1.1.2.1
  have hR := a1.1.2.2.2.2.1
  have hM := a1.2.2.2.1
  refine ⟨a1, a2, ⟨?_, fun j hj => ?_, fun j hj => ?_, fun j hj => ?_, fun c hc => ?_, fun r hr => ?_⟩, ⟨?_, fun d c hd hc => ?_, ?_, fun r d hr hd => ?_, fun d hd => ?_, fun x hx => ?_, fun r hr => ?_⟩, a5.fr (fun k hk => hz k (by omega)) (fun _ _ => rfl) rfl rfl, ?_, ?_, ⟨?_, fun p p0 p1 => ?_⟩, a9, ?_, a11⟩
  · rw [hz 10 (by decide), hz 12 (by decide), hz 14 (by decide), hz 16 (by decide), hz 18 (by decide), hz 9 (by decide)]; exact b1
  · rw [hz 23 (by decide), hz 24 (by decide), hz 25 (by decide)]; exact b2 j hj
  · rw [hz 13 (by decide), hz 26 (by decide), hz 27 (by decide), hz 28 (by decide), hz 29 (by decide), hz 30 (by decide), hz (34 + j) (by omega)]; exact b3 j hj
  · rw [hz 17 (by decide)]; exact b4 j hj
  · rw [hz 32 (by decide), hz 33 (by decide)]; exact b5 c hc
  · rw [hz 19 (by decide), hz 20 (by decide), hz 21 (by decide), hz 22 (by decide)]; exact b6 r hr
  · rw [hz 55 (by decide)]; exact c1
  · rw [hz (61 + d) (by omega)]; exact c2 d c hd hc
  · rw [hz 55 (by decide)]; exact c3
  · rw [hz (75 + r) (by omega)]; exact c4 r d hr hd
  · rw [hz 58 (by decide)]; exact c5 d hd
  · rw [hz 59 (by decide)]; exact c6 x hx
  · rw [hz 60 (by decide)]; exact c7 r hr
  · unfold KwOk; rw [hz 4 (by decide)]; exact a6
  · rw [hz 10 (by decide), hz 12 (by decide), hz 14 (by decide), hz 16 (by decide)]; exact a7
  · rw [hz 1 (by decide)]; exact a8.1
  · rw [byteC_fr (hz 1 (by decide)) (hz 2 (by decide))]; exact a8.2 p p0 p1
  · rw [hz 0 (by decide)]; exact a10
theorem Rel.no (h : Rel σ τ) (n : Int) : Rel σ (up τ 84 0 n) := h
theorem Rel.oq (h : Rel σ τ) (p : Bool) : Rel σ (oqS p τ) := by
  unfold oqS
  split
  · exact h.no 0
  · exact (h.no 0).no 1
theorem Rel.rx (h : Rel σ τ) : RX σ σ τ := ⟨h.1, h.2.1, h.2.2.1, h.2.2.2.1, fun _ _ => rfl⟩
/-- a change of the menu alone -/
theorem Rel.mn {z y : Sg} (h : Rel σ τ) (hx : RX σ z y) (hy : ∀ k, k ≠ 84 ∧ k ≠ 111 → y k = τ k) (hj : ∀ j, j ≠ 0 ∧ j ≠ 39 → y 84 j = τ 84 j) : Rel z y := by
  obtain ⟨a1, a2, a3, a4, a5, a6, a7, a8, a9, a10, a11⟩ := h
  obtain ⟨x1, x2, x3, x4, x5⟩ := hx
  have e : ∀ k, k < 55 → z k = σ k := fun k hk => x5 k (by unfold mnK; omega)
  refine ⟨x1, x2, x3, x4, a5.fr (fun k hk => e k (by omega)) (fun k hk => hy k (by omega)) (hj 15 (by decide)) (hj 36 (by decide)), ?_, ?_, ⟨?_, fun p p0 p1 => ?_⟩, ?_, ?_, ?_⟩
  · unfold KwOk; rw [e 4 (by decide)]; exact a6
  · rw [e 10 (by decide), e 12 (by decide), e 14 (by decide), e 16 (by decide)]; exact a7
  · rw [e 1 (by decide), hj 2 (by decide)]; exact a8.1
  · rw [byteC_fr (e 1 (by decide)) (e 2 (by decide)), bR_fr (hj 2 (by decide)) (hy 85 (by decide))]; exact a8.2 p p0 p1
  · unfold Rb Rt
    rw [hj 2 (by decide), hy 85 (by decide), hy 86 (by decide), hy 87 (by decide), hy 88 (by decide), hj 9 (by decide)]
    exact a9
  · rw [e 0 (by decide), hj 4 (by decide), hj 38 (by decide)]; exact a10
  · rw [hj 3 (by decide), hj 15 (by decide)]; exact a11
/-! answers: exceptions by their places in a list -/
def IOO : String := "java/lang/IndexOutOfBoundsException"
def IAE : String := "java/lang/IllegalArgumentException"
def ISE : String := "java/lang/IllegalStateException"
def OpI (Es : List String) (O : Rs) (v th : Int) : Prop := (∃ x, O = .inl (some (.int (I32 x))) ∧ th = 0 ∧ I32 x = I32 v) ∨ (∃ (i : Nat) (E : String), Es[i]? = some E ∧ O = .inr E ∧ th = i + 1)
theorem OpI.q {O : Rs} {p : Bool} {v x : Int} (hp : p = true → O = .inl (some (.int (I32 x))) ∧ I32 x = I32 v) (hn : p = false → O = .inr IOO) : OpI [IOO] O (oqV p v) (oqS p τ 84 0) := by
  cases p with
  | true =>
    obtain ⟨h1, h2⟩ := hp rfl
    exact Or.inl ⟨x, h1, rfl, h2⟩
  | false => exact Or.inr ⟨0, IOO, rfl, hn rfl, rfl⟩
theorem inR_e {x lo hi : Int} (hx : inr x) (hlo : inr lo) (hhi : inr hi) : inR x lo hi = decide (lo ≤ x ∧ x ≤ hi) := by
  unfold inR; rw [i32_eq hx, i32_eq hlo, i32_eq hhi]
theorem has_e {k : Nat} {n x : Int} (h : σ k 2 = n) (hn : 0 ≤ n ∧ n ≤ 16) (hx : inr x) : hasC σ k x = inR x 0 (n - 1) := by
  rw [inR_e hx inr_0 ⟨by omega, by omega⟩]
  unfold hasC
  rw [h, i32_n n (by omega), i32_eq hx]
  exact decide_eq_decide.mpr (by omega)
theorem hasCh_e {n x : Int} (h : σ 9 16 = n) (hn : 0 ≤ n ∧ n ≤ 8) (hx : inr x) : hasCh σ x = inR x 0 (n - 1) := by
  rw [inR_e hx inr_0 ⟨by omega, by omega⟩]
  unfold hasCh
  rw [h, i32_n n (by omega), i32_eq hx]
  exact decide_eq_decide.mpr (by omega)
theorem rHas_e {n x : Int} (h : σ 18 4 = n) (hn : 0 ≤ n ∧ n ≤ 8) (hx : inr x) : rHas σ x = inR x 0 (n - 1) := by
  rw [inR_e hx inr_0 ⟨by omega, by omega⟩]
  unfold rHas
  rw [h, i32_n n (by omega), i32_eq hx]
  exact decide_eq_decide.mpr (by omega)
theorem hasDy_e {n x : Int} (h : σ 55 6 = n) (hn : 0 ≤ n ∧ n ≤ 14) (hx : inr x) : hasDy σ x = inR x 0 (n - 1) := by
  rw [inR_e hx inr_0 ⟨by omega, by omega⟩]
  unfold hasDy
  rw [h, i32_n n (by omega), i32_eq hx]
  exact decide_eq_decide.mpr (by omega)
theorem inR_b {x lo hi : Int} (hx : inr x) (hlo : inr lo) (hhi : inr hi) (h : inR x lo hi = true) : lo ≤ x ∧ x ≤ hi := by
  rw [inR_e hx hlo hhi] at h; exact of_decide_eq_true h
theorem Rel.food (h : Rel σ τ) {x w : Int} (hx : inr x) (hw : inr w) : OpI [IOO] (fdO σ x w) (oqV (inR x 0 (τ 84 10 - 1) && inR w 0 2) (fT (up τ 84 0 0) x w)) (oqS (inR x 0 (τ 84 10 - 1) && inR w 0 2) τ 84 0) := by
  obtain ⟨a1, a2, ⟨b1, b2, b3, b4, b5, b6⟩, a4, -⟩ := h
  have hF := a1.1.1
  have e1 := has_e (k := 10) (x := x) b1.1 hF hx
  have ew : inR w 0 2 = decide (0 ≤ w ∧ w ≤ 2) := inR_e hw inr_0 ⟨by decide, by decide⟩
  unfold fdO
  rw [e1, i32_eq hw]
  refine OpI.q (x := fFact σ x w) (fun hp => ?_) (fun hp => ?_)
  · obtain ⟨p1, p2⟩ := (Bool.and_eq_true _ _).mp hp
    rw [ew] at p2
    have p2 := of_decide_eq_true p2
    have hxb := inR_b hx inr_0 ⟨by omega, by omega⟩ p1
    obtain ⟨f1, f2, f3⟩ := b2 x.toNat (by omega)
    rw [if_pos ⟨p1, p2.1, by omega⟩]
    refine ⟨rfl, ?_⟩
    unfold fFact fT
    rw [e1, if_pos p1, i32_eq hw, i32_eq hx, f1, f2, f3]
    rfl
  · rw [if_neg]; rfl
    intro z
    rw [z.1, ew, decide_eq_true ⟨z.2.1, by omega⟩] at hp
    cases hp
theorem Rel.dish (h : Rel σ τ) {x w : Int} (hx : inr x) (hw : inr w) : OpI [IOO] (diO σ x w) (oqV (inR x 0 (τ 84 15 - 1) && inR w 0 4) (dT (up τ 84 0 0) x w)) (oqS (inR x 0 (τ 84 15 - 1) && inR w 0 4) τ 84 0) := by
  obtain ⟨a1, a2, ⟨b1, b2, b3, b4, b5, b6⟩, a4, -⟩ := h
  have hF := a1.1.2.1
  have e1 := has_e (k := 12) (x := x) b1.2.1 hF hx
  have ew : inR w 0 4 = decide (0 ≤ w ∧ w ≤ 4) := inR_e hw inr_0 ⟨by decide, by decide⟩
  unfold diO
  rw [e1, i32_eq hw]
  refine OpI.q (x := dFact σ x w) (fun hp => ?_) (fun hp => ?_)
  · obtain ⟨p1, p2⟩ := (Bool.and_eq_true _ _).mp hp
    rw [ew] at p2
    have p2 := of_decide_eq_true p2
    have hxb := inR_b hx inr_0 ⟨by omega, by omega⟩ p1
    obtain ⟨f1, f2, f3, f4, f5, f6, f7⟩ := b3 x.toNat (by omega)
    rw [show ((x.toNat : Nat) : Int) = x from by omega] at f3 f4
    rw [if_pos ⟨p1, p2.1, by omega⟩]
    refine ⟨rfl, ?_⟩
    unfold dFact dT
    rw [e1, if_pos p1, i32_eq hw, i32_eq hx, f2, f3, f4, f5, f6]
    rfl
  · rw [if_neg]; rfl
    intro z
    rw [z.1, ew, decide_eq_true ⟨z.2.1, by omega⟩] at hp
    cases hp
theorem Rel.rule (h : Rel σ τ) {x w : Int} (hx : inr x) (hw : inr w) : OpI [IOO] (ruO σ x w) (oqV (inR x 0 (τ 84 30 - 1) && inR w 0 3) (rT (up τ 84 0 0) x w)) (oqS (inR x 0 (τ 84 30 - 1) && inR w 0 3) τ 84 0) := by
  obtain ⟨a1, a2, ⟨b1, b2, b3, b4, b5, b6⟩, a4, -⟩ := h
  have hF := a1.1.2.2.2.2.1
  have e1 := rHas_e (x := x) b1.2.2.2.2.1 hF hx
  have ew : inR w 0 3 = decide (0 ≤ w ∧ w ≤ 3) := inR_e hw inr_0 ⟨by decide, by decide⟩
  unfold ruO
  rw [e1, i32_eq hw]
  refine OpI.q (x := rFact σ x w) (fun hp => ?_) (fun hp => ?_)
  · obtain ⟨p1, p2⟩ := (Bool.and_eq_true _ _).mp hp
    rw [ew] at p2
    have p2 := of_decide_eq_true p2
    have hxb := inR_b hx inr_0 ⟨by omega, by omega⟩ p1
    obtain ⟨f1, f2, f3, f4⟩ := b6 x.toNat (by omega)
    rw [show ((x.toNat : Nat) : Int) = x from by omega] at f4
    rw [if_pos ⟨p1, p2.1, by omega⟩]
    refine ⟨rfl, ?_⟩
    have e2 : 0 ≤ i32 x ∧ i32 x < i32 (σ 18 4) ∧ i32 x < 8 := rHas_b (by rw [e1]; exact p1)
    unfold rFact rT
    rw [if_pos e2, i32_eq hw, i32_eq hx, f1, f2, f3, f4]
    rfl
  · rw [if_neg]; rfl
    intro z
    rw [z.1, ew, decide_eq_true ⟨z.2.1, by omega⟩] at hp
    cases hp
theorem Rel.grams (h : Rel σ τ) {x w : Int} (hx : inr x) (hw : inr w) : OpI [IOO] (gmO σ x w) (oqV (inR x 0 (τ 84 15 - 1) && inR w 0 (τ 84 10 - 1)) (τ 99 (16 * x + w).toNat)) (oqS (inR x 0 (τ 84 15 - 1) && inR w 0 (τ 84 10 - 1)) τ 84 0) := by
  obtain ⟨a1, a2, ⟨b1, b2, b3, b4, b5, b6⟩, a4, -⟩ := h
  have hF := a1.1.1
  have hD := a1.1.2.1
  have e1 := has_e (k := 12) (x := x) b1.2.1 hD hx
  have e2 := has_e (k := 10) (x := w) b1.1 hF hw
  unfold gmO
  rw [e1, e2]
  refine OpI.q (x := grC σ x w) (fun hp => ?_) (fun hp => ?_)
  · obtain ⟨p1, p2⟩ := (Bool.and_eq_true _ _).mp hp
    have hxb := inR_b hx inr_0 ⟨by omega, by omega⟩ p1
    have hwb := inR_b hw inr_0 ⟨by omega, by omega⟩ p2
    obtain ⟨f1, f2, f3, f4, f5, f6, f7⟩ := b3 x.toNat (by omega)
    rw [if_pos ⟨p1, p2⟩]
    refine ⟨rfl, ?_⟩
    unfold grC
    rw [e1, e2, if_pos ⟨p1, p2⟩, i32_eq hx, i32_eq hw, f7 w.toNat (by omega), show 16 * x.toNat + w.toNat = (16 * x + w).toNat from by omega]
  · rw [if_neg]; rfl
    intro z
    rw [z.1, z.2] at hp
    cases hp
theorem Rel.choice (h : Rel σ τ) {x : Int} {p : Bool} (hx : inr x) : OpI [IOO] (chO σ x p) (oqV (isC τ x) (if p = true then τ 101 x.toNat else τ 102 x.toNat)) (oqS (isC τ x) τ 84 0) := by
  obtain ⟨a1, a2, ⟨b1, b2, b3, b4, b5, b6⟩, a4, -⟩ := h
  have hF := a1.1.2.2.2.1
  have e1 : hasCh σ x = isC τ x := hasCh_e (x := x) b1.2.2.2.2.2 hF hx
  unfold chO
  rw [e1]
  refine OpI.q (x := if p = true then σ 32 (i32 x).toNat else σ 33 (i32 x).toNat) (fun hp => ?_) (fun hp => ?_)
  · have hxb := inR_b hx inr_0 ⟨by omega, by omega⟩ hp
    obtain ⟨f1, f2⟩ := b5 x.toNat (by omega)
    rw [if_pos hp]
    refine ⟨rfl, ?_⟩
    rw [i32_eq hx, f1, f2]
  · rw [hp, if_neg (by first | exact fun z => ff z | decide)]; rfl
theorem Rel.at (h : Rel σ τ) {d c : Int} (hd : inr d) (hc : inr c) : OpI [IOO] (atO σ d c) (oqV (isD τ d && isC τ c) (dA (up τ 84 0 0) d c)) (oqS (isD τ d && isC τ c) τ 84 0) := by
  obtain ⟨a1, a2, a3, a4, -⟩ := h
  have hF := a1.1.2.2.2.1
  have hM := a1.2.2.2.1
  have e1 : hasCh σ c = isC τ c := hasCh_e (x := c) a3.1.2.2.2.2.2 hF hc
  have e2 : hasDy σ d = isD τ d := hasDy_e (x := d) a4.1 hM hd
  have e3 : hasPl σ d c = (isD τ d && isC τ c) := by
    unfold hasPl
    rw [e1, e2]
    cases isD τ d <;> cases isC τ c <;> rfl
  unfold atO
  rw [e3]
  refine OpI.q (x := dOn σ d c) (fun hp => ?_) (fun hp => ?_)
  · obtain ⟨p1, p2⟩ := (Bool.and_eq_true _ _).mp hp
    have hdb := inR_b hd inr_0 ⟨by omega, by omega⟩ p1
    have hcb := inR_b hc inr_0 ⟨by omega, by omega⟩ p2
    rw [if_pos hp]
    refine ⟨rfl, ?_⟩
    rw [dOn_e a1 a3 a4 ⟨hdb.1, by omega⟩ ⟨hcb.1, by omega⟩]; rfl
  · rw [hp, if_neg (by first | exact fun z => ff z | decide)]; rfl
theorem Rel.faultsOf (h : Rel σ τ) {x : Int} (hx : inr x) : OpI [IOO] (foO σ x) (oqV (inR x 0 (τ 84 30 - 1)) (ruV (up τ 84 0 0) x)) (oqS (inR x 0 (τ 84 30 - 1)) τ 84 0) := by
  obtain ⟨a1, a2, a3, a4, -⟩ := h
  have hF := a1.1.2.2.2.2.1
  have e1 := rHas_e (x := x) a3.1.2.2.2.2.1 hF hx
  unfold foO
  rw [e1]
  refine OpI.q (x := σ 60 (i32 x).toNat) (fun hp => ?_) (fun hp => ?_)
  · have hxb := inR_b hx inr_0 ⟨by omega, by omega⟩ hp
    rw [if_pos hp]
    refine ⟨rfl, ?_⟩
    have := a4.2.2.2.2.2.2 x.toNat (by omega)
    rw [show ((x.toNat : Nat) : Int) = x from by omega] at this
    rw [i32_eq hx, this]; rfl
  · rw [hp, if_neg (by first | exact fun z => ff z | decide)]; rfl
theorem Rel.times (h : Rel σ τ) {x : Int} (hx : inr x) : OpI [IOO] (tmO σ x) (oqV (inR x 0 (τ 84 15 - 1)) (tiV (up τ 84 0 0) x)) (oqS (inR x 0 (τ 84 15 - 1)) τ 84 0) := by
  obtain ⟨a1, a2, a3, a4, -⟩ := h
  have hF := a1.1.2.1
  have e1 := has_e (k := 12) (x := x) a3.1.2.1 hF hx
  unfold tmO
  rw [e1]
  refine OpI.q (x := σ 59 (i32 x).toNat) (fun hp => ?_) (fun hp => ?_)
  · have hxb := inR_b hx inr_0 ⟨by omega, by omega⟩ hp
    rw [if_pos hp]
    refine ⟨rfl, ?_⟩
    have := a4.2.2.2.2.2.1 x.toNat (by omega)
    rw [show ((x.toNat : Nat) : Int) = x from by omega] at this
    rw [i32_eq hx, this]; rfl
  · rw [hp, if_neg (by first | exact fun z => ff z | decide)]; rfl
/-- the prices of a day -/
theorem pr_e (hP : PI τ) (h1 : RP σ τ) (h2 : RM σ τ) {d : Int} (hd : 0 ≤ d ∧ d < τ 84 39) : prC σ d = suV2 τ d true := by
  have hC := hP.1.2.2.2.1
  have hN := hP.1.2.1
  have e9 : i32 (σ 9 16) = τ 84 25 := by rw [h1.1.2.2.2.2.2]; exact i32_n _ (by omega)
  rw [suV2_e hP]
  unfold prC
  rw [e9, fW_sm0 (h := suH τ d true) (a := 0) (fun i a i0 i1 => by
    unfold prG suH
    have ed := dOn_e hP h1 h2 hd (c := i) ⟨i0, i1⟩
    have hb := hP.dA hd (c := i) ⟨i0, i1⟩
    rw [ed]
    by_cases c : dA τ d i = -1
    · rw [if_pos c, c]
      have : hasC σ 12 (-1) = false := decide_eq_false (fun w => by have := w.1; rw [em1] at this; omega)
      rw [this, if_neg (by first | exact fun z => ff z | decide)]; omega
    · rw [if_neg c, if_pos rfl]
      have e12 : hasC σ 12 (dA τ d i) = true := by
        rw [has_e (k := 12) h1.1.2.1 hN ⟨by omega, by omega⟩, inR_e ⟨by omega, by omega⟩ inr_0 ⟨by omega, by omega⟩]
        exact decide_eq_true ⟨by omega, by omega⟩
      rw [e12, if_pos rfl, i32_n _ (by omega)]
      have := (h1.2.2.1 (dA τ d i).toNat (by omega)).2.2.2.1
      rw [show (((dA τ d i).toNat : Nat) : Int) = dA τ d i from by omega] at this
      rw [this]) hC.1 (by omega)]
  omega
theorem Rel.day (h : Rel σ τ) {d : Int} {p : Bool} (hd : inr d) : OpI [IOO] (dyO σ d p) (oqV (isD τ d) (suV2 (up τ 84 0 0) d p)) (oqS (isD τ d) τ 84 0) := by
  obtain ⟨a1, a2, a3, a4, -⟩ := h
  have hM := a1.2.2.2.1
  have e2 : hasDy σ d = isD τ d := hasDy_e (x := d) a4.1 hM hd
  unfold dyO
  rw [e2]
  refine OpI.q (x := if p = true then prC σ d else σ 58 (i32 d).toNat) (fun hp => ?_) (fun hp => ?_)
  · have hdb := inR_b hd inr_0 ⟨by omega, by omega⟩ hp
    rw [if_pos hp]
    refine ⟨rfl, ?_⟩
    cases p with
    | true => rw [if_pos rfl, pr_e a1 a3 a4 ⟨hdb.1, by omega⟩]; rfl
    | false =>
      have := a4.2.2.2.2.1 d.toNat (by omega)
      rw [show ((d.toNat : Nat) : Int) = d from by omega] at this
      rw [if_neg (by first | exact fun z => ff z | decide), i32_eq hd, this]; rfl
  · rw [hp, if_neg (by first | exact fun z => ff z | decide)]; rfl
theorem upT8 (f : Nat → Int) : ∀ w : Int, 0 ≤ w → w ≤ 7 → ∀ (a0 a1 a2 a3 a4 a5 a6 a7 : Int), upT (upT (upT (upT (upT (upT (upT (upT f 0 a0) 1 a1) 2 a2) 3 a3) 4 a4) 5 a5) 6 a6) 7 a7 w.toNat = if w = 0 then a0 else if w = 1 then a1 else if w = 2 then a2 else if w = 3 then a3 else if w = 4 then a4 else if w = 5 then a5 else if w = 6 then a6 else a7 := by
  intro w h0 h7 a0 a1 a2 a3 a4 a5 a6 a7
  obtain ⟨n, rfl⟩ : ∃ n : Nat, w = n := ⟨w.toNat, by omega⟩
  rcases (show n = 0 ∨ n = 1 ∨ n = 2 ∨ n = 3 ∨ n = 4 ∨ n = 5 ∨ n = 6 ∨ n = 7 by omega) with rfl | rfl | rfl | rfl | rfl | rfl | rfl | rfl <;> rfl
theorem co_e (h : Rel σ τ) {w : Int} (h0 : 0 ≤ w ∧ w ≤ 7) : coV σ w = cnV τ w := by
  obtain ⟨a1, a2, ⟨⟨b1, b2, b3, b4, b5, b6⟩, -⟩, a4, -, -, -, a8, -⟩ := h
  unfold coV cnV
  rw [upT8 _ w h0.1 h0.2, i32_n w (by omega), b1, b2, b3, b4, b5, b6, a4.1, a8.1]
theorem Rel.count (h : Rel σ τ) {w : Int} (hw : inr w) : OpI [IOO] (coO σ w) (oqV (inR w 0 7) (cnV (up τ 84 0 0) w)) (oqS (inR w 0 7) τ 84 0) := by
  have ew : inR w 0 7 = decide (0 ≤ w ∧ w ≤ 7) := inR_e hw inr_0 ⟨by decide, by decide⟩
  unfold coO
  rw [i32_eq hw]
  refine OpI.q (x := coV σ w) (fun hp => ?_) (fun hp => ?_)
  · rw [ew] at hp
    have hp := of_decide_eq_true hp
    rw [if_neg (by omega)]
    refine ⟨rfl, ?_⟩
    rw [co_e h hp]; rfl
  · rw [ew] at hp
    have hp := of_decide_eq_false hp
    rw [if_pos (by omega)]; rfl
end S70
