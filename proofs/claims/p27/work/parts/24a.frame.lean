/-! which cells a function leaves as they were -/
theorem up_r (σ : Sg) {k a : Nat} (j : Nat) (v : Int) (h : a ≠ k) : up σ k j v a = σ a := funext fun b => up_k σ v h
theorem fW_r {sz : Int} {g : Int → Sg → Sg} {a : Nat} (hg : ∀ i q, i < sz → g i q a = q a) : ∀ (n : Nat) (i : Int) (q : Sg), fW sz g n i q a = q a
  | 0, _, _ => rfl
  | n + 1, i, q => by
    simp only [fW]
    split
    · rename_i h; rw [fW_r hg n, hg i q (by first | exact h | exact of_decide_eq_true h)]
    · rfl
theorem fG_r {c : Int → Sg → Bool} {g : Int → Sg → Sg} {a : Nat} (hg : ∀ i q, c i q = true → g i q a = q a) : ∀ (n : Nat) (i : Int) (q : Sg), fG c g n i q a = q a
  | 0, _, _ => rfl
  | n + 1, i, q => by
    simp only [fG]
    split
    · rename_i h; rw [fG_r hg n, hg i q h]
    · rfl
/-- the same for a state with more beside it -/
theorem fG_rp {α : Type} {c : Int → α → Bool} {g : Int → α → α} {p : α → Sg} {a : Nat} (hg : ∀ i q, c i q = true → p (g i q) a = p q a) : ∀ (n : Nat) (i : Int) (q : α), p (fG c g n i q) a = p q a
  | 0, _, _ => rfl
  | n + 1, i, q => by
    simp only [fG]
    split
    · rename_i h; rw [fG_rp hg n, hg i q h]
    · rfl
theorem rcC_r (σ : Sg) (r : Int) {a : Nat} (h : a ≠ 60) : rcC σ r a = σ a := by
  unfold rcC
  split
  · exact up_r _ _ _ h
  · rfl
theorem taC_r (σ : Sg) (d x m : Int) {a : Nat} (h : a < 55 ∨ 83 ≤ a) : taC σ d x m a = σ a := by
  unfold taC
  split
  · rw [up_r _ _ _ (by omega), up_r _ _ _ (by omega)]
  · rw [up_r _ _ _ (by omega)]
theorem ptC_r (σ : Sg) (d c x : Int) {a : Nat} (h : a < 55 ∨ 83 ≤ a) : ptC σ d c x a = σ a := by
  unfold ptC
  split
  · rename_i hp
    have hp2 := of_decide_eq_true hp
    have hd : 0 ≤ i32 d ∧ i32 d < i32 (σ 55 6) ∧ i32 d < 14 := of_decide_eq_true hp2.1
    rw [fG_r]
    · unfold pt1
      rw [taC_r _ _ _ _ h, taC_r _ _ _ _ h, up_r _ _ _ (by omega)]
    · intro i q hc
      have hc2 := of_decide_eq_true hc
      unfold ptG
      split
      · rw [rcC_r _ _ (by omega)]; unfold ptA; rw [up_r _ _ _ (by omega)]
      · unfold ptA; rw [up_r _ _ _ (by omega)]
  · rfl
theorem bgC_r (σ : Sg) (d : Int) {a : Nat} (h : a < 55 ∨ 83 ≤ a) : bgC σ d a = σ a := by
  unfold bgC
  rw [fW_r (fun i q hi => by unfold bg5; rw [rcC_r _ _ (by omega), up_r _ _ _ (by omega)]), fW_r (fun i q hi => by unfold bg4; rw [up_r _ _ _ (by omega)]), fW_r (fun i q hi => by
    unfold bg3
    rw [fW_r (fun i2 q2 hi2 => by unfold bg2; rw [up_r _ _ _ (by omega)]), fW_r (fun i2 q2 hi2 => by unfold bg1; rw [up_r _ _ _ (by omega)]), up_r _ _ _ (by omega)])]
  unfold bg0
  rw [up_r _ _ _ (by omega), up_r _ _ _ (by omega)]
theorem apC_r (σ : Sg) (k s v : Int) {a : Nat} (h : a ≠ 3 ∧ a ≠ 5 ∧ a ≠ 6 ∧ a ≠ 7) : apC σ k s v a = σ a := by
  unfold apC
  split
  · rw [up_r _ _ _ (by omega), up_r _ _ _ (by omega), up_r _ _ _ (by omega), up_r _ _ _ (by omega)]
  · rfl
theorem raC_r (σ : Sg) (p : Int) {a : Nat} (h : a ≠ 3 ∧ a ≠ 5 ∧ a ≠ 6 ∧ a ≠ 7) : (raC σ p).2 a = σ a := by
  unfold raC
  split
  · rfl
  · split
    · exact apC_r _ _ _ _ h
    · split
      · exact apC_r _ _ _ _ h
      · exact apC_r _ _ _ _ h
theorem rdF_r {a : Nat} (h : a ≠ 3 ∧ a ≠ 5 ∧ a ≠ 6 ∧ a ≠ 7) : ∀ (n : Nat) (p : Int) (σ : Sg), rdF n p σ a = σ a
  | 0, _, _ => rfl
  | n + 1, p, σ => by
    simp only [rdF]
    split
    · rw [rdF_r h n, raC_r _ _ h]
    · rfl
theorem readC_r (σ : Sg) {a : Nat} (h : a ≠ 3 ∧ a ≠ 5 ∧ a ≠ 6 ∧ a ≠ 7) : readC σ a = σ a := by
  unfold readC rdE
  rw [apC_r _ _ _ _ h, rdF_r h, up_r _ _ _ (by omega)]
theorem shortC_r (σ : Sg) (n : Int) {a : Nat} (h : a ≠ 1) : shortC σ n a = σ a := by
  unfold shortC
  split
  · exact up_r _ _ _ h
  · rfl
theorem tpC_r (σ : Sg) (x : Int) {a : Nat} (h : a ≠ 1 ∧ a ≠ 2) : tpC σ x a = σ a := by
  have hA : ∀ (s : Sg) (sh : Int), tpA s x sh a = s a := by
    intro s sh
    unfold tpA
    split
    · rw [up_r _ _ _ (by omega), up_r _ _ _ (by omega)]
    · rfl
  have hF : ∀ (n : Nat) (i : Int) (s : Sg), tpF x n i s a = s a := by
    intro n
    induction n with
    | zero => intro i s; rfl
    | succ n ih => intro i s; rw [tpF_s, ih, hA]
  exact hF _ _ _
theorem stF_r (σ : Sg) (s : Pp) {a : Nat} (h : a ≠ 8) : stF σ s a = σ a := by
  unfold stF
  rw [up_r _ _ _ h, up_r _ _ _ h]
theorem clrC_r (σ : Sg) {a : Nat} (h : a < 9 ∨ 19 ≤ a) : clrC σ a = σ a := by
  unfold clrC
  rw [up_r _ _ _ (by omega), up_r _ _ _ (by omega), up_r _ _ _ (by omega), up_r _ _ _ (by omega), up_r _ _ _ (by omega), up_r _ _ _ (by omega)]
