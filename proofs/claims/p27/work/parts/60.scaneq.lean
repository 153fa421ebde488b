/-! the scan: class and reference see the same tokens -/
section S60
variable {σ τ : Sg}
/-! words as numbers -/
def V27 (f : Int → Int) : Nat → Int
  | 0 => 0
  | n + 1 => 27 * V27 f n + f n
theorem V27_ext {f g : Int → Int} : ∀ n : Nat, (∀ j : Int, 0 ≤ j → j < n → f j = g j) → V27 f n = V27 g n
  | 0, _ => rfl
  | n + 1, h => by
    show 27 * V27 f n + f n = 27 * V27 g n + g n
    rw [V27_ext n (fun j h0 h1 => h j h0 (by omega)), h n (by omega) (by omega)]
theorem V27_pos {f : Int → Int} : ∀ n : Nat, (∀ j : Int, 0 ≤ j → j < n → 1 ≤ f j ∧ f j ≤ 26) → 0 ≤ V27 f n ∧ (0 < n → 1 ≤ V27 f n)
  | 0, _ => ⟨Int.le_refl _, fun h => absurd h (by decide)⟩
  | n + 1, h => by
    have h1 := V27_pos n (fun j h0 h1 => h j h0 (by omega))
    have h2 := h n (by omega) (by omega)
    show 0 ≤ 27 * V27 f n + f n ∧ (0 < n + 1 → 1 ≤ 27 * V27 f n + f n)
    exact ⟨by omega, fun _ => by omega⟩
theorem V27_inj {f g : Int → Int} : ∀ n m : Nat, (∀ j : Int, 0 ≤ j → j < n → 1 ≤ f j ∧ f j ≤ 26) → (∀ j : Int, 0 ≤ j → j < m → 1 ≤ g j ∧ g j ≤ 26) → V27 f n = V27 g m → n = m ∧ ∀ j : Int, 0 ≤ j → j < n → f j = g j
  | 0, 0, _, _, _ => ⟨rfl, fun j h0 h1 => by omega⟩
  | 0, m + 1, _, hg, h => by
    have := (V27_pos (m + 1) hg).2 (by omega)
    have h : (0 : Int) = V27 g (m + 1) := h
    omega
  | n + 1, 0, hf, _, h => by
    have := (V27_pos (n + 1) hf).2 (by omega)
    have h : V27 f (n + 1) = 0 := h
    omega
  | n + 1, m + 1, hf, hg, h => by
    have h : 27 * V27 f n + f n = 27 * V27 g m + g m := h
    have a1 := hf n (by omega) (by omega)
    have a2 := hg m (by omega) (by omega)
    obtain ⟨e1, e2⟩ := V27_inj n m (fun j h0 h1 => hf j h0 (by omega)) (fun j h0 h1 => hg j h0 (by omega)) (by omega)
    subst e1
    refine ⟨rfl, fun j h0 h1 => ?_⟩
    by_cases c : j < n
    · exact e2 j h0 c
    · have : j = n := by omega
      rw [this]; omega
theorem V27_bd {f : Int → Int} : ∀ n : Nat, (∀ j : Int, 0 ≤ j → j < n → 1 ≤ f j ∧ f j ≤ 26) → V27 f n + 1 ≤ 27 ^ n
  | 0, _ => Int.le_refl (1 : Int)
  | n + 1, h => by
    have h1 := V27_bd n (fun j h0 h1 => h j h0 (by omega))
    have h2 := h n (by omega) (by omega)
    show 27 * V27 f n + f n + 1 ≤ 27 ^ (n + 1)
    rw [Int.pow_succ]; omega
theorem V27_10 {f : Int → Int} {n : Nat} (hn : n ≤ 10) (h : ∀ j : Int, 0 ≤ j → j < n → 1 ≤ f j ∧ f j ≤ 26) : 0 ≤ V27 f n ∧ V27 f n < 205891132094649 := by
  have h1 := V27_bd n h
  have h0 := (V27_pos n h).1
  have h2 : (27 : Int) ^ n ≤ 27 ^ 10 := by
    have : ∀ k : Nat, k ≤ 10 → (27 : Int) ^ k ≤ 27 ^ 10 := by decide
    exact this n hn
  have h3 : (27 : Int) ^ 10 = 205891132094649 := by decide
  omega
theorem nm_V (τ : Sg) (lo : Int) (L : Nat) : ∀ (n j : Nat), j ≤ L → L ≤ j + n → fW (lo + L) (nmG τ) n (lo + j) (V27 (fun i => τ 85 (lo + i).toNat - 96) j) = V27 (fun i => τ 85 (lo + i).toNat - 96) L
  | 0, j, h1, h2 => by
    have : j = L := by omega
    rw [this]; rfl
  | n + 1, j, h1, h2 => by
    rw [fW_s]
    by_cases c : j < L
    · rw [if_pos (by omega)]
      have e : nmG τ (lo + j) (V27 (fun i => τ 85 (lo + i).toNat - 96) j) = V27 (fun i => τ 85 (lo + i).toNat - 96) (j + 1) := by
        show 27 * _ + τ 85 (lo + j).toNat - 96 = 27 * _ + (τ 85 (lo + j).toNat - 96); omega
      rw [e, show lo + (j : Int) + 1 = lo + ((j + 1 : Nat) : Int) from by omega]
      exact nm_V τ lo L n (j + 1) (by omega) (by omega)
    · have : j = L := by omega
      rw [if_neg (by omega), this]
theorem nm_V0 (τ : Sg) (lo : Int) (L n : Nat) (h : L ≤ n) : fW (lo + L) (nmG τ) n lo 0 = V27 (fun i => τ 85 (lo + i).toNat - 96) L := by
  have := nm_V τ lo L n 0 (by omega) (by omega)
  rwa [show lo + ((0 : Nat) : Int) = lo from by omega] at this
/-- the keywords' numbers -/
def kwv (i : Nat) : Int := V27 (fun j => kb i j.toNat - 96) (kl i).toNat
theorem kw_let : ∀ i : Nat, i < 17 → 2 ≤ kl i ∧ kl i ≤ 10 ∧ ∀ j : Nat, j < (kl i).toNat → 97 ≤ kb i j ∧ kb i j ≤ 122 := by decide +kernel
def KwOk (σ : Sg) : Prop := ∀ i : Nat, i < 17 → σ 4 i = kwv i
/-! tokens -/
theorem isF_pt {σ τ : Sg} {t i : Nat} (h85 : τ 85 = σ 85) (h87 : τ 87 t = σ 87 t) : ∀ (n : Nat) (k : Int), isF τ t i n k = isF σ t i n k
  | 0, _ => rfl
  | n + 1, k => by simp only [isF]; rw [h85, h87, isF_pt h85 h87 n (k + 1)]
theorem isR_pt {σ τ : Sg} {t i : Nat} (h85 : τ 85 = σ 85) (h86 : τ 86 t = σ 86 t) (h87 : τ 87 t = σ 87 t) (h88 : τ 88 t = σ 88 t) : isR τ t i = isR σ t i := by
  unfold isR; rw [h86, h87, h88, isF_pt h85 h87]
theorem kdF_pt {σ τ : Sg} {t : Nat} (h85 : τ 85 = σ 85) (h86 : τ 86 t = σ 86 t) (h87 : τ 87 t = σ 87 t) (h88 : τ 88 t = σ 88 t) : ∀ (n : Nat) (i : Int), kdF τ t n i = kdF σ t n i
  | 0, _ => rfl
  | n + 1, i => by simp only [kdF]; rw [isR_pt h85 h86 h87 h88, kdF_pt h85 h86 h87 h88 n (i + 1)]
theorem kdR_pt {σ τ : Sg} {t : Nat} (h85 : τ 85 = σ 85) (h86 : τ 86 t = σ 86 t) (h87 : τ 87 t = σ 87 t) (h88 : τ 88 t = σ 88 t) : kdR τ t = kdR σ t := by
  unfold kdR; rw [h86, kdF_pt h85 h86 h87 h88]
theorem nmV_pt {σ τ : Sg} {t : Nat} (h85 : τ 85 = σ 85) (h87 : τ 87 t = σ 87 t) (h88 : τ 88 t = σ 88 t) : nmV τ t = nmV σ t := by
  unfold nmV
  rw [h87, h88, show nmG τ = nmG σ from by funext k a; unfold nmG; rw [h85]]
theorem nuV_pt {σ τ : Sg} {t : Nat} (h85 : τ 85 = σ 85) (h87 : τ 87 t = σ 87 t) (h88 : τ 88 t = σ 88 t) : nuV τ t = nuV σ t := by
  unfold nuV
  rw [h87, h88, show nuG τ = nuG σ from by funext k a; unfold nuG; rw [h85]]
/-- the first n tokens are the same -/
def TkS (σ τ : Sg) (n : Int) : Prop := σ 3 4 = n ∧ ∀ t : Nat, (t : Int) < n → σ 5 t = kdR τ t ∧ σ 6 t = τ 87 t ∧ (kdR τ t = 22 → σ 7 t = nmV τ t) ∧ (kdR τ t = 23 → σ 7 t = nuV τ t)
theorem TkS_add {n : Int} (hn : 0 ≤ n ∧ n < 1501) (h : TkS σ τ n) {x : Int × Int × Int} {k s v : Int} (hk : k = kdR (scP τ n x) n.toNat) (hs : s = x.2.1) (h22 : kdR (scP τ n x) n.toNat = 22 → v = nmV (scP τ n x) n.toNat) (h23 : kdR (scP τ n x) n.toNat = 23 → v = nuV (scP τ n x) n.toNat) :
    TkS (apC σ k s v) (scP τ n x) (n + 1) ∧ ∀ j, j ≠ 3 ∧ j ≠ 5 ∧ j ≠ 6 ∧ j ≠ 7 → apC σ k s v j = σ j := by
  have en : i32 (σ 3 4) = n := by rw [h.1]; exact i32_n _ (by omega)
  have e : apC σ k s v = up (up (up (up σ 5 n.toNat k) 6 n.toNat s) 7 n.toNat v) 3 4 (σ 3 4 + 1) := by
    unfold apC; rw [en, if_pos hn]
  have e85 : scP τ n x 85 = τ 85 := scP_o _ _ (by decide)
  refine ⟨⟨by rw [e, up_s, h.1], fun t ht => ?_⟩, fun j hj => ?_⟩
  · by_cases c : t = n.toNat
    · subst c
      obtain ⟨q1, q2, q3⟩ := scP_n (σ := τ) n x
      rw [e, q2]
      refine ⟨?_, ?_, fun z => ?_, fun z => ?_⟩
      · rw [up_k _ _ (by decide), up_k _ _ (by decide), up_k _ _ (by decide), up_s, hk]
      · rw [up_k _ _ (by decide), up_k _ _ (by decide), up_s, hs]
      · rw [up_k _ _ (by decide), up_s]; exact h22 z
      · rw [up_k _ _ (by decide), up_s]; exact h23 z
    · have o : ∀ k, scP τ n x k t = τ k t := fun k => scP_j _ _ c
      obtain ⟨g1, g2, g3, g4⟩ := h.2 t (by omega)
      rw [kdR_pt e85 (o 86) (o 87) (o 88), nmV_pt e85 (o 87) (o 88), nuV_pt e85 (o 87) (o 88), o 87, e]
      refine ⟨?_, ?_, fun z => ?_, fun z => ?_⟩
      · rw [up_k _ _ (by decide), up_k _ _ (by decide), up_k _ _ (by decide), up_j _ _ c]; exact g1
      · rw [up_k _ _ (by decide), up_k _ _ (by decide), up_j _ _ c, up_k _ _ (by decide)]; exact g2
      · rw [up_k _ _ (by decide), up_j _ _ c, up_k _ _ (by decide), up_k _ _ (by decide)]; exact g3 z
      · rw [up_k _ _ (by decide), up_j _ _ c, up_k _ _ (by decide), up_k _ _ (by decide)]; exact g4 z
  · rw [e, up_r _ _ _ hj.1, up_r _ _ _ hj.2.2.2, up_r _ _ _ hj.2.2.1, up_r _ _ _ hj.2.1]
/-- the same bytes -/
def ByS (σ τ : Sg) : Prop := σ 1 1 = τ 84 2 ∧ ∀ p : Int, 0 ≤ p → p ≤ 1500 → byteC σ p = bR τ p
theorem bR_255 (hb : Rb τ) (p : Int) : -1 ≤ bR τ p ∧ bR τ p ≤ 255 := by
  unfold bR
  split
  · have := hb.2 p.toNat; omega
  · omega
theorem ltF_fuel {P : Int → Bool} (hP : ∀ k, P (bR τ k) = true → k < τ 84 2) : ∀ (n m : Nat) (p : Int), τ 84 2 - p ≤ n → τ 84 2 - p ≤ m → ltF (bR τ) P n p = ltF (bR τ) P m p
  | 0, m, p, h1, h2 => by
    cases m with
    | zero => rfl
    | succ m =>
      simp only [ltF]
      rw [if_neg (fun z => by have := hP p z; omega)]
  | n + 1, 0, p, h1, h2 => by
    simp only [ltF]
    rw [if_neg (fun z => by have := hP p z; omega)]
  | n + 1, m + 1, p, h1, h2 => by
    simp only [ltF]
    by_cases c : P (bR τ p) = true
    · rw [if_pos c, if_pos c]; exact ltF_fuel hP n m (p + 1) (by omega) (by omega)
    · rw [if_neg c, if_neg c]
theorem skF_fuel : ∀ (n m : Nat) (p : Int), τ 84 2 - p ≤ n → τ 84 2 - p ≤ m → skF (bR τ) n p = skF (bR τ) m p
  | 0, m, p, h1, h2 => by
    have e : bR τ p = -1 := if_neg (by omega)
    cases m with
    | zero => rfl
    | succ m => simp only [skF]; rw [if_neg (by rw [e]; omega)]
  | n + 1, 0, p, h1, h2 => by
    have e : bR τ p = -1 := if_neg (by omega)
    simp only [skF]; rw [if_neg (by rw [e]; omega)]
  | n + 1, m + 1, p, h1, h2 => by
    simp only [skF]
    by_cases c : bR τ p = 32 ∨ bR τ p = 10
    · rw [if_pos c, if_pos c]; exact skF_fuel n m (p + 1) (by omega) (by omega)
    · rw [if_neg c, if_neg c]
theorem rw_e (hS : ByS σ τ) (hb : Rb τ) : ∀ (m : Nat) (e c : Int), 0 ≤ e → e + m = 1500 → (rwF σ m e c).1 = ltF (bR τ) isLet m e ∧ ∀ m2 : Nat, (rwF σ m e c).1 - e ≤ m2 → (rwF σ m e c).2 = fW ((rwF σ m e c).1) (nmG τ) m2 e c
  | 0, e, c, h0, hm => ⟨rfl, fun m2 _ => by
    cases m2 with
    | zero => rfl
    | succ m2 => rw [fW_s, if_neg (by exact Int.lt_irrefl e)]; rfl⟩
  | m + 1, e, c, h0, hm => by
    have hby := hS.2 e h0 (by omega)
    have h255 := bR_255 hb e
    simp only [rwF, ltF]
    by_cases cc : isLet (bR τ e) = true
    · have hlt := bR_let cc
      have e1 : byteC σ e = τ 85 e.toNat := hby.trans (if_pos hlt)
      rw [if_pos ⟨by omega, by rw [hby]; exact cc⟩, if_pos cc]
      have eg : c * 27 + i32 (byteC σ e - 97 + 1) = nmG τ e c := by
        rw [i32_n _ (by omega), e1]; unfold nmG; omega
      rw [eg]
      obtain ⟨q1, q2⟩ := rw_e hS hb m (e + 1) (nmG τ e c) (by omega) (by omega)
      refine ⟨q1, fun m2 h2 => ?_⟩
      have hge := (rwF_bd σ m (e + 1) (nmG τ e c)).1
      obtain ⟨m3, rfl⟩ : ∃ q, m2 = q + 1 := ⟨m2 - 1, by omega⟩
      rw [fW_s, if_pos (by omega)]
      exact q2 m3 (by omega)
    · rw [if_neg (fun z => cc (by rw [← hby]; exact z.2)), if_neg cc]
      refine ⟨rfl, fun m2 _ => ?_⟩
      cases m2 with
      | zero => rfl
      | succ m2 => rw [fW_s, if_neg (by exact Int.lt_irrefl e)]
theorem rn_e (hS : ByS σ τ) (hb : Rb τ) : ∀ (m : Nat) (e c : Int), 0 ≤ e → e + m = 1500 → (rnF σ m e c).1 = ltF (bR τ) isDig m e ∧ ∀ m2 : Nat, (rnF σ m e c).1 - e ≤ m2 → (rnF σ m e c).2 = fW ((rnF σ m e c).1) (nuG τ) m2 e c
  | 0, e, c, h0, hm => ⟨rfl, fun m2 _ => by
    cases m2 with
    | zero => rfl
    | succ m2 => rw [fW_s, if_neg (by exact Int.lt_irrefl e)]; rfl⟩
  | m + 1, e, c, h0, hm => by
    have hby := hS.2 e h0 (by omega)
    have h255 := bR_255 hb e
    simp only [rnF, ltF]
    by_cases cc : isDig (bR τ e) = true
    · have hlt := bR_dig cc
      have e1 : byteC σ e = τ 85 e.toNat := hby.trans (if_pos hlt)
      rw [if_pos ⟨by omega, by rw [hby]; exact cc⟩, if_pos cc]
      have eg : c * 10 + i32 (byteC σ e) - 48 = nuG τ e c := by
        rw [i32_n _ (by omega), e1]; unfold nuG; omega
      rw [eg]
      obtain ⟨q1, q2⟩ := rn_e hS hb m (e + 1) (nuG τ e c) (by omega) (by omega)
      refine ⟨q1, fun m2 h2 => ?_⟩
      have hge := (rnF_bd σ m (e + 1) (nuG τ e c)).1
      obtain ⟨m3, rfl⟩ : ∃ q, m2 = q + 1 := ⟨m2 - 1, by omega⟩
      rw [fW_s, if_pos (by omega)]
      exact q2 m3 (by omega)
    · rw [if_neg (fun z => cc (by rw [← hby]; exact z.2)), if_neg cc]
      refine ⟨rfl, fun m2 _ => ?_⟩
      cases m2 with
      | zero => rfl
      | succ m2 => rw [fW_s, if_neg (by exact Int.lt_irrefl e)]
/-! a word's kind -/
theorem kdF_none {t : Nat} : ∀ (n : Nat) (i : Int), (∀ j : Int, i ≤ j → j < i + n → isR τ t j.toNat = false) → kdF τ t n i = 22
  | 0, _, _ => rfl
  | n + 1, i, h => by
    simp only [kdF]
    rw [if_neg (by rw [h i (Int.le_refl _) (by omega)]; decide)]
    exact kdF_none n (i + 1) (fun j h1 h2 => h j (by omega) (by omega))
theorem kw_e (hk : KwOk σ) {t L : Nat} (h86 : τ 86 t = 1) (hL : τ 88 t = τ 87 t + L) (hL10 : L ≤ 10) (hlet : ∀ j : Int, 0 ≤ j → j < L → 97 ≤ τ 85 (τ 87 t + j).toNat ∧ τ 85 (τ 87 t + j).toNat ≤ 122) :
    ∀ (n : Nat) (i : Int), 0 ≤ i → i + n = 17 → kwF σ (nmV τ t) n i = kdF τ t (n + 5) i := by
  have hnm : nmV τ t = V27 (fun i => τ 85 (τ 87 t + i).toNat - 96) L := by
    unfold nmV
    rw [hL]; exact nm_V0 τ _ L 1500 (by omega)
  have hdig : ∀ j : Int, 0 ≤ j → j < L → 1 ≤ (fun i => τ 85 (τ 87 t + i).toNat - 96) j ∧ (fun i => τ 85 (τ 87 t + i).toNat - 96) j ≤ 26 := fun j h0 h1 => by have := hlet j h0 h1; dsimp only; omega
  intro n
  induction n with
  | zero =>
    intro i h0 hi
    refine (kdF_none 5 i (fun j h1 h2 => ?_)).symm
    have hs := kb_sym j.toNat (by omega) (by omega)
    cases c : isR τ t j.toNat with
    | false => rfl
    | true =>
      obtain ⟨-, c2, c3⟩ := (isR_iff τ t j.toNat).mp c
      rw [hs.1] at c2 c3
      have h3 := c3 0 (by omega) (by omega)
      have hl := hlet 0 (by omega) (by omega)
      rw [h3] at hl
      have h4 := hs.2
      unfold isLet at h4
      rw [show ((0 : Int)).toNat = 0 from rfl] at hl
      rw [i32_n _ (by omega)] at h4
      have := of_decide_eq_false h4
      omega
  | succ n ih =>
    intro i h0 hi
    show (if I64 (σ 4 i.toNat) = I64 (nmV τ t) then i else kwF σ (nmV τ t) n (i + 1)) = (if isR τ t i.toNat = true then i else kdF τ t (n + 5) (i + 1))
    rw [ih (i + 1) (by omega) (by omega)]
    obtain ⟨w1, w2, w3⟩ := kw_let i.toNat (by omega)
    have hwd : ∀ j : Int, 0 ≤ j → j < ((kl i.toNat).toNat : Nat) → 1 ≤ (fun j : Int => kb i.toNat j.toNat - 96) j ∧ (fun j : Int => kb i.toNat j.toNat - 96) j ≤ 26 := fun j h0 h1 => by have := w3 j.toNat (by omega); dsimp only; omega
    have iff1 : I64 (σ 4 i.toNat) = I64 (nmV τ t) ↔ isR τ t i.toNat = true := by
      rw [hk i.toNat (by omega), hnm]
      have b1 := V27_10 (n := (kl i.toNat).toNat) (by omega) hwd
      have b2 := V27_10 hL10 hdig
      rw [I64_eq (by unfold kwv; exact ⟨by omega, by omega⟩) ⟨by omega, by omega⟩, isR_iff]
      constructor
      · intro h
        obtain ⟨q1, q2⟩ := V27_inj _ _ hwd hdig h
        refine ⟨Or.inl h86, by omega, fun j j0 j1 => ?_⟩
        have := q2 j j0 (by omega)
        omega
      · rintro ⟨-, h2, h3⟩
        have eL : (kl i.toNat).toNat = L := by omega
        unfold kwv
        rw [eL]
        exact V27_ext L (fun j j0 j1 => by rw [h3 j j0 (by omega)])
    by_cases c : isR τ t i.toNat = true
    · rw [if_pos (iff1.mpr c), if_pos c]
    · rw [if_neg (fun z => c (iff1.mp z)), if_neg c]
/-! a sign's kind -/
def syT (b : Int) : Int := if b = 59 then 17 else if b = 58 then 18 else if b = 44 then 19 else if b = 40 then 20 else if b = 41 then 21 else 24
theorem sy_tab : ∀ b : Nat, b < 256 → (if 0 ≤ i32 (ioC 23 (i2c (b : Int))) then 17 + ioC 23 (i2c (b : Int)) else 24) = syT b := by decide +kernel
theorem sy_kb : kb 17 0 = 59 ∧ kb 18 0 = 58 ∧ kb 19 0 = 44 ∧ kb 20 0 = 40 ∧ kb 21 0 = 41 := by decide +kernel
theorem sy_e {t : Nat} (h86 : τ 86 t = 3) (h88 : τ 88 t = τ 87 t + 1) {b : Int} (hb : τ 85 (τ 87 t).toNat = b) (hs : b = 59 ∨ b = 58 ∨ b = 44 ∨ b = 40 ∨ b = 41) : kdR τ t = syT b := by
  rw [kdR_12 (Or.inr h86)]
  have key : ∀ x : Nat, 17 ≤ x → x < 22 → kb x 0 = b → kdF τ t 22 0 = x := by
    intro x x0 x1 hx
    have hk := kb_sym x x1 x0
    have hR : isR τ t x = true := (isR_iff τ t x).mpr ⟨Or.inr h86, by rw [hk.1]; omega, fun j j0 j1 => by
      have e : j = 0 := by have := hk.1; omega
      subst e
      rw [Int.add_zero, hb]; exact hx.symm⟩
    rcases kdF_spec τ t 22 0 (by omega) (by omega) with ⟨-, h2⟩ | ⟨h1, h2, h3⟩
    · have := h2 x (by omega) (by omega)
      rw [show ((x : Int)).toNat = x from by omega, hR] at this
      exact absurd this (by decide)
    · have := isR_inj (by omega) x1 h3 hR
      omega
  obtain ⟨k1, k2, k3, k4, k5⟩ := sy_kb
  rcases hs with h | h | h | h | h <;> subst h
  · exact key 17 (by omega) (by omega) k1
  · exact key 18 (by omega) (by omega) k2
  · exact key 19 (by omega) (by omega) k3
  · exact key 20 (by omega) (by omega) k4
  · exact key 21 (by omega) (by omega) k5
end S60
