/-! the reference: the form -/
section S33
variable {l : Launch} {G : Gx}
def kdF (σ : Sg) (t : Nat) : Nat → Int → Int
  | 0, _ => 22
  | n + 1, i => if isR σ t i.toNat = true then i else kdF σ t n (i + 1)
def kdR (σ : Sg) (t : Nat) : Int := if σ 86 t = 0 then 25 else if σ 86 t = 2 then 23 else if σ 86 t = 4 then 24 else kdF σ t 22 0
def KR (σ : Sg) (e t : Int) : Int := if 0 ≤ t ∧ t ≤ e then kdR σ t.toNat else 25
/-- what a token of each kind is -/
def TkOk (σ : Sg) (e : Int) : Prop := ∀ t : Nat, (t : Int) ≤ e → (σ 86 t = 1 → isLet (σ 85 (σ 87 t).toNat) = true) ∧ (σ 86 t = 3 → σ 88 t = σ 87 t + 1 ∧ isSym (σ 85 (σ 87 t).toNat) = true)
def FmH (σ : Sg) (e : Int) : Prop := Rb σ ∧ Rt σ ∧ (0 ≤ e ∧ e ≤ 1500) ∧ σ 86 e.toNat = 0 ∧ TkOk σ e
theorem kdF_spec (σ : Sg) (t : Nat) : ∀ (n : Nat) (i : Int), 0 ≤ i → i + n = 22 → (kdF σ t n i = 22 ∧ ∀ j : Int, i ≤ j → j < 22 → isR σ t j.toNat = false) ∨ (i ≤ kdF σ t n i ∧ kdF σ t n i < 22 ∧ isR σ t (kdF σ t n i).toNat = true)
  | 0, i, h0, hn => Or.inl ⟨rfl, fun j h1 h2 => by omega⟩
  | n + 1, i, h0, hn => by
    simp only [kdF]
    split
    · rename_i c
      exact Or.inr ⟨by omega, by omega, c⟩
    · rename_i c
      have c2 : isR σ t i.toNat = false := by simpa using c
      rcases kdF_spec σ t n (i + 1) (by omega) (by omega) with ⟨h1, h2⟩ | ⟨h1, h2, h3⟩
      · refine Or.inl ⟨h1, fun j hj1 hj2 => ?_⟩
        by_cases ej : j = i
        · subst ej; exact c2
        · exact h2 j (by omega) hj2
      · exact Or.inr ⟨by omega, h2, h3⟩
theorem isF_spec (σ : Sg) (t i : Nat) : ∀ (n : Nat) (k : Int), 0 ≤ k → (isF σ t i n k = true ↔ ∀ j : Int, k ≤ j → j < k + n → σ 85 (σ 87 t + j).toNat = kb i j.toNat)
  | 0, k, h0 => by simp only [isF]; exact ⟨fun _ j h1 h2 => by omega, fun _ => trivial⟩
  | n + 1, k, h0 => by
    simp only [isF]
    split
    · rename_i c
      rw [isF_spec σ t i n (k + 1) (by omega)]
      constructor
      · intro h j h1 h2
        by_cases ej : j = k
        · subst ej; exact c
        · exact h j (by omega) (by omega)
      · intro h j h1 h2
        exact h j (by omega) (by omega)
    · rename_i c
      constructor
      · intro h; cases h
      · intro h; exact absurd (h k (by omega) (by omega)) c
theorem isR_iff (σ : Sg) (t i : Nat) : isR σ t i = true ↔ (σ 86 t = 1 ∨ σ 86 t = 3) ∧ σ 88 t - σ 87 t = kl i ∧ ∀ j : Int, 0 ≤ j → j < kl i → σ 85 (σ 87 t + j).toNat = kb i j.toNat := by
  unfold isR
  rw [Bool.and_eq_true, decide_eq_true_eq, isF_spec σ t i _ 0 (by omega), and_assoc]
  have e : (0 : Int) + ((kl i).toNat : Nat) = kl i := by
    have : 0 ≤ kl i := by unfold kl; omega
    omega
  rw [e]
def txNe (i j : Nat) : Bool := decide (kl i ≠ kl j) || (List.range (kl i).toNat).any (fun q => decide (kb i q ≠ kb j q))
theorem txNe_all : ∀ i, i < 22 → ∀ j, j < 22 → i ≠ j → txNe i j = true := by decide +kernel
theorem isR_inj {σ : Sg} {t i j : Nat} (hi : i < 22) (hj : j < 22) (h1 : isR σ t i = true) (h2 : isR σ t j = true) : i = j := by
  by_cases e : i = j
  · exact e
  · exfalso
    have hn := txNe_all i hi j hj e
    obtain ⟨-, a2, a3⟩ := (isR_iff σ t i).mp h1
    obtain ⟨-, b2, b3⟩ := (isR_iff σ t j).mp h2
    unfold txNe at hn
    rw [Bool.or_eq_true, decide_eq_true_eq, List.any_eq_true] at hn
    rcases hn with hn | ⟨q, hq1, hq2⟩
    · exact hn (a2.symm.trans b2)
    · have hq3 := List.mem_range.mp hq1
      have hq4 := of_decide_eq_true hq2
      have a := a3 (q : Int) (by omega) (by omega)
      have b := b3 (q : Int) (by omega) (by omega)
      rw [Int.toNat_natCast] at a b
      exact hq4 (a.symm.trans b)
theorem KR_in {σ : Sg} {e t : Int} (h : 0 ≤ t ∧ t ≤ e) : KR σ e t = kdR σ t.toNat := by unfold KR; rw [if_pos h]
theorem kdR_12 {σ : Sg} {t : Nat} (h : σ 86 t = 1 ∨ σ 86 t = 3) : kdR σ t = kdF σ t 22 0 := by
  unfold kdR
  rw [if_neg (by omega), if_neg (by omega), if_neg (by omega)]
theorem isR_kd (σ : Sg) (t i : Nat) (hi : i < 22) : isR σ t i = decide (kdR σ t = i) := by
  by_cases h : isR σ t i = true
  · rw [h]
    have hk := ((isR_iff σ t i).mp h).1
    refine (decide_eq_true ?_).symm
    rw [kdR_12 hk]
    rcases kdF_spec σ t 22 0 (by omega) (by omega) with ⟨h1, h2⟩ | ⟨h1, h2, h3⟩
    · have := h2 (i : Int) (by omega) (by omega)
      rw [Int.toNat_natCast, h] at this; cases this
    · have := isR_inj (by omega) hi h3 h
      omega
  · rw [Bool.not_eq_true] at h
    rw [h]
    refine (decide_eq_false ?_).symm
    intro e
    unfold kdR at e
    split at e
    · omega
    · split at e
      · omega
      · split at e
        · omega
        · rcases kdF_spec σ t 22 0 (by omega) (by omega) with ⟨h1, h2⟩ | ⟨h1, h2, h3⟩
          · omega
          · rw [e, Int.toNat_natCast, h] at h3; cases h3
theorem nmF_iff (σ : Sg) (t : Nat) : ∀ (n : Nat) (i : Int), 0 ≤ i → (nmF σ t n i = true ↔ ∀ j : Int, i ≤ j → j < i + n → isR σ t j.toNat = false)
  | 0, i, h0 => by simp only [nmF]; exact ⟨fun _ j h1 h2 => by omega, fun _ => trivial⟩
  | n + 1, i, h0 => by
    simp only [nmF, Bool.and_eq_true, Bool.not_eq_true']
    rw [nmF_iff σ t n (i + 1) (by omega)]
    constructor
    · rintro ⟨a, b⟩ j h1 h2
      by_cases ej : j = i
      · subst ej; exact a
      · exact b j (by omega) (by omega)
    · intro h
      exact ⟨h i (by omega) (by omega), fun j h1 h2 => h j (by omega) (by omega)⟩
theorem kb_sym : ∀ i, i < 22 → 17 ≤ i → kl i = 1 ∧ isLet (kb i 0) = false := by decide +kernel
theorem sym_kb {c : Int} (hc : 0 ≤ c ∧ c ≤ 255) (h : isSym c = true) : ∃ i : Nat, 17 ≤ i ∧ i < 22 ∧ kb i 0 = c := by
  have h2 := of_decide_eq_true h
  rw [i32_n c (by omega)] at h2
  rcases h2 with h2 | h2 | h2 | h2 | h2 <;> subst h2
  · exact ⟨17, by decide, by decide, by decide +kernel⟩
  · exact ⟨18, by decide, by decide, by decide +kernel⟩
  · exact ⟨19, by decide, by decide, by decide +kernel⟩
  · exact ⟨20, by decide, by decide, by decide +kernel⟩
  · exact ⟨21, by decide, by decide, by decide +kernel⟩
theorem nmR_kd {σ : Sg} {e : Int} {t : Nat} (hF : FmH σ e) (h : (t : Int) ≤ e) : nmR σ t = decide (kdR σ t = 22) := by
  obtain ⟨hb, ht, he, hz, hk⟩ := hF
  obtain ⟨k1, k3⟩ := hk t h
  have ht1 := ht t
  by_cases c1 : σ 86 t = 1
  · unfold nmR
    rw [decide_eq_true c1, Bool.true_and]
    have hl := k1 c1
    have hno : ∀ j : Int, 17 ≤ j → j < 22 → isR σ t j.toNat = false := by
      intro j h1 h2
      rw [← Bool.not_eq_true]
      intro hj
      obtain ⟨-, a2, a3⟩ := (isR_iff σ t j.toNat).mp hj
      obtain ⟨b1, b2⟩ := kb_sym j.toNat (by omega) (by omega)
      have := a3 0 (by omega) (by omega)
      rw [Int.add_zero] at this
      rw [this] at hl
      have e0 : (0 : Int).toNat = 0 := rfl
      rw [e0, b2] at hl; cases hl
    rw [kdR_12 (Or.inl c1), Bool.eq_iff_iff, nmF_iff σ t 17 0 (by omega), decide_eq_true_eq]
    constructor
    · intro hh
      rcases kdF_spec σ t 22 0 (by omega) (by omega) with ⟨h1, h2⟩ | ⟨h1, h2, h3⟩
      · exact h1
      · exfalso
        by_cases c : kdF σ t 22 0 < 17
        · rw [hh _ h1 (by omega)] at h3; cases h3
        · rw [hno _ (by omega) h2] at h3; cases h3
    · intro hh j h1 h2
      rcases kdF_spec σ t 22 0 (by omega) (by omega) with ⟨h3, h4⟩ | ⟨h3, h4, h5⟩
      · exact h4 j h1 (by omega)
      · omega
  · unfold nmR
    rw [decide_eq_false c1, Bool.false_and]
    refine (decide_eq_false ?_).symm
    intro e2
    unfold kdR at e2
    split at e2
    · omega
    · split at e2
      · omega
      · split at e2
        · omega
        · have c3 : σ 86 t = 3 := by omega
          obtain ⟨d1, d2⟩ := k3 c3
          obtain ⟨i, i1, i2, i3⟩ := sym_kb (hb.2 _) d2
          rcases kdF_spec σ t 22 0 (by omega) (by omega) with ⟨h1, h2⟩ | ⟨h1, h2, h3⟩
          · have := h2 (i : Int) (by omega) (by omega)
            rw [Int.toNat_natCast] at this
            have h4 : isR σ t i = true := by
              rw [isR_iff]
              refine ⟨Or.inr c3, by have := (kb_sym i i2 i1).1; omega, fun j j1 j2 => ?_⟩
              have := (kb_sym i i2 i1).1
              have : j = 0 := by omega
              subst this
              rw [Int.add_zero, show (0 : Int).toNat = 0 from rfl, i3]
            rw [this] at h4; cases h4
          · omega
theorem kdF_le (σ : Sg) (t : Nat) : 0 ≤ kdF σ t 22 0 ∧ kdF σ t 22 0 ≤ 22 := by
  rcases kdF_spec σ t 22 0 (by omega) (by omega) with ⟨h1, h2⟩ | ⟨h1, h2, h3⟩ <;> omega
theorem kdR_num (σ : Sg) (t : Nat) : kdR σ t = 23 ↔ σ 86 t = 2 := by
  have := kdF_le σ t
  unfold kdR
  (repeat' split) <;> omega
theorem kdR_end (σ : Sg) (t : Nat) : kdR σ t = 25 ↔ σ 86 t = 0 := by
  have := kdF_le σ t
  unfold kdR
  (repeat' split) <;> omega
theorem kdR_rng (σ : Sg) (t : Nat) : 0 ≤ kdR σ t ∧ kdR σ t ≤ 25 := by
  have := kdF_le σ t
  unfold kdR
  (repeat' split) <;> omega
theorem FmH.e {σ : Sg} {e : Int} (h : FmH σ e) : KR σ e e = 25 := by
  obtain ⟨hb, ht, he, hz, hk⟩ := h
  rw [KR_in ⟨he.1, Int.le_refl _⟩, kdR_end]; exact hz
/-! states of the form -/
def stR (σ : Sg) (s : Pp) : Sg := up (up σ 84 9 s.2) 84 8 s.1
def bd (e : Int) (s : Pp) : Prop := (0 ≤ s.1 ∧ s.1 ≤ e) ∧ 0 ≤ s.2 ∧ s.2 ≤ 1500
theorem isR_st (σ : Sg) (s : Pp) : isR (stR σ s) = isR σ := by
  have h : ∀ t i n k, isF (stR σ s) t i n k = isF σ t i n k := by
    intro t i n
    induction n with
    | zero => intro k; rfl
    | succ n ih => intro k; simp only [isF, ih]; rfl
  funext t i
  unfold isR
  rw [h]; rfl
theorem nmR_st (σ : Sg) (s : Pp) : nmR (stR σ s) = nmR σ := by
  have h : ∀ t n k, nmF (stR σ s) t n k = nmF σ t n k := by
    intro t n
    induction n with
    | zero => intro k; rfl
    | succ n ih => intro k; simp only [nmF, ih, isR_st]
  funext t
  unfold nmR
  rw [h]; rfl
theorem stR_8 (σ : Sg) (s : Pp) : stR σ s 84 8 = s.1 := rfl
theorem stR_9 (σ : Sg) (s : Pp) : stR σ s 84 9 = s.2 := rfl
theorem stR_86 (σ : Sg) (s : Pp) : stR σ s 86 = σ 86 := rfl
theorem stR_u8 (σ : Sg) (s : Pp) (a : Int) : up (stR σ s) 84 8 a = stR σ (a, s.2) := by simp only [stR, up_up]
theorem stR_u9 (σ : Sg) (s : Pp) (a : Int) : up (stR σ s) 84 9 a = stR σ (s.1, a) := by
  simp only [stR]
  rw [up_swap (up σ 84 9 s.2) s.1 a (by decide), up_up]
theorem stR_I (σ : Sg) : stR σ (σ 84 8, σ 84 9) = σ := by
  show up (up σ 84 9 (σ 84 9)) 84 8 (σ 84 8) = σ
  rw [up_self, up_self]
theorem sees_eq {σ : Sg} {e : Int} {s : Pp} {i : Nat} (hs : bd e s) (hi : i < 22) : isR σ s.1.toNat i = decide (KR σ e s.1 = i) := by rw [isR_kd _ _ _ hi, KR_in hs.1]
theorem name_eq {σ : Sg} {e : Int} {s : Pp} (hF : FmH σ e) (hs : bd e s) : nmR σ s.1.toNat = decide (KR σ e s.1 = 22) := by rw [nmR_kd hF (by have := hs.1; omega), KR_in hs.1]
theorem num_eq {σ : Sg} {e : Int} {s : Pp} (hs : bd e s) : KR σ e s.1 = 23 ↔ σ 86 s.1.toNat = 2 := by rw [KR_in hs.1, kdR_num]
theorem end_eq {σ : Sg} {e : Int} {s : Pp} (hs : bd e s) : KR σ e s.1 = 25 ↔ σ 86 s.1.toNat = 0 := by rw [KR_in hs.1, kdR_end]
/-! the parsers -/
def rG (s : Pp) : Bool × Pp := if s.1 - s.2 = 30 then (false, s) else (true, (s.1 + 1, s.2))
def rC (K : Int → Int) (k : Int) (s : Pp) : Bool × Pp := if K s.1 = k then rG s else (false, s)
def rJ (K : Int → Int) (k : Int) (q : Ps) : Nat → Pp → Bool × Pp
  | 0, s => (true, s)
  | n + 1, s => if K s.1 = k then (if (pA rG q s).1 = true then rJ K k q n (pA rG q s).2 else (false, (pA rG q s).2)) else (true, s)
def rBoth (K : Int → Int) (one : Ps) : Ps := pA one (rJ K 13 one 1501)
def rAny (K : Int → Int) (one : Ps) : Ps := pA (rBoth K one) (rJ K 14 (rBoth K one) 1501)
def rOne (K : Int → Int) : Nat → Pp → Bool × Pp
  | 0, s => if K s.1 = 22 then rG s else (false, s)
  | m + 1, s => if K s.1 = 22 then rG s else if K s.1 = 15 then pA rG (rOne K m) s else if K s.1 = 20 then pA rG (pA (rAny K (rOne K m)) (rC K 21)) s else (false, s)
def qEx (K : Int → Int) : Ps := fun s => rAny K (rOne K 8) (s.1, s.1)
def qTags (K : Int → Int) (s : Pp) : Bool × Pp := if (pT K 3 s).1 = true then pA (pT K 22) (pR K 19 (pA (pT K 19) (pT K 22)) 1501) (pT K 3 s).2 else (true, s)
def qPart (K : Int → Int) : Ps := pA (pT K 23) (fun s => pT K 22 (pT K 4 s).2)
def qL (K : Int → Int) (q : Ps) : Nat → Pp → Bool × Pp
  | 0, s => (true, s)
  | n + 1, s => if (q s).1 = true then (if (pT K 19 (q s).2).1 = true then qL K q n (pT K 19 (q s).2).2 else (true, (q s).2)) else (false, (q s).2)
def qSpan (K : Int → Int) : Ps := pA (pT K 23) (pA (pT K 22) (pA (pT K 10) (pT K 23)))
def qRule (K : Int → Int) (s : Pp) : Bool × Pp := if (pT K 7 s).1 = true then pA (pT K 23) (pT K 22) (pT K 7 s).2 else if (pT K 11 s).1 = true then pA (pT K 23) (pA (pT K 12) (pT K 23)) (pT K 11 s).2 else if (pT K 8 s).1 = true then qSpan K (pT K 8 s).2 else if (pT K 9 s).1 = true then qSpan K (pT K 9 s).2 else (false, s)
def qPrice (K : Int → Int) (s : Pp) : Bool × Pp := if (pT K 16 s).1 = true then pT K 23 (pT K 16 s).2 else (true, s)
def qFood (K : Int → Int) : Ps := pA (pT K 22) (pA (pT K 23) (pA (qPrice K) (pA (qTags K) (pT K 17))))
def qDish (K : Int → Int) : Ps := pA (pT K 22) (pA (pT K 2) (pA (pT K 23) (pA (pT K 18) (pA (qL K (qPart K) 1501) (pA (qTags K) (pT K 17))))))
def qMeal (K : Int → Int) : Ps := pA (pT K 22) (pA (pT K 18) (pA (qL K (qEx K) 1501) (pT K 17)))
def qItem (K : Int → Int) (s : Pp) : Bool × Pp := if (pT K 0 s).1 = true then qFood K (pT K 0 s).2 else if (pT K 1 s).1 = true then qDish K (pT K 1 s).2 else if (pT K 5 s).1 = true then qMeal K (pT K 5 s).2 else if (pT K 6 s).1 = true then pA (qRule K) (pT K 17) (pT K 6 s).2 else (false, s)
def qProg (K : Int → Int) : Nat → Pp → Bool × Pp
  | 0, s => (true, s)
  | n + 1, s => if (qItem K s).1 = true then (if K (qItem K s).2.1 = 25 then (true, (qItem K s).2) else qProg K n (qItem K s).2) else (false, (qItem K s).2)
theorem pT_f {K : Int → Int} {k : Int} {s : Pp} (h : (pT K k s).1 = false) : (pT K k s).2 = s := by
  unfold pT at h ⊢
  split
  · rename_i c; rw [if_pos c] at h; cases h
  · rfl
theorem pT_n {K : Int → Int} {k : Int} {s : Pp} (h : (pT K k s).1 = false) : ¬ K s.1 = k := by
  unfold pT at h
  intro c
  rw [if_pos c] at h; cases h
theorem pT_ok {K : Int → Int} {k : Int} {s : Pp} (h : (pT K k s).1 = true) : K s.1 = k ∧ (pT K k s).2 = (s.1 + 1, s.2) := by
  unfold pT at h ⊢
  split
  · rename_i c; exact ⟨c, rfl⟩
  · rename_i c; rw [if_neg c] at h; cases h
theorem nc0 : ((0 : Nat) : Int) = 0 := rfl
theorem nc1 : ((1 : Nat) : Int) = 1 := rfl
theorem nc2 : ((2 : Nat) : Int) = 2 := rfl
theorem nc3 : ((3 : Nat) : Int) = 3 := rfl
theorem nc4 : ((4 : Nat) : Int) = 4 := rfl
theorem nc5 : ((5 : Nat) : Int) = 5 := rfl
theorem nc6 : ((6 : Nat) : Int) = 6 := rfl
theorem nc7 : ((7 : Nat) : Int) = 7 := rfl
theorem nc8 : ((8 : Nat) : Int) = 8 := rfl
theorem nc9 : ((9 : Nat) : Int) = 9 := rfl
theorem nc10 : ((10 : Nat) : Int) = 10 := rfl
theorem nc11 : ((11 : Nat) : Int) = 11 := rfl
theorem nc12 : ((12 : Nat) : Int) = 12 := rfl
theorem nc13 : ((13 : Nat) : Int) = 13 := rfl
theorem nc14 : ((14 : Nat) : Int) = 14 := rfl
theorem nc15 : ((15 : Nat) : Int) = 15 := rfl
theorem nc16 : ((16 : Nat) : Int) = 16 := rfl
theorem nc17 : ((17 : Nat) : Int) = 17 := rfl
theorem nc18 : ((18 : Nat) : Int) = 18 := rfl
theorem nc19 : ((19 : Nat) : Int) = 19 := rfl
theorem nc20 : ((20 : Nat) : Int) = 20 := rfl
theorem nc21 : ((21 : Nat) : Int) = 21 := rfl
/-! they go forward, and no farther than the end -/
def gF (e : Int) (p : Ps) : Prop := ∀ s, bd e s → bd e (p s).2 ∧ s.1 ≤ (p s).2.1
def gT (e : Int) (p : Ps) : Prop := ∀ s, bd e s → bd e (p s).2 ∧ s.1 ≤ (p s).2.1 ∧ ((p s).1 = true → s.1 < (p s).2.1)
theorem gT.f {e : Int} {p : Ps} (h : gT e p) : gF e p := fun s hs => ⟨(h s hs).1, (h s hs).2.1⟩
theorem gT_T {K : Int → Int} {e k : Int} (hE : K e = 25) (hk : k ≠ 25) : gT e (pT K k) := by
  intro s hs
  unfold pT
  split
  · rename_i c
    have : s.1 ≠ e := fun z => hk (by rw [← c, z, hE])
    exact ⟨⟨⟨by have := hs.1; show 0 ≤ s.1 + 1; omega, by have := hs.1; show s.1 + 1 ≤ e; omega⟩, hs.2⟩, by show s.1 ≤ s.1 + 1; omega, fun _ => by show s.1 < s.1 + 1; omega⟩
  · exact ⟨hs, Int.le_refl _, fun z => absurd (show false = true from z) (by decide)⟩
theorem gF_A {e : Int} {p q : Ps} (hp : gF e p) (hq : gF e q) : gF e (pA p q) := by
  intro s hs
  have h1 := hp s hs
  unfold pA
  split
  · have h2 := hq _ h1.1
    exact ⟨h2.1, Int.le_trans h1.2 h2.2⟩
  · exact h1
theorem gT_A {e : Int} {p q : Ps} (hp : gT e p) (hq : gF e q) : gT e (pA p q) := by
  intro s hs
  have h1 := hp s hs
  unfold pA
  split
  · rename_i c
    have h2 := hq _ h1.1
    exact ⟨h2.1, Int.le_trans h1.2.1 h2.2, fun _ => Int.lt_of_lt_of_le (h1.2.2 c) h2.2⟩
  · rename_i c
    exact ⟨h1.1, h1.2.1, fun z => absurd (show false = true from z) (by decide)⟩
theorem gF_R {K : Int → Int} {e k : Int} {q : Ps} (hq : gF e q) : ∀ n, gF e (pR K k q n) := by
  intro n
  induction n with
  | zero => intro s hs; exact ⟨hs, Int.le_refl _⟩
  | succ n ih =>
    intro s hs
    simp only [pR]
    split
    · split
      · have h1 := hq s hs
        have h2 := ih _ h1.1
        exact ⟨h2.1, Int.le_trans h1.2 h2.2⟩
      · exact hq s hs
    · exact ⟨hs, Int.le_refl _⟩
theorem gF_L {K : Int → Int} {e : Int} {q : Ps} (hE : K e = 25) (hq : gF e q) : ∀ n, gF e (qL K q n) := by
  intro n
  induction n with
  | zero => intro s hs; exact ⟨hs, Int.le_refl _⟩
  | succ n ih =>
    intro s hs
    have h1 := hq s hs
    simp only [qL]
    split
    · split
      · have h2 := gT_T (k := 19) hE (by decide) _ h1.1
        have h3 := ih _ h2.1
        exact ⟨h3.1, by omega⟩
      · exact h1
    · exact h1
theorem gF_if {e : Int} {p q : Ps} {c : Pp → Prop} [∀ s, Decidable (c s)] (hp : gF e p) (hq : gF e q) : gF e (fun s => if c s then p s else q s) := by
  intro s hs
  dsimp only
  split
  · exact hp s hs
  · exact hq s hs
theorem gF_id {e : Int} (b : Bool) : gF e (fun s => (b, s)) := fun s hs => ⟨hs, Int.le_refl _⟩
theorem gF_2 {e : Int} {p q : Ps} (hp : gF e p) (hq : gF e q) : gF e (fun s => q (p s).2) := fun s hs => ⟨(hq _ (hp s hs).1).1, Int.le_trans (hp s hs).2 (hq _ (hp s hs).1).2⟩
theorem gF_Tags {K : Int → Int} {e : Int} (hE : K e = 25) : gF e (qTags K) := gF_if (gF_2 (gT_T hE (by decide)).f (gF_A (gT_T hE (by decide)).f (gF_R (gF_A (gT_T hE (by decide)).f (gT_T hE (by decide)).f) _))) (gF_id true)
theorem gF_Part {K : Int → Int} {e : Int} (hE : K e = 25) : gF e (qPart K) := gF_A (gT_T hE (by decide)).f (gF_2 (gT_T hE (by decide)).f (gT_T hE (by decide)).f)
theorem gF_Price {K : Int → Int} {e : Int} (hE : K e = 25) : gF e (qPrice K) := gF_if (gF_2 (gT_T hE (by decide)).f (gT_T hE (by decide)).f) (gF_id true)
theorem gF_Span {K : Int → Int} {e : Int} (hE : K e = 25) : gF e (qSpan K) := gF_A (gT_T hE (by decide)).f (gF_A (gT_T hE (by decide)).f (gF_A (gT_T hE (by decide)).f (gT_T hE (by decide)).f))
theorem gF_Rule {K : Int → Int} {e : Int} (hE : K e = 25) : gF e (qRule K) := gF_if (gF_2 (gT_T hE (by decide)).f (gF_A (gT_T hE (by decide)).f (gT_T hE (by decide)).f)) (gF_if (gF_2 (gT_T hE (by decide)).f (gF_A (gT_T hE (by decide)).f (gF_A (gT_T hE (by decide)).f (gT_T hE (by decide)).f))) (gF_if (gF_2 (gT_T hE (by decide)).f (gF_Span hE)) (gF_if (gF_2 (gT_T hE (by decide)).f (gF_Span hE)) (gF_id false))))
/-- where a token can still be: no end there -/
theorem g_G {K : Int → Int} {e : Int} (hE : K e = 25) {s : Pp} (hs : bd e s) (h : K s.1 ≠ 25) : bd e (rG s).2 ∧ s.1 ≤ (rG s).2.1 := by
  unfold rG
  split
  · exact ⟨hs, Int.le_refl _⟩
  · have : s.1 ≠ e := fun z => h (by rw [z, hE])
    exact ⟨⟨⟨by have := hs.1; show 0 ≤ s.1 + 1; omega, by have := hs.1; show s.1 + 1 ≤ e; omega⟩, hs.2⟩, by show s.1 ≤ s.1 + 1; omega⟩
theorem g_Gt {s : Pp} (h : (rG s).1 = true) : s.1 < (rG s).2.1 := by
  unfold rG at h ⊢
  split
  · rename_i c; rw [if_pos c] at h; cases h
  · show s.1 < s.1 + 1; omega
theorem gF_C {K : Int → Int} {e k : Int} (hE : K e = 25) (hk : k ≠ 25) : gF e (rC K k) := by
  intro s hs
  unfold rC
  split
  · rename_i c; exact g_G hE hs (by rw [c]; exact hk)
  · exact ⟨hs, Int.le_refl _⟩
theorem g_GA {K : Int → Int} {e : Int} {q : Ps} (hE : K e = 25) (hq : gF e q) {s : Pp} (hs : bd e s) (h : K s.1 ≠ 25) : bd e (pA rG q s).2 ∧ s.1 ≤ (pA rG q s).2.1 := by
  have h1 := g_G hE hs h
  unfold pA
  split
  · have h2 := hq _ h1.1
    exact ⟨h2.1, Int.le_trans h1.2 h2.2⟩
  · exact h1
theorem gF_J {K : Int → Int} {e k : Int} {q : Ps} (hE : K e = 25) (hk : k ≠ 25) (hq : gF e q) : ∀ n, gF e (rJ K k q n) := by
  intro n
  induction n with
  | zero => intro s hs; exact ⟨hs, Int.le_refl _⟩
  | succ n ih =>
    intro s hs
    simp only [rJ]
    split
    · rename_i c
      have h1 := g_GA hE hq hs (by rw [c]; exact hk)
      split
      · have h2 := ih _ h1.1
        exact ⟨h2.1, Int.le_trans h1.2 h2.2⟩
      · exact h1
    · exact ⟨hs, Int.le_refl _⟩
theorem gF_Both {K : Int → Int} {e : Int} {one : Ps} (hE : K e = 25) (h : gF e one) : gF e (rBoth K one) := gF_A h (gF_J hE (by decide) h _)
theorem gF_Any {K : Int → Int} {e : Int} {one : Ps} (hE : K e = 25) (h : gF e one) : gF e (rAny K one) := gF_A (gF_Both hE h) (gF_J hE (by decide) (gF_Both hE h) _)
theorem gF_One {K : Int → Int} {e : Int} (hE : K e = 25) : ∀ m, gF e (rOne K m) := by
  intro m
  induction m with
  | zero =>
    intro s hs
    simp only [rOne]
    split
    · rename_i c; exact g_G hE hs (by rw [c]; decide)
    · exact ⟨hs, Int.le_refl _⟩
  | succ m ih =>
    intro s hs
    simp only [rOne]
    split
    · rename_i c; exact g_G hE hs (by rw [c]; decide)
    · split
      · rename_i c; exact g_GA hE ih hs (by rw [c]; decide)
      · split
        · rename_i c; exact g_GA hE (gF_A (gF_Any hE ih) (gF_C hE (by decide))) hs (by rw [c]; decide)
        · exact ⟨hs, Int.le_refl _⟩
theorem gF_Ex {K : Int → Int} {e : Int} (hE : K e = 25) (he : e ≤ 1500) : gF e (qEx K) := by
  intro s hs
  have := gF_Any hE (gF_One hE 8) (s.1, s.1) ⟨hs.1, hs.1.1, Int.le_trans hs.1.2 he⟩
  exact this
theorem gF_Food {K : Int → Int} {e : Int} (hE : K e = 25) : gF e (qFood K) := gF_A (gT_T hE (by decide)).f (gF_A (gT_T hE (by decide)).f (gF_A (gF_Price hE) (gF_A (gF_Tags hE) (gT_T hE (by decide)).f)))
theorem gF_Dish {K : Int → Int} {e : Int} (hE : K e = 25) : gF e (qDish K) := gF_A (gT_T hE (by decide)).f (gF_A (gT_T hE (by decide)).f (gF_A (gT_T hE (by decide)).f (gF_A (gT_T hE (by decide)).f (gF_A (gF_L hE (gF_Part hE) _) (gF_A (gF_Tags hE) (gT_T hE (by decide)).f)))))
theorem gF_Meal {K : Int → Int} {e : Int} (hE : K e = 25) (he : e ≤ 1500) : gF e (qMeal K) := gF_A (gT_T hE (by decide)).f (gF_A (gT_T hE (by decide)).f (gF_A (gF_L hE (gF_Ex hE he) _) (gT_T hE (by decide)).f))
theorem gT_2 {e : Int} {p q : Ps} {r : Ps} (hp : gT e p) (hq : gF e q) (hr : gT e r) : gT e (fun s => if (p s).1 = true then q (p s).2 else r s) := by
  intro s hs
  dsimp only
  split
  · rename_i c
    have h1 := hp s hs
    have h2 := hq _ h1.1
    exact ⟨h2.1, Int.le_trans h1.2.1 h2.2, fun _ => Int.lt_of_lt_of_le (h1.2.2 c) h2.2⟩
  · exact hr s hs
theorem gT_no {e : Int} : gT e (fun s => (false, s)) := fun s hs => ⟨hs, Int.le_refl _, fun z => absurd (show false = true from z) (by decide)⟩
theorem gT_Item {K : Int → Int} {e : Int} (hE : K e = 25) (he : e ≤ 1500) : gT e (qItem K) := gT_2 (gT_T hE (by decide)) (gF_Food hE) (gT_2 (gT_T hE (by decide)) (gF_Dish hE) (gT_2 (gT_T hE (by decide)) (gF_Meal hE he) (gT_2 (gT_T hE (by decide)) (gF_A (gF_Rule hE) (gT_T hE (by decide)).f) gT_no)))
end S33
