/-! the reference: the form -/
section S33
variable {l : Launch} {G : Gx}
def kdF (σ : Sg) (t : Nat) : Nat → Int → Int
  | 0, _ => 22
  | n + 1, i => if isR σ t i.toNat = true then i else kdF σ t n (i + 1)
def kdR (σ : Sg) (t : Nat) : Int := if σ 86 t = 0 then 25 else if σ 86 t = 2 then 23 else if σ 86 t = 4 then 24 else kdF σ t 22 0
def KR (σ : Sg) (e t : Int) : Int := if 0 ≤ t ∧ t ≤ e then kdR σ t.toNat else 25
/-- what a token of each kind is -/
def TkOk (σ : Sg) (e : Int) : Prop := ∀ t : Nat, (t : Int) ≤ e → (σ 86 t = 1 → isLet (σ 85 (σ 87 t).toNat) = true) ∧ (σ 86 t = 3 → σ 88 t = σ 87 t + 1 ∧ isSym (σ 85 (σ 87 t).toNat) = true)
def FmH (σ : Sg) (e : Int) : Prop := Rb σ ∧ Rt σ ∧ (0 ≤ e ∧ e ≤ 1500) ∧ σ 86 e.toNat = 0 ∧ TkOk σ e
theorem kdF_spec (σ : Sg) (t : Nat) : ∀ (n : Nat) (i : Int), 0 ≤ i → i + n = 22 → (kdF σ t n i = 22 ∧ ∀ j : Int, i ≤ j → j < 22 → isR σ t j.toNat = false) ∨ (i ≤ kdF σ t n i ∧ kdF σ t n i < 22 ∧ isR σ t (kdF σ t n i).toNat = true)
  | 0, i, h0, hn => Or.inl ⟨rfl, fun j h1 h2 => by omega⟩
  | n + 1, i, h0, hn => by
    simp only [kdF]
    split
    · rename_i c
      exact Or.inr ⟨by omega, by omega, c⟩
    · rename_i c
      have c2 : isR σ t i.toNat = false := by simpa using c
      rcases kdF_spec σ t n (i + 1) (by omega) (by omega) with ⟨h1, h2⟩ | ⟨h1, h2, h3⟩
      · refine Or.inl ⟨h1, fun j hj1 hj2 => ?_⟩
        by_cases ej : j = i
        · subst ej; exact c2
        · exact h2 j (by omega) hj2
      · exact Or.inr ⟨by omega, h2, h3⟩
theorem isF_spec (σ : Sg) (t i : Nat) : ∀ (n : Nat) (k : Int), 0 ≤ k → (isF σ t i n k = true ↔ ∀ j : Int, k ≤ j → j < k + n → σ 85 (σ 87 t + j).toNat = kb i j.toNat)
  | 0, k, h0 => by simp only [isF]; exact ⟨fun _ j h1 h2 => by omega, fun _ => trivial⟩
  | n + 1, k, h0 => by
    simp only [isF]
    split
    · rename_i c
      rw [isF_spec σ t i n (k + 1) (by omega)]
      constructor
      · intro h j h1 h2
        by_cases ej : j = k
        · subst ej; exact c
        · exact h j (by omega) (by omega)
      · intro h j h1 h2
        exact h j (by omega) (by omega)
    · rename_i c
      constructor
      · intro h; cases h
      · intro h; exact absurd (h k (by omega) (by omega)) c
theorem isR_iff (σ : Sg) (t i : Nat) : isR σ t i = true ↔ (σ 86 t = 1 ∨ σ 86 t = 3) ∧ σ 88 t - σ 87 t = kl i ∧ ∀ j : Int, 0 ≤ j → j < kl i → σ 85 (σ 87 t + j).toNat = kb i j.toNat := by
  unfold isR
  rw [Bool.and_eq_true, decide_eq_true_eq, isF_spec σ t i _ 0 (by omega), and_assoc]
  have e : (0 : Int) + ((kl i).toNat : Nat) = kl i := by
    have : 0 ≤ kl i := by unfold kl; omega
    omega
  rw [e]
def txNe (i j : Nat) : Bool := decide (kl i ≠ kl j) || (List.range (kl i).toNat).any (fun q => decide (kb i q ≠ kb j q))
theorem txNe_all : ∀ i, i < 22 → ∀ j, j < 22 → i ≠ j → txNe i j = true := by decide +kernel
theorem isR_inj {σ : Sg} {t i j : Nat} (hi : i < 22) (hj : j < 22) (h1 : isR σ t i = true) (h2 : isR σ t j = true) : i = j := by
  by_cases e : i = j
  · exact e
  · exfalso
    have hn := txNe_all i hi j hj e
    obtain ⟨-, a2, a3⟩ := (isR_iff σ t i).mp h1
    obtain ⟨-, b2, b3⟩ := (isR_iff σ t j).mp h2
    unfold txNe at hn
    rw [Bool.or_eq_true, decide_eq_true_eq, List.any_eq_true] at hn
    rcases hn with hn | ⟨q, hq1, hq2⟩
    · exact hn (a2.symm.trans b2)
    · have hq3 := List.mem_range.mp hq1
      have hq4 := of_decide_eq_true hq2
      have a := a3 (q : Int) (by omega) (by omega)
      have b := b3 (q : Int) (by omega) (by omega)
      rw [Int.toNat_natCast] at a b
      exact hq4 (a.symm.trans b)
theorem KR_in {σ : Sg} {e t : Int} (h : 0 ≤ t ∧ t ≤ e) : KR σ e t = kdR σ t.toNat := by unfold KR; rw [if_pos h]
theorem kdR_12 {σ : Sg} {t : Nat} (h : σ 86 t = 1 ∨ σ 86 t = 3) : kdR σ t = kdF σ t 22 0 := by
  unfold kdR
  rw [if_neg (by omega), if_neg (by omega), if_neg (by omega)]
theorem isR_kd (σ : Sg) (t i : Nat) (hi : i < 22) : isR σ t i = decide (kdR σ t = i) := by
  by_cases h : isR σ t i = true
  · rw [h]
    have hk := ((isR_iff σ t i).mp h).1
    refine (decide_eq_true ?_).symm
    rw [kdR_12 hk]
    rcases kdF_spec σ t 22 0 (by omega) (by omega) with ⟨h1, h2⟩ | ⟨h1, h2, h3⟩
    · have := h2 (i : Int) (by omega) (by omega)
      rw [Int.toNat_natCast, h] at this; cases this
    · have := isR_inj (by omega) hi h3 h
      omega
  · rw [Bool.not_eq_true] at h
    rw [h]
    refine (decide_eq_false ?_).symm
    intro e
    unfold kdR at e
    split at e
    · omega
    · split at e
      · omega
      · split at e
        · omega
        · rcases kdF_spec σ t 22 0 (by omega) (by omega) with ⟨h1, h2⟩ | ⟨h1, h2, h3⟩
          · omega
          · rw [e, Int.toNat_natCast, h] at h3; cases h3
theorem nmF_iff (σ : Sg) (t : Nat) : ∀ (n : Nat) (i : Int), 0 ≤ i → (nmF σ t n i = true ↔ ∀ j : Int, i ≤ j → j < i + n → isR σ t j.toNat = false)
  | 0, i, h0 => by simp only [nmF]; exact ⟨fun _ j h1 h2 => by omega, fun _ => trivial⟩
  | n + 1, i, h0 => by
    simp only [nmF, Bool.and_eq_true, Bool.not_eq_true']
    rw [nmF_iff σ t n (i + 1) (by omega)]
    constructor
    · rintro ⟨a, b⟩ j h1 h2
      by_cases ej : j = i
      · subst ej; exact a
      · exact b j (by omega) (by omega)
    · intro h
      exact ⟨h i (by omega) (by omega), fun j h1 h2 => h j (by omega) (by omega)⟩
theorem kb_sym : ∀ i, i < 22 → 17 ≤ i → kl i = 1 ∧ isLet (kb i 0) = false := by decide +kernel
theorem sym_kb {c : Int} (hc : 0 ≤ c ∧ c ≤ 255) (h : isSym c = true) : ∃ i : Nat, 17 ≤ i ∧ i < 22 ∧ kb i 0 = c := by
  have h2 := of_decide_eq_true h
  rw [i32_n c (by omega)] at h2
  rcases h2 with h2 | h2 | h2 | h2 | h2 <;> subst h2
  · exact ⟨17, by decide, by decide, by decide +kernel⟩
  · exact ⟨18, by decide, by decide, by decide +kernel⟩
  · exact ⟨19, by decide, by decide, by decide +kernel⟩
  · exact ⟨20, by decide, by decide, by decide +kernel⟩
  · exact ⟨21, by decide, by decide, by decide +kernel⟩
theorem nmR_kd {σ : Sg} {e : Int} {t : Nat} (hF : FmH σ e) (h : (t : Int) ≤ e) : nmR σ t = decide (kdR σ t = 22) := by
  obtain ⟨hb, ht, he, hz, hk⟩ := hF
  obtain ⟨k1, k3⟩ := hk t h
  have ht1 := ht t
  by_cases c1 : σ 86 t = 1
  · unfold nmR
    rw [decide_eq_true c1, Bool.true_and]
    have hl := k1 c1
    have hno : ∀ j : Int, 17 ≤ j → j < 22 → isR σ t j.toNat = false := by
      intro j h1 h2
      rw [← Bool.not_eq_true]
      intro hj
      obtain ⟨-, a2, a3⟩ := (isR_iff σ t j.toNat).mp hj
      obtain ⟨b1, b2⟩ := kb_sym j.toNat (by omega) (by omega)
      have := a3 0 (by omega) (by omega)
      rw [Int.add_zero] at this
      rw [this] at hl
      have e0 : (0 : Int).toNat = 0 := rfl
      rw [e0, b2] at hl; cases hl
    rw [kdR_12 (Or.inl c1), Bool.eq_iff_iff, nmF_iff σ t 17 0 (by omega), decide_eq_true_eq]
    constructor
    · intro hh
      rcases kdF_spec σ t 22 0 (by omega) (by omega) with ⟨h1, h2⟩ | ⟨h1, h2, h3⟩
      · exact h1
      · exfalso
        by_cases c : kdF σ t 22 0 < 17
        · rw [hh _ h1 (by omega)] at h3; cases h3
        · rw [hno _ (by omega) h2] at h3; cases h3
    · intro hh j h1 h2
      rcases kdF_spec σ t 22 0 (by omega) (by omega) with ⟨h3, h4⟩ | ⟨h3, h4, h5⟩
      · exact h4 j h1 (by omega)
      · omega
  · unfold nmR
    rw [decide_eq_false c1, Bool.false_and]
    refine (decide_eq_false ?_).symm
    intro e2
    unfold kdR at e2
    split at e2
    · omega
    · split at e2
      · omega
      · split at e2
        · omega
        · have c3 : σ 86 t = 3 := by omega
          obtain ⟨d1, d2⟩ := k3 c3
          obtain ⟨i, i1, i2, i3⟩ := sym_kb (hb.2 _) d2
          rcases kdF_spec σ t 22 0 (by omega) (by omega) with ⟨h1, h2⟩ | ⟨h1, h2, h3⟩
          · have := h2 (i : Int) (by omega) (by omega)
            rw [Int.toNat_natCast] at this
            have h4 : isR σ t i = true := by
              rw [isR_iff]
              refine ⟨Or.inr c3, by have := (kb_sym i i2 i1).1; omega, fun j j1 j2 => ?_⟩
              have := (kb_sym i i2 i1).1
              have : j = 0 := by omega
              subst this
              rw [Int.add_zero, show (0 : Int).toNat = 0 from rfl, i3]
            rw [this] at h4; cases h4
          · omega
theorem kdF_le (σ : Sg) (t : Nat) : 0 ≤ kdF σ t 22 0 ∧ kdF σ t 22 0 ≤ 22 := by
  rcases kdF_spec σ t 22 0 (by omega) (by omega) with ⟨h1, h2⟩ | ⟨h1, h2, h3⟩ <;> omega
theorem kdR_num (σ : Sg) (t : Nat) : kdR σ t = 23 ↔ σ 86 t = 2 := by
  have := kdF_le σ t
  unfold kdR
  (repeat' split) <;> omega
theorem kdR_end (σ : Sg) (t : Nat) : kdR σ t = 25 ↔ σ 86 t = 0 := by
  have := kdF_le σ t
  unfold kdR
  (repeat' split) <;> omega
theorem kdR_rng (σ : Sg) (t : Nat) : 0 ≤ kdR σ t ∧ kdR σ t ≤ 25 := by
  have := kdF_le σ t
  unfold kdR
  (repeat' split) <;> omega
theorem FmH.e {σ : Sg} {e : Int} (h : FmH σ e) : KR σ e e = 25 := by
  obtain ⟨hb, ht, he, hz, hk⟩ := h
  rw [KR_in ⟨he.1, Int.le_refl _⟩, kdR_end]; exact hz
/-! states of the form -/
def stR (σ : Sg) (s : Pp) : Sg := up (up σ 84 9 s.2) 84 8 s.1
def bd (e : Int) (s : Pp) : Prop := (0 ≤ s.1 ∧ s.1 ≤ e) ∧ 0 ≤ s.2 ∧ s.2 ≤ 1500
theorem isR_st (σ : Sg) (s : Pp) : isR (stR σ s) = isR σ := by
  have h : ∀ t i n k, isF (stR σ s) t i n k = isF σ t i n k := by
    intro t i n
    induction n with
    | zero => intro k; rfl
    | succ n ih => intro k; simp only [isF, ih]; rfl
  funext t i
  unfold isR
  rw [h]; rfl
theorem nmR_st (σ : Sg) (s : Pp) : nmR (stR σ s) = nmR σ := by
  have h : ∀ t n k, nmF (stR σ s) t n k = nmF σ t n k := by
    intro t n
    induction n with
    | zero => intro k; rfl
    | succ n ih => intro k; simp only [nmF, ih, isR_st]
  funext t
  unfold nmR
  rw [h]; rfl
theorem stR_8 (σ : Sg) (s : Pp) : stR σ s 84 8 = s.1 := rfl
theorem stR_9 (σ : Sg) (s : Pp) : stR σ s 84 9 = s.2 := rfl
theorem stR_86 (σ : Sg) (s : Pp) : stR σ s 86 = σ 86 := rfl
theorem stR_u8 (σ : Sg) (s : Pp) (a : Int) : up (stR σ s) 84 8 a = stR σ (a, s.2) := by simp only [stR, up_up]
theorem stR_u9 (σ : Sg) (s : Pp) (a : Int) : up (stR σ s) 84 9 a = stR σ (s.1, a) := by
  simp only [stR]
  rw [up_swap (up σ 84 9 s.2) s.1 a (by decide), up_up]
theorem stR_I (σ : Sg) : stR σ (σ 84 8, σ 84 9) = σ := by
  show up (up σ 84 9 (σ 84 9)) 84 8 (σ 84 8) = σ
  rw [up_self, up_self]
theorem sees_eq {σ : Sg} {e : Int} {s : Pp} {i : Nat} (hs : bd e s) (hi : i < 22) : isR σ s.1.toNat i = decide (KR σ e s.1 = i) := by rw [isR_kd _ _ _ hi, KR_in hs.1]
theorem name_eq {σ : Sg} {e : Int} {s : Pp} (hF : FmH σ e) (hs : bd e s) : nmR σ s.1.toNat = decide (KR σ e s.1 = 22) := by rw [nmR_kd hF (by have := hs.1; omega), KR_in hs.1]
theorem num_eq {σ : Sg} {e : Int} {s : Pp} (hs : bd e s) : KR σ e s.1 = 23 ↔ σ 86 s.1.toNat = 2 := by rw [KR_in hs.1, kdR_num]
theorem end_eq {σ : Sg} {e : Int} {s : Pp} (hs : bd e s) : KR σ e s.1 = 25 ↔ σ 86 s.1.toNat = 0 := by rw [KR_in hs.1, kdR_end]
/-! the parsers -/
def rG (s : Pp) : Bool × Pp := if s.1 - s.2 = 30 then (false, s) else (true, (s.1 + 1, s.2))
def rC (K : Int → Int) (k : Int) (s : Pp) : Bool × Pp := if K s.1 = k then rG s else (false, s)
def rJ (K : Int → Int) (k : Int) (q : Ps) : Nat → Pp → Bool × Pp
  | 0, s => (true, s)
  | n + 1, s => if K s.1 = k then (if (pA rG q s).1 = true then rJ K k q n (pA rG q s).2 else (false, (pA rG q s).2)) else (true, s)
def rBoth (K : Int → Int) (one : Ps) : Ps := pA one (rJ K 13 one 1501)
def rAny (K : Int → Int) (one : Ps) : Ps := pA (rBoth K one) (rJ K 14 (rBoth K one) 1501)
def rOne (K : Int → Int) : Nat → Pp → Bool × Pp
  | 0, s => if K s.1 = 22 then rG s else (false, s)
  | m + 1, s => if K s.1 = 22 then rG s else if K s.1 = 15 then pA rG (rOne K m) s else if K s.1 = 20 then pA rG (pA (rAny K (rOne K m)) (rC K 21)) s else (false, s)
def qEx (K : Int → Int) : Ps := fun s => rAny K (rOne K 8) (s.1, s.1)
def qTags (K : Int → Int) (s : Pp) : Bool × Pp := if (pT K 3 s).1 = true then pA (pT K 22) (pR K 19 (pA (pT K 19) (pT K 22)) 1501) (pT K 3 s).2 else (true, s)
def qPart (K : Int → Int) : Ps := pA (pT K 23) (fun s => pT K 22 (pT K 4 s).2)
def qL (K : Int → Int) (q : Ps) : Nat → Pp → Bool × Pp
  | 0, s => (true, s)
  | n + 1, s => if (q s).1 = true then (if (pT K 19 (q s).2).1 = true then qL K q n (pT K 19 (q s).2).2 else (true, (q s).2)) else (false, (q s).2)
def qSpan (K : Int → Int) : Ps := pA (pT K 23) (pA (pT K 22) (pA (pT K 10) (pT K 23)))
def qRule (K : Int → Int) (s : Pp) : Bool × Pp := if (pT K 7 s).1 = true then pA (pT K 23) (pT K 22) (pT K 7 s).2 else if (pT K 11 s).1 = true then pA (pT K 23) (pA (pT K 12) (pT K 23)) (pT K 11 s).2 else if (pT K 8 s).1 = true then qSpan K (pT K 8 s).2 else if (pT K 9 s).1 = true then qSpan K (pT K 9 s).2 else (false, s)
def qPrice (K : Int → Int) (s : Pp) : Bool × Pp := if (pT K 16 s).1 = true then pT K 23 (pT K 16 s).2 else (true, s)
def qFood (K : Int → Int) : Ps := pA (pT K 22) (pA (pT K 23) (pA (qPrice K) (pA (qTags K) (pT K 17))))
def qDish (K : Int → Int) : Ps := pA (pT K 22) (pA (pT K 2) (pA (pT K 23) (pA (pT K 18) (pA (qL K (qPart K) 1501) (pA (qTags K) (pT K 17))))))
def qMeal (K : Int → Int) : Ps := pA (pT K 22) (pA (pT K 18) (pA (qL K (qEx K) 1501) (pT K 17)))
def qItem (K : Int → Int) (s : Pp) : Bool × Pp := if (pT K 0 s).1 = true then qFood K (pT K 0 s).2 else if (pT K 1 s).1 = true then qDish K (pT K 1 s).2 else if (pT K 5 s).1 = true then qMeal K (pT K 5 s).2 else if (pT K 6 s).1 = true then pA (qRule K) (pT K 17) (pT K 6 s).2 else (false, s)
def qProg (K : Int → Int) : Nat → Pp → Bool × Pp
  | 0, s => (true, s)
  | n + 1, s => if (qItem K s).1 = true then (if K (qItem K s).2.1 = 25 then (true, (qItem K s).2) else qProg K n (qItem K s).2) else (false, (qItem K s).2)
theorem pT_f {K : Int → Int} {k : Int} {s : Pp} (h : (pT K k s).1 = false) : (pT K k s).2 = s := by
  unfold pT at h ⊢
  split
  · rename_i c; rw [if_pos c] at h; cases h
  · rfl
theorem pT_n {K : Int → Int} {k : Int} {s : Pp} (h : (pT K k s).1 = false) : ¬ K s.1 = k := by
  unfold pT at h
  intro c
  rw [if_pos c] at h; cases h
theorem pT_ok {K : Int → Int} {k : Int} {s : Pp} (h : (pT K k s).1 = true) : K s.1 = k ∧ (pT K k s).2 = (s.1 + 1, s.2) := by
  unfold pT at h ⊢
  split
  · rename_i c; exact ⟨c, rfl⟩
  · rename_i c; rw [if_neg c] at h; cases h
theorem nc0 : ((0 : Nat) : Int) = 0 := rfl
theorem nc1 : ((1 : Nat) : Int) = 1 := rfl
theorem nc2 : ((2 : Nat) : Int) = 2 := rfl
theorem nc3 : ((3 : Nat) : Int) = 3 := rfl
theorem nc4 : ((4 : Nat) : Int) = 4 := rfl
theorem nc5 : ((5 : Nat) : Int) = 5 := rfl
theorem nc6 : ((6 : Nat) : Int) = 6 := rfl
theorem nc7 : ((7 : Nat) : Int) = 7 := rfl
theorem nc8 : ((8 : Nat) : Int) = 8 := rfl
theorem nc9 : ((9 : Nat) : Int) = 9 := rfl
theorem nc10 : ((10 : Nat) : Int) = 10 := rfl
theorem nc11 : ((11 : Nat) : Int) = 11 := rfl
theorem nc12 : ((12 : Nat) : Int) = 12 := rfl
theorem nc13 : ((13 : Nat) : Int) = 13 := rfl
theorem nc14 : ((14 : Nat) : Int) = 14 := rfl
theorem nc15 : ((15 : Nat) : Int) = 15 := rfl
theorem nc16 : ((16 : Nat) : Int) = 16 := rfl
theorem nc17 : ((17 : Nat) : Int) = 17 := rfl
theorem nc18 : ((18 : Nat) : Int) = 18 := rfl
theorem nc19 : ((19 : Nat) : Int) = 19 := rfl
theorem nc20 : ((20 : Nat) : Int) = 20 := rfl
theorem nc21 : ((21 : Nat) : Int) = 21 := rfl
/-! they go forward, and no farther than the end -/
def gF (e : Int) (p : Ps) : Prop := ∀ s, bd e s → bd e (p s).2 ∧ s.1 ≤ (p s).2.1
def gT (e : Int) (p : Ps) : Prop := ∀ s, bd e s → bd e (p s).2 ∧ s.1 ≤ (p s).2.1 ∧ ((p s).1 = true → s.1 < (p s).2.1)
theorem gT.f {e : Int} {p : Ps} (h : gT e p) : gF e p := fun s hs => ⟨(h s hs).1, (h s hs).2.1⟩
theorem gT_T {K : Int → Int} {e k : Int} (hE : K e = 25) (hk : k ≠ 25) : gT e (pT K k) := by
  intro s hs
  unfold pT
  split
  · rename_i c
    have : s.1 ≠ e := fun z => hk (by rw [← c, z, hE])
    exact ⟨⟨⟨by have := hs.1; show 0 ≤ s.1 + 1; omega, by have := hs.1; show s.1 + 1 ≤ e; omega⟩, hs.2⟩, by show s.1 ≤ s.1 + 1; omega, fun _ => by show s.1 < s.1 + 1; omega⟩
  · exact ⟨hs, Int.le_refl _, fun z => absurd (show false = true from z) (by decide)⟩
theorem gF_A {e : Int} {p q : Ps} (hp : gF e p) (hq : gF e q) : gF e (pA p q) := by
  intro s hs
  have h1 := hp s hs
  unfold pA
  split
  · have h2 := hq _ h1.1
    exact ⟨h2.1, Int.le_trans h1.2 h2.2⟩
  · exact h1
theorem gT_A {e : Int} {p q : Ps} (hp : gT e p) (hq : gF e q) : gT e (pA p q) := by
  intro s hs
  have h1 := hp s hs
  unfold pA
  split
  · rename_i c
    have h2 := hq _ h1.1
    exact ⟨h2.1, Int.le_trans h1.2.1 h2.2, fun _ => Int.lt_of_lt_of_le (h1.2.2 c) h2.2⟩
  · rename_i c
    exact ⟨h1.1, h1.2.1, fun z => absurd (show false = true from z) (by decide)⟩
theorem gF_R {K : Int → Int} {e k : Int} {q : Ps} (hq : gF e q) : ∀ n, gF e (pR K k q n) := by
  intro n
  induction n with
  | zero => intro s hs; exact ⟨hs, Int.le_refl _⟩
  | succ n ih =>
    intro s hs
    simp only [pR]
    split
    · split
      · have h1 := hq s hs
        have h2 := ih _ h1.1
        exact ⟨h2.1, Int.le_trans h1.2 h2.2⟩
      · exact hq s hs
    · exact ⟨hs, Int.le_refl _⟩
theorem gF_L {K : Int → Int} {e : Int} {q : Ps} (hE : K e = 25) (hq : gF e q) : ∀ n, gF e (qL K q n) := by
  intro n
  induction n with
  | zero => intro s hs; exact ⟨hs, Int.le_refl _⟩
  | succ n ih =>
    intro s hs
    have h1 := hq s hs
    simp only [qL]
    split
    · split
      · have h2 := gT_T (k := 19) hE (by decide) _ h1.1
        have h3 := ih _ h2.1
        exact ⟨h3.1, by omega⟩
      · exact h1
    · exact h1
theorem gF_if {e : Int} {p q : Ps} {c : Pp → Prop} [∀ s, Decidable (c s)] (hp : gF e p) (hq : gF e q) : gF e (fun s => if c s then p s else q s) := by
  intro s hs
  dsimp only
  split
  · exact hp s hs
  · exact hq s hs
theorem gF_id {e : Int} (b : Bool) : gF e (fun s => (b, s)) := fun s hs => ⟨hs, Int.le_refl _⟩
theorem gF_2 {e : Int} {p q : Ps} (hp : gF e p) (hq : gF e q) : gF e (fun s => q (p s).2) := fun s hs => ⟨(hq _ (hp s hs).1).1, Int.le_trans (hp s hs).2 (hq _ (hp s hs).1).2⟩
theorem gF_Tags {K : Int → Int} {e : Int} (hE : K e = 25) : gF e (qTags K) := gF_if (gF_2 (gT_T hE (by decide)).f (gF_A (gT_T hE (by decide)).f (gF_R (gF_A (gT_T hE (by decide)).f (gT_T hE (by decide)).f) _))) (gF_id true)
theorem gF_Part {K : Int → Int} {e : Int} (hE : K e = 25) : gF e (qPart K) := gF_A (gT_T hE (by decide)).f (gF_2 (gT_T hE (by decide)).f (gT_T hE (by decide)).f)
theorem gF_Price {K : Int → Int} {e : Int} (hE : K e = 25) : gF e (qPrice K) := gF_if (gF_2 (gT_T hE (by decide)).f (gT_T hE (by decide)).f) (gF_id true)
theorem gF_Span {K : Int → Int} {e : Int} (hE : K e = 25) : gF e (qSpan K) := gF_A (gT_T hE (by decide)).f (gF_A (gT_T hE (by decide)).f (gF_A (gT_T hE (by decide)).f (gT_T hE (by decide)).f))
theorem gF_Rule {K : Int → Int} {e : Int} (hE : K e = 25) : gF e (qRule K) := gF_if (gF_2 (gT_T hE (by decide)).f (gF_A (gT_T hE (by decide)).f (gT_T hE (by decide)).f)) (gF_if (gF_2 (gT_T hE (by decide)).f (gF_A (gT_T hE (by decide)).f (gF_A (gT_T hE (by decide)).f (gT_T hE (by decide)).f))) (gF_if (gF_2 (gT_T hE (by decide)).f (gF_Span hE)) (gF_if (gF_2 (gT_T hE (by decide)).f (gF_Span hE)) (gF_id false))))
/-- where a token can still be: no end there -/
theorem g_G {K : Int → Int} {e : Int} (hE : K e = 25) {s : Pp} (hs : bd e s) (h : K s.1 ≠ 25) : bd e (rG s).2 ∧ s.1 ≤ (rG s).2.1 := by
  unfold rG
  split
  · exact ⟨hs, Int.le_refl _⟩
  · have : s.1 ≠ e := fun z => h (by rw [z, hE])
    exact ⟨⟨⟨by have := hs.1; show 0 ≤ s.1 + 1; omega, by have := hs.1; show s.1 + 1 ≤ e; omega⟩, hs.2⟩, by show s.1 ≤ s.1 + 1; omega⟩
theorem g_Gt {s : Pp} (h : (rG s).1 = true) : s.1 < (rG s).2.1 := by
  unfold rG at h ⊢
  split
  · rename_i c; rw [if_pos c] at h; cases h
  · show s.1 < s.1 + 1; omega
theorem gF_C {K : Int → Int} {e k : Int} (hE : K e = 25) (hk : k ≠ 25) : gF e (rC K k) := by
  intro s hs
  unfold rC
  split
  · rename_i c; exact g_G hE hs (by rw [c]; exact hk)
  · exact ⟨hs, Int.le_refl _⟩
theorem g_GA {K : Int → Int} {e : Int} {q : Ps} (hE : K e = 25) (hq : gF e q) {s : Pp} (hs : bd e s) (h : K s.1 ≠ 25) : bd e (pA rG q s).2 ∧ s.1 ≤ (pA rG q s).2.1 := by
  have h1 := g_G hE hs h
  unfold pA
  split
  · have h2 := hq _ h1.1
    exact ⟨h2.1, Int.le_trans h1.2 h2.2⟩
  · exact h1
theorem gF_J {K : Int → Int} {e k : Int} {q : Ps} (hE : K e = 25) (hk : k ≠ 25) (hq : gF e q) : ∀ n, gF e (rJ K k q n) := by
  intro n
  induction n with
  | zero => intro s hs; exact ⟨hs, Int.le_refl _⟩
  | succ n ih =>
    intro s hs
    simp only [rJ]
    split
    · rename_i c
      have h1 := g_GA hE hq hs (by rw [c]; exact hk)
      split
      · have h2 := ih _ h1.1
        exact ⟨h2.1, Int.le_trans h1.2 h2.2⟩
      · exact h1
    · exact ⟨hs, Int.le_refl _⟩
theorem gF_Both {K : Int → Int} {e : Int} {one : Ps} (hE : K e = 25) (h : gF e one) : gF e (rBoth K one) := gF_A h (gF_J hE (by decide) h _)
theorem gF_Any {K : Int → Int} {e : Int} {one : Ps} (hE : K e = 25) (h : gF e one) : gF e (rAny K one) := gF_A (gF_Both hE h) (gF_J hE (by decide) (gF_Both hE h) _)
theorem gF_One {K : Int → Int} {e : Int} (hE : K e = 25) : ∀ m, gF e (rOne K m) := by
  intro m
  induction m with
  | zero =>
    intro s hs
    simp only [rOne]
    split
    · rename_i c; exact g_G hE hs (by rw [c]; decide)
    · exact ⟨hs, Int.le_refl _⟩
  | succ m ih =>
    intro s hs
    simp only [rOne]
    split
    · rename_i c; exact g_G hE hs (by rw [c]; decide)
    · split
      · rename_i c; exact g_GA hE ih hs (by rw [c]; decide)
      · split
        · rename_i c; exact g_GA hE (gF_A (gF_Any hE ih) (gF_C hE (by decide))) hs (by rw [c]; decide)
        · exact ⟨hs, Int.le_refl _⟩
theorem gF_Ex {K : Int → Int} {e : Int} (hE : K e = 25) (he : e ≤ 1500) : gF e (qEx K) := by
  intro s hs
  have := gF_Any hE (gF_One hE 8) (s.1, s.1) ⟨hs.1, hs.1.1, Int.le_trans hs.1.2 he⟩
  exact this
theorem gF_Food {K : Int → Int} {e : Int} (hE : K e = 25) : gF e (qFood K) := gF_A (gT_T hE (by decide)).f (gF_A (gT_T hE (by decide)).f (gF_A (gF_Price hE) (gF_A (gF_Tags hE) (gT_T hE (by decide)).f)))
theorem gF_Dish {K : Int → Int} {e : Int} (hE : K e = 25) : gF e (qDish K) := gF_A (gT_T hE (by decide)).f (gF_A (gT_T hE (by decide)).f (gF_A (gT_T hE (by decide)).f (gF_A (gT_T hE (by decide)).f (gF_A (gF_L hE (gF_Part hE) _) (gF_A (gF_Tags hE) (gT_T hE (by decide)).f)))))
theorem gF_Meal {K : Int → Int} {e : Int} (hE : K e = 25) (he : e ≤ 1500) : gF e (qMeal K) := gF_A (gT_T hE (by decide)).f (gF_A (gT_T hE (by decide)).f (gF_A (gF_L hE (gF_Ex hE he) _) (gT_T hE (by decide)).f))
theorem gT_2 {e : Int} {p q : Ps} {r : Ps} (hp : gT e p) (hq : gF e q) (hr : gT e r) : gT e (fun s => if (p s).1 = true then q (p s).2 else r s) := by
  intro s hs
  dsimp only
  split
  · rename_i c
    have h1 := hp s hs
    have h2 := hq _ h1.1
    exact ⟨h2.1, Int.le_trans h1.2.1 h2.2, fun _ => Int.lt_of_lt_of_le (h1.2.2 c) h2.2⟩
  · exact hr s hs
theorem gT_no {e : Int} : gT e (fun s => (false, s)) := fun s hs => ⟨hs, Int.le_refl _, fun z => absurd (show false = true from z) (by decide)⟩
theorem gT_Item {K : Int → Int} {e : Int} (hE : K e = 25) (he : e ≤ 1500) : gT e (qItem K) := gT_2 (gT_T hE (by decide)) (gF_Food hE) (gT_2 (gT_T hE (by decide)) (gF_Dish hE) (gT_2 (gT_T hE (by decide)) (gF_Meal hE he) (gT_2 (gT_T hE (by decide)) (gF_A (gF_Rule hE) (gT_T hE (by decide)).f) gT_no)))
set_option maxRecDepth 100000 in
set_option maxHeartbeats 4000000 in
theorem c_X11_sees (σ : Sg) (s : Pp) (e : Int) (i : Nat) (hF : FmH σ e) (hs : bd e s) (hi : i < 22) : Ct l G yX11_sees cX11_sees 2 (some .boolean) 5 0 0 [.ref (lay G 84), .ref (G.2.2.2.1 i)] (stR σ s) (some (.int (I32 (b2i (decide ((KR σ e) s.1 = (i : Nat))))))) (stR σ s) := by
  have hE := FmH.e hF
  obtain ⟨⟨hs1, hs2⟩, hs3, hs4⟩ := id hs
  have he := hF.2.2.1
  refine Ct.of (by decide +kernel) (Nat.le_of_ble_eq_true rfl) (fun f => ?_)
  show AW _ _ _ _ _ _ _ _ _ _ [(0, _), (1, _)] _ _
  refine A_aload_n dX11_sees_0 rfl 0 rfl ?_
  refine A_aload_n dX11_sees_1 rfl 0 rfl ?_
  refine A_geti fl_X11_144 lk_84 rfl dX11_sees_2 ?_
  try simp (disch := omega) only [up_k, up_j, up_s, nc0, nc1, nc2, nc3, nc4, nc5, nc6, nc7, nc8, nc9, nc10, nc11, nc12, nc13, nc14, nc15, nc16, nc17, nc18, nc19, nc20, nc21, isR_st, nmR_st, stR_8, stR_9, stR_86, stR_u8, stR_u9]
  refine A_aload_n dX11_sees_5 rfl 1 rfl ?_
  refine A_Va2 mv_X11_136 lk_84 rfl rfl (c_X11_is (stR σ s) _ i hF.1 hF.2.1 ⟨by omega, by omega⟩ (by omega)) (Nat.le_of_ble_eq_true rfl) (by omega) (by omega) dX11_sees_6 ?_
  try simp (disch := omega) only [nc0, nc1, nc2, nc3, nc4, nc5, nc6, nc7, nc8, nc9, nc10, nc11, nc12, nc13, nc14, nc15, nc16, nc17, nc18, nc19, nc20, nc21, isR_st, nmR_st, stR_8, stR_9, stR_86, stR_u8, stR_u9]
  exact A_zret dX11_sees_9 (by rw [sees_eq hs hi]) (by rfl)
set_option maxRecDepth 100000 in
set_option maxHeartbeats 4000000 in
theorem c_X11_takes (σ : Sg) (s : Pp) (e : Int) (i : Nat) (hF : FmH σ e) (hs : bd e s) (hi : i < 22) : Ct l G yX11_takes cX11_takes 2 (some .boolean) 6 0 0 [.ref (lay G 84), .ref (G.2.2.2.1 i)] (stR σ s) (some (.int (I32 (b2i (pT (KR σ e) (i : Nat) s).1)))) (stR σ (pT (KR σ e) (i : Nat) s).2) := by
  have hE := FmH.e hF
  obtain ⟨⟨hs1, hs2⟩, hs3, hs4⟩ := id hs
  have he := hF.2.2.1
  refine Ct.of (by decide +kernel) (Nat.le_of_ble_eq_true rfl) (fun f => ?_)
  show AW _ _ _ _ _ _ _ _ _ _ [(0, _), (1, _)] _ _
  refine A_aload_n dX11_takes_0 rfl 0 rfl ?_
  refine A_aload_n dX11_takes_1 rfl 1 rfl ?_
  refine A_Va1 mv_X11_147 lk_84 rfl rfl (c_X11_sees σ s e i hF hs hi) (Nat.le_of_ble_eq_true rfl) (by omega) (by omega) dX11_takes_2 ?_
  try simp (disch := omega) only [nc0, nc1, nc2, nc3, nc4, nc5, nc6, nc7, nc8, nc9, nc10, nc11, nc12, nc13, nc14, nc15, nc16, nc17, nc18, nc19, nc20, nc21, isR_st, nmR_st, stR_8, stR_9, stR_86, stR_u8, stR_u9]
  refine A_ifne_b (tgt := 10) dX11_takes_5 (by decide) (fun h5 => ?_) (fun h5 => ?_)
  · refine A_aload_n dX11_takes_10 rfl 0 rfl ?_
    refine A_dup dX11_takes_11 rfl ?_
    refine A_geti fl_X11_144 lk_84 rfl dX11_takes_12 ?_
    try simp (disch := omega) only [up_k, up_j, up_s, nc0, nc1, nc2, nc3, nc4, nc5, nc6, nc7, nc8, nc9, nc10, nc11, nc12, nc13, nc14, nc15, nc16, nc17, nc18, nc19, nc20, nc21, isR_st, nmR_st, stR_8, stR_9, stR_86, stR_u8, stR_u9]
    refine A_iconst dX11_takes_15 ?_
    refine A_iadd dX11_takes_16 ?_
    refine A_puti fl_X11_144 lk_84 rfl dX11_takes_17 ?_
    try simp only [nc0, nc1, nc2, nc3, nc4, nc5, nc6, nc7, nc8, nc9, nc10, nc11, nc12, nc13, nc14, nc15, nc16, nc17, nc18, nc19, nc20, nc21, isR_st, nmR_st, stR_8, stR_9, stR_86, stR_u8, stR_u9]
    refine A_iconst dX11_takes_20 ?_
    exact A_zret2 dX11_takes_21 (by decide) (by first | (simp [pT, b2i_t, b2i_f, *]; done) | (simp_all [pT, b2i_t, b2i_f]; done)) (by first | (simp [pT, *]; done) | (simp_all [pT]; done))
  · refine A_iconst dX11_takes_8 ?_
    exact A_zret2 dX11_takes_9 (by decide) (by first | (simp [pT, b2i_t, b2i_f, *]; done) | (simp_all [pT, b2i_t, b2i_f]; done)) (by first | (simp [pT, *]; done) | (simp_all [pT]; done))
set_option maxRecDepth 100000 in
set_option maxHeartbeats 4000000 in
theorem c_X11_takesName (σ : Sg) (s : Pp) (e : Int) (hF : FmH σ e) (hs : bd e s) : Ct l G yX11_takesName cX11_takesName 1 (some .boolean) 6 0 0 [.ref (lay G 84)] (stR σ s) (some (.int (I32 (b2i (pT (KR σ e) 22 s).1)))) (stR σ (pT (KR σ e) 22 s).2) := by
  have hE := FmH.e hF
  obtain ⟨⟨hs1, hs2⟩, hs3, hs4⟩ := id hs
  have he := hF.2.2.1
  refine Ct.of (by decide +kernel) (Nat.le_of_ble_eq_true rfl) (fun f => ?_)
  show AW _ _ _ _ _ _ _ _ _ _ [(0, _)] _ _
  refine A_aload_n dX11_takesName_0 rfl 0 rfl ?_
  refine A_aload_n dX11_takesName_1 rfl 0 rfl ?_
  refine A_geti fl_X11_144 lk_84 rfl dX11_takesName_2 ?_
  try simp (disch := omega) only [up_k, up_j, up_s, nc0, nc1, nc2, nc3, nc4, nc5, nc6, nc7, nc8, nc9, nc10, nc11, nc12, nc13, nc14, nc15, nc16, nc17, nc18, nc19, nc20, nc21, isR_st, nmR_st, stR_8, stR_9, stR_86, stR_u8, stR_u9]
  refine A_Va1 mv_X11_151 lk_84 rfl rfl (c_X11_isName (stR σ s) _ hF.1 hF.2.1 ⟨by omega, by omega⟩) (Nat.le_of_ble_eq_true rfl) (by omega) (by omega) dX11_takesName_5 ?_
  try simp (disch := omega) only [nc0, nc1, nc2, nc3, nc4, nc5, nc6, nc7, nc8, nc9, nc10, nc11, nc12, nc13, nc14, nc15, nc16, nc17, nc18, nc19, nc20, nc21, isR_st, nmR_st, stR_8, stR_9, stR_86, stR_u8, stR_u9]
  rw [name_eq hF hs]
  refine A_ifne_b (tgt := 13) dX11_takesName_8 (by decide) (fun h8 => ?_) (fun h8 => ?_)
  · refine A_aload_n dX11_takesName_13 rfl 0 rfl ?_
    refine A_dup dX11_takesName_14 rfl ?_
    refine A_geti fl_X11_144 lk_84 rfl dX11_takesName_15 ?_
    try simp (disch := omega) only [up_k, up_j, up_s, nc0, nc1, nc2, nc3, nc4, nc5, nc6, nc7, nc8, nc9, nc10, nc11, nc12, nc13, nc14, nc15, nc16, nc17, nc18, nc19, nc20, nc21, isR_st, nmR_st, stR_8, stR_9, stR_86, stR_u8, stR_u9]
    refine A_iconst dX11_takesName_18 ?_
    refine A_iadd dX11_takesName_19 ?_
    refine A_puti fl_X11_144 lk_84 rfl dX11_takesName_20 ?_
    try simp only [nc0, nc1, nc2, nc3, nc4, nc5, nc6, nc7, nc8, nc9, nc10, nc11, nc12, nc13, nc14, nc15, nc16, nc17, nc18, nc19, nc20, nc21, isR_st, nmR_st, stR_8, stR_9, stR_86, stR_u8, stR_u9]
    refine A_iconst dX11_takesName_23 ?_
    exact A_zret2 dX11_takesName_24 (by decide) (by first | (simp [pT, b2i_t, b2i_f, *]; done) | (simp_all [pT, b2i_t, b2i_f]; done)) (by first | (simp [pT, *]; done) | (simp_all [pT]; done))
  · refine A_iconst dX11_takesName_11 ?_
    exact A_zret2 dX11_takesName_12 (by decide) (by first | (simp [pT, b2i_t, b2i_f, *]; done) | (simp_all [pT, b2i_t, b2i_f]; done)) (by first | (simp [pT, *]; done) | (simp_all [pT]; done))
set_option maxRecDepth 100000 in
set_option maxHeartbeats 4000000 in
theorem c_X11_takesNumber (σ : Sg) (s : Pp) (e : Int) (hF : FmH σ e) (hs : bd e s) : Ct l G yX11_takesNumber cX11_takesNumber 1 (some .boolean) 0 0 0 [.ref (lay G 84)] (stR σ s) (some (.int (I32 (b2i (pT (KR σ e) 23 s).1)))) (stR σ (pT (KR σ e) 23 s).2) := by
  have hE := FmH.e hF
  obtain ⟨⟨hs1, hs2⟩, hs3, hs4⟩ := id hs
  have he := hF.2.2.1
  have ht1 := hF.2.1 s.1.toNat
  have hne := num_eq (σ := σ) hs
  refine Ct.of (by decide +kernel) (Nat.le_of_ble_eq_true rfl) (fun f => ?_)
  show AW _ _ _ _ _ _ _ _ _ _ [(0, _)] _ _
  refine A_aload_n dX11_takesNumber_0 rfl 0 rfl ?_
  refine A_getr fl_X11_17 lk_84 rfl dX11_takesNumber_1 ?_
  refine A_aload_n dX11_takesNumber_4 rfl 0 rfl ?_
  refine A_geti fl_X11_144 lk_84 rfl dX11_takesNumber_5 ?_
  try simp (disch := omega) only [up_k, up_j, up_s, nc0, nc1, nc2, nc3, nc4, nc5, nc6, nc7, nc8, nc9, nc10, nc11, nc12, nc13, nc14, nc15, nc16, nc17, nc18, nc19, nc20, nc21, isR_st, nmR_st, stR_8, stR_9, stR_86, stR_u8, stR_u9]
  refine J_iald lk_86 (by first | exact i32_eq (by assumption) | exact i32_eq ⟨by omega, by omega⟩ | with_reducible exact i32_i32 _ | with_reducible exact i32_eq (b2i_inr _) | rfl) (by omega) (by omega) (by decide) dX11_takesNumber_8 ?_
  try simp (disch := omega) only [up_k, up_j, up_s, nc0, nc1, nc2, nc3, nc4, nc5, nc6, nc7, nc8, nc9, nc10, nc11, nc12, nc13, nc14, nc15, nc16, nc17, nc18, nc19, nc20, nc21, isR_st, nmR_st, stR_8, stR_9, stR_86, stR_u8, stR_u9]
  refine A_iconst dX11_takesNumber_9 ?_
  refine J_icmp_eq (tgt := 15) dX11_takesNumber_10 (by decide) (by first | exact i32_eq (by assumption) | exact i32_eq ⟨by omega, by omega⟩ | with_reducible exact i32_i32 _ | with_reducible exact i32_eq (b2i_inr _) | rfl) (by first | exact i32_eq (by assumption) | exact i32_eq ⟨by omega, by omega⟩ | with_reducible exact i32_i32 _ | with_reducible exact i32_eq (b2i_inr _) | rfl) (fun h10 => ?_) (fun h10 => ?_)
  · have hkk := hne.mpr h10
    refine A_aload_n dX11_takesNumber_15 rfl 0 rfl ?_
    refine A_dup dX11_takesNumber_16 rfl ?_
    refine A_geti fl_X11_144 lk_84 rfl dX11_takesNumber_17 ?_
    try simp (disch := omega) only [up_k, up_j, up_s, nc0, nc1, nc2, nc3, nc4, nc5, nc6, nc7, nc8, nc9, nc10, nc11, nc12, nc13, nc14, nc15, nc16, nc17, nc18, nc19, nc20, nc21, isR_st, nmR_st, stR_8, stR_9, stR_86, stR_u8, stR_u9]
    refine A_iconst dX11_takesNumber_20 ?_
    refine A_iadd dX11_takesNumber_21 ?_
    refine A_puti fl_X11_144 lk_84 rfl dX11_takesNumber_22 ?_
    try simp only [nc0, nc1, nc2, nc3, nc4, nc5, nc6, nc7, nc8, nc9, nc10, nc11, nc12, nc13, nc14, nc15, nc16, nc17, nc18, nc19, nc20, nc21, isR_st, nmR_st, stR_8, stR_9, stR_86, stR_u8, stR_u9]
    refine A_iconst dX11_takesNumber_25 ?_
    exact A_zret2 dX11_takesNumber_26 (by decide) (by first | (simp [pT, b2i_t, b2i_f, *]; done) | (simp_all [pT, b2i_t, b2i_f]; done)) (by first | (simp [pT, *]; done) | (simp_all [pT]; done))
  · have hkk := fun z => h10 (hne.mp z)
    refine A_iconst dX11_takesNumber_13 ?_
    exact A_zret2 dX11_takesNumber_14 (by decide) (by first | (simp [pT, b2i_t, b2i_f, *]; done) | (simp_all [pT, b2i_t, b2i_f]; done)) (by first | (simp [pT, *]; done) | (simp_all [pT]; done))
set_option maxRecDepth 100000 in
set_option maxHeartbeats 4000000 in
theorem c_X11_goes (σ : Sg) (s : Pp) (e : Int) (hF : FmH σ e) (hs : bd e s) : Ct l G yX11_goes cX11_goes 1 (some .boolean) 0 0 0 [.ref (lay G 84)] (stR σ s) (some (.int (I32 (b2i (rG s).1)))) (stR σ (rG s).2) := by
  have hE := FmH.e hF
  obtain ⟨⟨hs1, hs2⟩, hs3, hs4⟩ := id hs
  have he := hF.2.2.1
  refine Ct.of (by decide +kernel) (Nat.le_of_ble_eq_true rfl) (fun f => ?_)
  show AW _ _ _ _ _ _ _ _ _ _ [(0, _)] _ _
  refine A_aload_n dX11_goes_0 rfl 0 rfl ?_
  refine A_geti fl_X11_144 lk_84 rfl dX11_goes_1 ?_
  try simp (disch := omega) only [up_k, up_j, up_s, nc0, nc1, nc2, nc3, nc4, nc5, nc6, nc7, nc8, nc9, nc10, nc11, nc12, nc13, nc14, nc15, nc16, nc17, nc18, nc19, nc20, nc21, isR_st, nmR_st, stR_8, stR_9, stR_86, stR_u8, stR_u9]
  refine A_aload_n dX11_goes_4 rfl 0 rfl ?_
  refine A_geti fl_X11_215 lk_84 rfl dX11_goes_5 ?_
  try simp (disch := omega) only [up_k, up_j, up_s, nc0, nc1, nc2, nc3, nc4, nc5, nc6, nc7, nc8, nc9, nc10, nc11, nc12, nc13, nc14, nc15, nc16, nc17, nc18, nc19, nc20, nc21, isR_st, nmR_st, stR_8, stR_9, stR_86, stR_u8, stR_u9]
  refine A_isub dX11_goes_8 ?_
  refine A_bipush dX11_goes_9 (by decide +kernel) ?_
  refine J_icmp_ne (tgt := 16) dX11_goes_11 (by decide) (by first | exact i32_eq (by assumption) | exact i32_eq ⟨by omega, by omega⟩ | with_reducible exact i32_i32 _ | with_reducible exact i32_eq (b2i_inr _) | rfl) (by first | exact i32_eq (by assumption) | exact i32_eq ⟨by omega, by omega⟩ | with_reducible exact i32_i32 _ | with_reducible exact i32_eq (b2i_inr _) | rfl) (fun h11 => ?_) (fun h11 => ?_)
  · refine A_aload_n dX11_goes_16 rfl 0 rfl ?_
    refine A_dup dX11_goes_17 rfl ?_
    refine A_geti fl_X11_144 lk_84 rfl dX11_goes_18 ?_
    try simp (disch := omega) only [up_k, up_j, up_s, nc0, nc1, nc2, nc3, nc4, nc5, nc6, nc7, nc8, nc9, nc10, nc11, nc12, nc13, nc14, nc15, nc16, nc17, nc18, nc19, nc20, nc21, isR_st, nmR_st, stR_8, stR_9, stR_86, stR_u8, stR_u9]
    refine A_iconst dX11_goes_21 ?_
    refine A_iadd dX11_goes_22 ?_
    refine A_puti fl_X11_144 lk_84 rfl dX11_goes_23 ?_
    try simp only [nc0, nc1, nc2, nc3, nc4, nc5, nc6, nc7, nc8, nc9, nc10, nc11, nc12, nc13, nc14, nc15, nc16, nc17, nc18, nc19, nc20, nc21, isR_st, nmR_st, stR_8, stR_9, stR_86, stR_u8, stR_u9]
    refine A_iconst dX11_goes_26 ?_
    exact A_zret2 dX11_goes_27 (by decide) (by first | (simp [rG, b2i_t, b2i_f, *]; done) | (simp_all [rG, b2i_t, b2i_f]; done)) (by first | (simp [rG, *]; done) | (simp_all [rG]; done))
  · refine A_iconst dX11_goes_14 ?_
    exact A_zret2 dX11_goes_15 (by decide) (by first | (simp [rG, b2i_t, b2i_f, *]; done) | (simp_all [rG, b2i_t, b2i_f]; done)) (by first | (simp [rG, *]; done) | (simp_all [rG]; done))
set_option maxRecDepth 100000 in
set_option maxHeartbeats 4000000 in
theorem w_X11_tagsForm {f : Fm} (σ : Sg) (e : Int)  (hF : FmH σ e)  : ∀ (n : Nat) (s : Pp) (r : Option Value) (σ1 : Sg), bd e s → e - s.1 < n → r = some (.int (I32 (b2i ((pR (KR σ e) 19 (pA (pT (KR σ e) 19) (pT (KR σ e) 22)) n) s).1))) → σ1 = stR σ ((pR (KR σ e) 19 (pA (pT (KR σ e) 19) (pT (KR σ e) 22)) n) s).2 → AW l G f (RX11, cX11_tagsForm, 1, (some .boolean)) (7, 0, 0) (QT G f 0 0 r σ1) [] 0 0 20 [(0, .ref (lay G 84))] [] (stR σ s) := by
  have hE := FmH.e hF
  have he := hF.2.2.1
  intro n
  induction n using Nat.strongRecOn with | _ n ih =>
  intro s r σ1 hs hn hr hs5
  obtain ⟨⟨hs1, hs2⟩, hs3, hs4⟩ := id hs
  obtain ⟨n, rfl⟩ : ∃ q, n = q + 1 := ⟨n - 1, by omega⟩
  
  refine A_aload_n dX11_tagsForm_20 rfl 0 rfl ?_
  refine A_ldcs (i := 19) (by decide +kernel) dX11_tagsForm_21 ?_
  refine A_Va1 mv_X11_160 lk_84 rfl rfl (c_X11_takes _ _ _ _ hF (by repeat (first | assumption | refine (gT_T hE (by decide) _ ?_).1 | refine (gF_Tags hE _ ?_).1 | refine (gF_Part hE _ ?_).1 | refine (gF_Rule hE _ ?_).1 | refine (gF_L hE (gF_Part hE) 1501 _ ?_).1 | refine (gF_L hE (gF_Ex hE hF.2.2.1.2) 1501 _ ?_).1 | refine (gF_Ex hE hF.2.2.1.2 _ ?_).1 | refine (gF_R (gF_A (gT_T hE (by decide)).f (gT_T hE (by decide)).f) _ _ ?_).1 | (simp only [pT_f, *]; done))) (by decide)) (Nat.le_of_ble_eq_true rfl) (by omega) (by omega) dX11_tagsForm_23 ?_
  try simp (disch := omega) only [nc0, nc1, nc2, nc3, nc4, nc5, nc6, nc7, nc8, nc9, nc10, nc11, nc12, nc13, nc14, nc15, nc16, nc17, nc18, nc19, nc20, nc21, isR_st, nmR_st, stR_8, stR_9, stR_86, stR_u8, stR_u9]
  refine A_ifeq_b (tgt := 38) dX11_tagsForm_26 (by decide) (fun h26 => ?_) (fun h26 => ?_)
  · have hk26 := pT_n h26
    refine A_iconst dX11_tagsForm_38 ?_
    exact A_zret2 dX11_tagsForm_39 (by decide) (by rw [hr]; clear ih; first | (simp [pR, pA, pT_f, b2i_t, b2i_f, *]; done) | (simp_all [pR, pA, pT_f, b2i_t, b2i_f]; done)) (by rw [hs5]; clear ih; first | (simp [pR, pA, pT_f, *]; done) | (simp_all [pR, pA, pT_f]; done))
  · have hk26 := (pT_ok h26).1
    refine A_aload_n dX11_tagsForm_29 rfl 0 rfl ?_
    refine A_Va0 mv_X11_163 lk_84 rfl rfl (c_X11_takesName _ _ _ hF (by repeat (first | assumption | refine (gT_T hE (by decide) _ ?_).1 | refine (gF_Tags hE _ ?_).1 | refine (gF_Part hE _ ?_).1 | refine (gF_Rule hE _ ?_).1 | refine (gF_L hE (gF_Part hE) 1501 _ ?_).1 | refine (gF_L hE (gF_Ex hE hF.2.2.1.2) 1501 _ ?_).1 | refine (gF_Ex hE hF.2.2.1.2 _ ?_).1 | refine (gF_R (gF_A (gT_T hE (by decide)).f (gT_T hE (by decide)).f) _ _ ?_).1 | (simp only [pT_f, *]; done)))) (Nat.le_of_ble_eq_true rfl) (by omega) (by omega) dX11_tagsForm_30 ?_
    try simp (disch := omega) only [nc0, nc1, nc2, nc3, nc4, nc5, nc6, nc7, nc8, nc9, nc10, nc11, nc12, nc13, nc14, nc15, nc16, nc17, nc18, nc19, nc20, nc21, isR_st, nmR_st, stR_8, stR_9, stR_86, stR_u8, stR_u9]
    refine A_ifne_b (tgt := 20) dX11_tagsForm_33 (by decide) (fun h33 => ?_) (fun h33 => ?_)
    · refine A_lv [0] rfl ?_
      refine ih n (by omega) _ r σ1 (by repeat (first | assumption | refine (gT_T hE (by decide) _ ?_).1 | refine (gF_Tags hE _ ?_).1 | refine (gF_Part hE _ ?_).1 | refine (gF_Rule hE _ ?_).1 | refine (gF_L hE (gF_Part hE) 1501 _ ?_).1 | refine (gF_L hE (gF_Ex hE hF.2.2.1.2) 1501 _ ?_).1 | refine (gF_Ex hE hF.2.2.1.2 _ ?_).1 | refine (gF_R (gF_A (gT_T hE (by decide)).f (gT_T hE (by decide)).f) _ _ ?_).1 | (simp only [pT_f, *]; done))) ?_ (by rw [hr]; clear ih; first | (simp [pR, pA, *]; done) | (simp_all [pR, pA]; done)) (by rw [hs5]; clear ih; first | (simp [pR, pA, *]; done) | (simp_all [pR, pA]; done))
      have h19 := gT_T (k := 19) hE (by decide) s hs
      have h22 := gT_T (k := 22) hE (by decide) _ h19.1
      have h20 := h19.2.2 h26
      omega
    · refine A_iconst dX11_tagsForm_36 ?_
      exact A_zret2 dX11_tagsForm_37 (by decide) (by rw [hr]; clear ih; first | (simp [pR, pA, pT_f, b2i_t, b2i_f, *]; done) | (simp_all [pR, pA, pT_f, b2i_t, b2i_f]; done)) (by rw [hs5]; clear ih; first | (simp [pR, pA, pT_f, *]; done) | (simp_all [pR, pA, pT_f]; done))
set_option maxRecDepth 100000 in
set_option maxHeartbeats 4000000 in
theorem c_X11_tagsForm (σ : Sg) (s : Pp) (e : Int) (hF : FmH σ e) (hs : bd e s) : Ct l G yX11_tagsForm cX11_tagsForm 1 (some .boolean) 7 0 0 [.ref (lay G 84)] (stR σ s) (some (.int (I32 (b2i (qTags (KR σ e) s).1)))) (stR σ (qTags (KR σ e) s).2) := by
  have hE := FmH.e hF
  obtain ⟨⟨hs1, hs2⟩, hs3, hs4⟩ := id hs
  have he := hF.2.2.1
  refine Ct.of (by decide +kernel) (Nat.le_of_ble_eq_true rfl) (fun f => ?_)
  show AW _ _ _ _ _ _ _ _ _ _ [(0, _)] _ _
  refine A_aload_n dX11_tagsForm_0 rfl 0 rfl ?_
  refine A_ldcs (i := 3) (by decide +kernel) dX11_tagsForm_1 ?_
  refine A_Va1 mv_X11_160 lk_84 rfl rfl (c_X11_takes _ _ _ _ hF (by repeat (first | assumption | refine (gT_T hE (by decide) _ ?_).1 | refine (gF_Tags hE _ ?_).1 | refine (gF_Part hE _ ?_).1 | refine (gF_Rule hE _ ?_).1 | refine (gF_L hE (gF_Part hE) 1501 _ ?_).1 | refine (gF_L hE (gF_Ex hE hF.2.2.1.2) 1501 _ ?_).1 | refine (gF_Ex hE hF.2.2.1.2 _ ?_).1 | refine (gF_R (gF_A (gT_T hE (by decide)).f (gT_T hE (by decide)).f) _ _ ?_).1 | (simp only [pT_f, *]; done))) (by decide)) (Nat.le_of_ble_eq_true rfl) (by omega) (by omega) dX11_tagsForm_3 ?_
  try simp (disch := omega) only [nc0, nc1, nc2, nc3, nc4, nc5, nc6, nc7, nc8, nc9, nc10, nc11, nc12, nc13, nc14, nc15, nc16, nc17, nc18, nc19, nc20, nc21, isR_st, nmR_st, stR_8, stR_9, stR_86, stR_u8, stR_u9]
  refine A_ifne_b (tgt := 11) dX11_tagsForm_6 (by decide) (fun h6 => ?_) (fun h6 => ?_)
  · refine A_aload_n dX11_tagsForm_11 rfl 0 rfl ?_
    refine A_Va0 mv_X11_163 lk_84 rfl rfl (c_X11_takesName _ _ _ hF (by repeat (first | assumption | refine (gT_T hE (by decide) _ ?_).1 | refine (gF_Tags hE _ ?_).1 | refine (gF_Part hE _ ?_).1 | refine (gF_Rule hE _ ?_).1 | refine (gF_L hE (gF_Part hE) 1501 _ ?_).1 | refine (gF_L hE (gF_Ex hE hF.2.2.1.2) 1501 _ ?_).1 | refine (gF_Ex hE hF.2.2.1.2 _ ?_).1 | refine (gF_R (gF_A (gT_T hE (by decide)).f (gT_T hE (by decide)).f) _ _ ?_).1 | (simp only [pT_f, *]; done)))) (Nat.le_of_ble_eq_true rfl) (by omega) (by omega) dX11_tagsForm_12 ?_
    try simp (disch := omega) only [nc0, nc1, nc2, nc3, nc4, nc5, nc6, nc7, nc8, nc9, nc10, nc11, nc12, nc13, nc14, nc15, nc16, nc17, nc18, nc19, nc20, nc21, isR_st, nmR_st, stR_8, stR_9, stR_86, stR_u8, stR_u9]
    refine A_ifne_b (tgt := 20) dX11_tagsForm_15 (by decide) (fun h15 => ?_) (fun h15 => ?_)
    · refine A_lv [0] rfl ?_
      refine w_X11_tagsForm σ e hF 1501 _ _ _ (by repeat (first | assumption | refine (gT_T hE (by decide) _ ?_).1 | refine (gF_Tags hE _ ?_).1 | refine (gF_Part hE _ ?_).1 | refine (gF_Rule hE _ ?_).1 | refine (gF_L hE (gF_Part hE) 1501 _ ?_).1 | refine (gF_L hE (gF_Ex hE hF.2.2.1.2) 1501 _ ?_).1 | refine (gF_Ex hE hF.2.2.1.2 _ ?_).1 | refine (gF_R (gF_A (gT_T hE (by decide)).f (gT_T hE (by decide)).f) _ _ ?_).1 | (simp only [pT_f, *]; done))) ?_ (by first | (simp [qTags, pA, *]; done) | (simp_all [qTags, pA]; done)) (by first | (simp [qTags, pA, *]; done) | (simp_all [qTags, pA]; done))
      have h3 := gT_T (k := 3) hE (by decide) s hs
      have h22 := gT_T (k := 22) hE (by decide) _ h3.1
      have := h3.1.1
      have := h22.1.1
      omega
    · refine A_iconst dX11_tagsForm_18 ?_
      exact A_zret2 dX11_tagsForm_19 (by decide) (by first | (simp [qTags, pA, pT_f, b2i_t, b2i_f, *]; done) | (simp_all [qTags, pA, pT_f, b2i_t, b2i_f]; done)) (by first | (simp [qTags, pA, pT_f, *]; done) | (simp_all [qTags, pA, pT_f]; done))
  · refine A_iconst dX11_tagsForm_9 ?_
    exact A_zret2 dX11_tagsForm_10 (by decide) (by first | (simp [qTags, pA, pT_f, b2i_t, b2i_f, *]; done) | (simp_all [qTags, pA, pT_f, b2i_t, b2i_f]; done)) (by first | (simp [qTags, pA, pT_f, *]; done) | (simp_all [qTags, pA, pT_f]; done))
set_option maxRecDepth 100000 in
set_option maxHeartbeats 4000000 in
theorem w_X11_partsForm {f : Fm} (σ : Sg) (e : Int)  (hF : FmH σ e)  : ∀ (n : Nat) (s : Pp) (r : Option Value) (σ1 : Sg), bd e s → e - s.1 < n → r = some (.int (I32 (b2i ((qL (KR σ e) (qPart (KR σ e)) n) s).1))) → σ1 = stR σ ((qL (KR σ e) (qPart (KR σ e)) n) s).2 → AW l G f (RX11, cX11_partsForm, 1, (some .boolean)) (7, 0, 0) (QT G f 0 0 r σ1) [] 0 0 0 [(0, .ref (lay G 84))] [] (stR σ s) := by
  have hE := FmH.e hF
  have he := hF.2.2.1
  intro n
  induction n using Nat.strongRecOn with | _ n ih =>
  intro s r σ1 hs hn hr hs5
  obtain ⟨⟨hs1, hs2⟩, hs3, hs4⟩ := id hs
  obtain ⟨n, rfl⟩ : ∃ q, n = q + 1 := ⟨n - 1, by omega⟩
  
  refine A_aload_n dX11_partsForm_0 rfl 0 rfl ?_
  refine A_Va0 mv_X11_166 lk_84 rfl rfl (c_X11_takesNumber _ _ _ hF (by repeat (first | assumption | refine (gT_T hE (by decide) _ ?_).1 | refine (gF_Tags hE _ ?_).1 | refine (gF_Part hE _ ?_).1 | refine (gF_Rule hE _ ?_).1 | refine (gF_L hE (gF_Part hE) 1501 _ ?_).1 | refine (gF_L hE (gF_Ex hE hF.2.2.1.2) 1501 _ ?_).1 | refine (gF_Ex hE hF.2.2.1.2 _ ?_).1 | refine (gF_R (gF_A (gT_T hE (by decide)).f (gT_T hE (by decide)).f) _ _ ?_).1 | (simp only [pT_f, *]; done)))) (Nat.le_of_ble_eq_true rfl) (by omega) (by omega) dX11_partsForm_1 ?_
  try simp (disch := omega) only [nc0, nc1, nc2, nc3, nc4, nc5, nc6, nc7, nc8, nc9, nc10, nc11, nc12, nc13, nc14, nc15, nc16, nc17, nc18, nc19, nc20, nc21, isR_st, nmR_st, stR_8, stR_9, stR_86, stR_u8, stR_u9]
  refine A_ifne_b (tgt := 9) dX11_partsForm_4 (by decide) (fun h4 => ?_) (fun h4 => ?_)
  · refine A_aload_n dX11_partsForm_9 rfl 0 rfl ?_
    refine A_ldcs (i := 4) (by decide +kernel) dX11_partsForm_10 ?_
    refine A_Va1 mv_X11_160 lk_84 rfl rfl (c_X11_takes _ _ _ _ hF (by repeat (first | assumption | refine (gT_T hE (by decide) _ ?_).1 | refine (gF_Tags hE _ ?_).1 | refine (gF_Part hE _ ?_).1 | refine (gF_Rule hE _ ?_).1 | refine (gF_L hE (gF_Part hE) 1501 _ ?_).1 | refine (gF_L hE (gF_Ex hE hF.2.2.1.2) 1501 _ ?_).1 | refine (gF_Ex hE hF.2.2.1.2 _ ?_).1 | refine (gF_R (gF_A (gT_T hE (by decide)).f (gT_T hE (by decide)).f) _ _ ?_).1 | (simp only [pT_f, *]; done))) (by decide)) (Nat.le_of_ble_eq_true rfl) (by omega) (by omega) dX11_partsForm_12 ?_
    try simp (disch := omega) only [nc0, nc1, nc2, nc3, nc4, nc5, nc6, nc7, nc8, nc9, nc10, nc11, nc12, nc13, nc14, nc15, nc16, nc17, nc18, nc19, nc20, nc21, isR_st, nmR_st, stR_8, stR_9, stR_86, stR_u8, stR_u9]
    refine A_pop dX11_partsForm_15 rfl ?_
    refine A_aload_n dX11_partsForm_16 rfl 0 rfl ?_
    refine A_Va0 mv_X11_163 lk_84 rfl rfl (c_X11_takesName _ _ _ hF (by repeat (first | assumption | refine (gT_T hE (by decide) _ ?_).1 | refine (gF_Tags hE _ ?_).1 | refine (gF_Part hE _ ?_).1 | refine (gF_Rule hE _ ?_).1 | refine (gF_L hE (gF_Part hE) 1501 _ ?_).1 | refine (gF_L hE (gF_Ex hE hF.2.2.1.2) 1501 _ ?_).1 | refine (gF_Ex hE hF.2.2.1.2 _ ?_).1 | refine (gF_R (gF_A (gT_T hE (by decide)).f (gT_T hE (by decide)).f) _ _ ?_).1 | (simp only [pT_f, *]; done)))) (Nat.le_of_ble_eq_true rfl) (by omega) (by omega) dX11_partsForm_17 ?_
    try simp (disch := omega) only [nc0, nc1, nc2, nc3, nc4, nc5, nc6, nc7, nc8, nc9, nc10, nc11, nc12, nc13, nc14, nc15, nc16, nc17, nc18, nc19, nc20, nc21, isR_st, nmR_st, stR_8, stR_9, stR_86, stR_u8, stR_u9]
    refine A_ifne_b (tgt := 25) dX11_partsForm_20 (by decide) (fun h20 => ?_) (fun h20 => ?_)
    · refine A_aload_n dX11_partsForm_25 rfl 0 rfl ?_
      refine A_ldcs (i := 19) (by decide +kernel) dX11_partsForm_26 ?_
      refine A_Va1 mv_X11_160 lk_84 rfl rfl (c_X11_takes _ _ _ _ hF (by repeat (first | assumption | refine (gT_T hE (by decide) _ ?_).1 | refine (gF_Tags hE _ ?_).1 | refine (gF_Part hE _ ?_).1 | refine (gF_Rule hE _ ?_).1 | refine (gF_L hE (gF_Part hE) 1501 _ ?_).1 | refine (gF_L hE (gF_Ex hE hF.2.2.1.2) 1501 _ ?_).1 | refine (gF_Ex hE hF.2.2.1.2 _ ?_).1 | refine (gF_R (gF_A (gT_T hE (by decide)).f (gT_T hE (by decide)).f) _ _ ?_).1 | (simp only [pT_f, *]; done))) (by decide)) (Nat.le_of_ble_eq_true rfl) (by omega) (by omega) dX11_partsForm_28 ?_
      try simp (disch := omega) only [nc0, nc1, nc2, nc3, nc4, nc5, nc6, nc7, nc8, nc9, nc10, nc11, nc12, nc13, nc14, nc15, nc16, nc17, nc18, nc19, nc20, nc21, isR_st, nmR_st, stR_8, stR_9, stR_86, stR_u8, stR_u9]
      refine A_ifne_b (tgt := 0) dX11_partsForm_31 (by decide) (fun h31 => ?_) (fun h31 => ?_)
      · refine A_lv [0] rfl ?_
        refine ih n (by omega) _ r σ1 (by repeat (first | assumption | refine (gT_T hE (by decide) _ ?_).1 | refine (gF_Tags hE _ ?_).1 | refine (gF_Part hE _ ?_).1 | refine (gF_Rule hE _ ?_).1 | refine (gF_L hE (gF_Part hE) 1501 _ ?_).1 | refine (gF_L hE (gF_Ex hE hF.2.2.1.2) 1501 _ ?_).1 | refine (gF_Ex hE hF.2.2.1.2 _ ?_).1 | refine (gF_R (gF_A (gT_T hE (by decide)).f (gT_T hE (by decide)).f) _ _ ?_).1 | (simp only [pT_f, *]; done))) ?_ (by rw [hr]; clear ih; first | (simp [qL, qPart, pA, *]; done) | (simp_all [qL, qPart, pA]; done)) (by rw [hs5]; clear ih; first | (simp [qL, qPart, pA, *]; done) | (simp_all [qL, qPart, pA]; done))
        have hq := gF_Part hE s hs
        have e1 : qPart (KR σ e) s = pT (KR σ e) 22 (pT (KR σ e) 4 (pT (KR σ e) 23 s).2).2 := by simp [qPart, pA, *]
        rw [e1] at hq
        have h19 := gT_T (k := 19) hE (by decide) _ hq.1
        have h20 := h19.2.2 h31
        omega
      · refine A_iconst dX11_partsForm_34 ?_
        exact A_zret2 dX11_partsForm_35 (by decide) (by rw [hr]; clear ih; first | (simp [qL, qPart, pA, pT_f, b2i_t, b2i_f, *]; done) | (simp_all [qL, qPart, pA, pT_f, b2i_t, b2i_f]; done)) (by rw [hs5]; clear ih; first | (simp [qL, qPart, pA, pT_f, *]; done) | (simp_all [qL, qPart, pA, pT_f]; done))
    · refine A_iconst dX11_partsForm_23 ?_
      exact A_zret2 dX11_partsForm_24 (by decide) (by rw [hr]; clear ih; first | (simp [qL, qPart, pA, pT_f, b2i_t, b2i_f, *]; done) | (simp_all [qL, qPart, pA, pT_f, b2i_t, b2i_f]; done)) (by rw [hs5]; clear ih; first | (simp [qL, qPart, pA, pT_f, *]; done) | (simp_all [qL, qPart, pA, pT_f]; done))
  · refine A_iconst dX11_partsForm_7 ?_
    exact A_zret2 dX11_partsForm_8 (by decide) (by rw [hr]; clear ih; first | (simp [qL, qPart, pA, pT_f, b2i_t, b2i_f, *]; done) | (simp_all [qL, qPart, pA, pT_f, b2i_t, b2i_f]; done)) (by rw [hs5]; clear ih; first | (simp [qL, qPart, pA, pT_f, *]; done) | (simp_all [qL, qPart, pA, pT_f]; done))
set_option maxRecDepth 100000 in
set_option maxHeartbeats 4000000 in
theorem c_X11_partsForm (σ : Sg) (s : Pp) (e : Int) (hF : FmH σ e) (hs : bd e s) : Ct l G yX11_partsForm cX11_partsForm 1 (some .boolean) 7 0 0 [.ref (lay G 84)] (stR σ s) (some (.int (I32 (b2i (qL (KR σ e) (qPart (KR σ e)) 1501 s).1)))) (stR σ (qL (KR σ e) (qPart (KR σ e)) 1501 s).2) := by
  have hE := FmH.e hF
  obtain ⟨⟨hs1, hs2⟩, hs3, hs4⟩ := id hs
  have he := hF.2.2.1
  refine Ct.of (by decide +kernel) (Nat.le_of_ble_eq_true rfl) (fun f => ?_)
  show AW _ _ _ _ _ _ _ _ _ _ [(0, _)] _ _
  refine A_lv [0] rfl ?_
  refine w_X11_partsForm σ e hF 1501 s _ _ hs (by omega) rfl rfl
set_option maxRecDepth 100000 in
set_option maxHeartbeats 4000000 in
theorem w_X11_bothForm10 {f : Fm} (σ : Sg) (e : Int) (m : Nat) (dp : Int) (hF : FmH σ e) (hdm : dp + m = 8) (o1 : ∀ (s : Pp) (dp : Int), bd e s → dp + m = 8 → Ct l G yX11_oneForm cX11_oneForm 3 (some .boolean) (6 + 3 * m) 0 0 [.ref (lay G 84), .int (I32 dp)] (stR σ s) (some (.int (I32 (b2i (rOne (KR σ e) m s).1)))) (stR σ (rOne (KR σ e) m s).2)) : ∀ (n : Nat) (s : Pp) (r : Option Value) (σ1 : Sg), bd e s → e - s.1 < n → r = some (.int (I32 (b2i ((rJ (KR σ e) 13 (rOne (KR σ e) m) n) s).1))) → σ1 = stR σ ((rJ (KR σ e) 13 (rOne (KR σ e) m) n) s).2 → AW l G f (RX11, cX11_bothForm, 2, (some .boolean)) (7 + 3 * m, 0, 0) (QT G f 0 0 r σ1) [] 0 0 10 [(0, .ref (lay G 84)), (1, .int (I32 dp))] [] (stR σ s) := by
  have hE := FmH.e hF
  have he := hF.2.2.1
  intro n
  induction n using Nat.strongRecOn with | _ n ih =>
  intro s r σ1 hs hn hr hs5
  obtain ⟨⟨hs1, hs2⟩, hs3, hs4⟩ := id hs
  obtain ⟨n, rfl⟩ : ∃ q, n = q + 1 := ⟨n - 1, by omega⟩
  
  refine A_aload_n dX11_bothForm_10 rfl 0 rfl ?_
  refine A_ldcs (i := 13) (by decide +kernel) dX11_bothForm_11 ?_
  refine A_Va1 mv_X11_147 lk_84 rfl rfl (c_X11_sees σ s e 13 hF hs (by decide)) (Nat.le_of_ble_eq_true rfl) (by omega) (by omega) dX11_bothForm_13 ?_
  try simp (disch := omega) only [nc0, nc1, nc2, nc3, nc4, nc5, nc6, nc7, nc8, nc9, nc10, nc11, nc12, nc13, nc14, nc15, nc16, nc17, nc18, nc19, nc20, nc21, isR_st, nmR_st, stR_8, stR_9, stR_86, stR_u8, stR_u9]
  refine A_ifeq_b (tgt := 36) dX11_bothForm_16 (by decide) (fun h16 => ?_) (fun h16 => ?_)
  · refine A_iconst dX11_bothForm_36 ?_
    exact A_zret2 dX11_bothForm_37 (by decide) (by rw [hr]; clear ih; first | (simp [rJ, pA, b2i_t, b2i_f, *]; done) | (simp_all [rJ, pA, b2i_t, b2i_f]; done)) (by rw [hs5]; clear ih; first | (simp [rJ, pA, *]; done) | (simp_all [rJ, pA]; done))
  · have hcn : KR σ e s.1 ≠ 25 := by rw [of_decide_eq_true h16]; decide
    have hg := g_G hE hs hcn
    refine A_aload_n dX11_bothForm_19 rfl 0 rfl ?_
    refine A_Va0 mv_X11_226 lk_84 rfl rfl (c_X11_goes σ s e hF hs) (Nat.le_of_ble_eq_true rfl) (by omega) (by omega) dX11_bothForm_20 ?_
    try simp (disch := omega) only [nc0, nc1, nc2, nc3, nc4, nc5, nc6, nc7, nc8, nc9, nc10, nc11, nc12, nc13, nc14, nc15, nc16, nc17, nc18, nc19, nc20, nc21, isR_st, nmR_st, stR_8, stR_9, stR_86, stR_u8, stR_u9]
    refine A_ifeq_b (tgt := 34) dX11_bothForm_23 (by decide) (fun h23 => ?_) (fun h23 => ?_)
    · refine A_iconst dX11_bothForm_34 ?_
      exact A_zret2 dX11_bothForm_35 (by decide) (by rw [hr]; clear ih; first | (simp [rJ, pA, b2i_t, b2i_f, *]; done) | (simp_all [rJ, pA, b2i_t, b2i_f]; done)) (by rw [hs5]; clear ih; first | (simp [rJ, pA, *]; done) | (simp_all [rJ, pA]; done))
    · refine A_aload_n dX11_bothForm_26 rfl 0 rfl ?_
      refine A_iload_n dX11_bothForm_27 rfl 1 rfl ?_
      refine A_Va1 mv_X11_229 lk_84 rfl rfl (o1 _ _ hg.1 hdm) (Nat.le_of_ble_eq_true rfl) (by omega) (by omega) dX11_bothForm_28 ?_
      try simp (disch := omega) only [nc0, nc1, nc2, nc3, nc4, nc5, nc6, nc7, nc8, nc9, nc10, nc11, nc12, nc13, nc14, nc15, nc16, nc17, nc18, nc19, nc20, nc21, isR_st, nmR_st, stR_8, stR_9, stR_86, stR_u8, stR_u9]
      refine A_ifne_b (tgt := 10) dX11_bothForm_31 (by decide) (fun h31 => ?_) (fun h31 => ?_)
      · refine A_lv [0, 1] rfl ?_
        have hg2 := g_Gt h23
        have hq := gF_One hE m _ hg.1
        refine ih n (by omega) _ r σ1 hq.1 (by omega) (by rw [hr]; clear ih; first | (simp [rJ, pA, *]; done) | (simp_all [rJ, pA]; done)) (by rw [hs5]; clear ih; first | (simp [rJ, pA, *]; done) | (simp_all [rJ, pA]; done))
      · refine A_iconst dX11_bothForm_34 ?_
        exact A_zret2 dX11_bothForm_35 (by decide) (by rw [hr]; clear ih; first | (simp [rJ, pA, b2i_t, b2i_f, *]; done) | (simp_all [rJ, pA, b2i_t, b2i_f]; done)) (by rw [hs5]; clear ih; first | (simp [rJ, pA, *]; done) | (simp_all [rJ, pA]; done))
set_option maxRecDepth 100000 in
set_option maxHeartbeats 4000000 in
theorem w_X11_bothForm (σ : Sg) (e : Int) (hF : FmH σ e) (m : Nat) (s : Pp) (dp : Int) (hs : bd e s) (hdm : dp + m = 8) (o1 : ∀ (s : Pp) (dp : Int), bd e s → dp + m = 8 → Ct l G yX11_oneForm cX11_oneForm 3 (some .boolean) (6 + 3 * m) 0 0 [.ref (lay G 84), .int (I32 dp)] (stR σ s) (some (.int (I32 (b2i (rOne (KR σ e) m s).1)))) (stR σ (rOne (KR σ e) m s).2)) : Ct l G yX11_bothForm cX11_bothForm 2 (some .boolean) (7 + 3 * m) 0 0 [.ref (lay G 84), .int (I32 dp)] (stR σ s) (some (.int (I32 (b2i (rBoth (KR σ e) (rOne (KR σ e) m) s).1)))) (stR σ (rBoth (KR σ e) (rOne (KR σ e) m) s).2) := by
  have hE := FmH.e hF
  obtain ⟨⟨hs1, hs2⟩, hs3, hs4⟩ := id hs
  have he := hF.2.2.1
  refine Ct.of (by decide +kernel) (Nat.le_of_ble_eq_true rfl) (fun f => ?_)
  show AW _ _ _ _ _ _ _ _ _ _ [(0, _), (1, _)] _ _
  refine A_aload_n dX11_bothForm_0 rfl 0 rfl ?_
  refine A_iload_n dX11_bothForm_1 rfl 1 rfl ?_
  refine A_Va1 mv_X11_229 lk_84 rfl rfl (o1 _ _ hs hdm) (Nat.le_of_ble_eq_true rfl) (by omega) (by omega) dX11_bothForm_2 ?_
  try simp (disch := omega) only [nc0, nc1, nc2, nc3, nc4, nc5, nc6, nc7, nc8, nc9, nc10, nc11, nc12, nc13, nc14, nc15, nc16, nc17, nc18, nc19, nc20, nc21, isR_st, nmR_st, stR_8, stR_9, stR_86, stR_u8, stR_u9]
  refine A_ifne_b (tgt := 10) dX11_bothForm_5 (by decide) (fun h5 => ?_) (fun h5 => ?_)
  · refine A_lv [0, 1] rfl ?_
    have hq := gF_One hE m _ hs
    refine w_X11_bothForm10 σ e m dp hF hdm o1 1501 _ _ _ hq.1 (by have := hq.1.1; omega) (by first | (simp [rBoth, pA, *]; done) | (simp_all [rBoth, pA]; done)) (by first | (simp [rBoth, pA, *]; done) | (simp_all [rBoth, pA]; done))
  · refine A_iconst dX11_bothForm_8 ?_
    exact A_zret2 dX11_bothForm_9 (by decide) (by first | (simp [rBoth, pA, b2i_t, b2i_f, *]; done) | (simp_all [rBoth, pA, b2i_t, b2i_f]; done)) (by first | (simp [rBoth, pA, *]; done) | (simp_all [rBoth, pA]; done))
set_option maxRecDepth 100000 in
set_option maxHeartbeats 4000000 in
theorem w_X11_anyForm10 {f : Fm} (σ : Sg) (e : Int) (m : Nat) (dp : Int) (hF : FmH σ e) (hdm : dp + m = 8) (o1 : ∀ (s : Pp) (dp : Int), bd e s → dp + m = 8 → Ct l G yX11_bothForm cX11_bothForm 2 (some .boolean) (7 + 3 * m) 0 0 [.ref (lay G 84), .int (I32 dp)] (stR σ s) (some (.int (I32 (b2i (rBoth (KR σ e) (rOne (KR σ e) m) s).1)))) (stR σ (rBoth (KR σ e) (rOne (KR σ e) m) s).2)) : ∀ (n : Nat) (s : Pp) (r : Option Value) (σ1 : Sg), bd e s → e - s.1 < n → r = some (.int (I32 (b2i ((rJ (KR σ e) 14 (rBoth (KR σ e) (rOne (KR σ e) m)) n) s).1))) → σ1 = stR σ ((rJ (KR σ e) 14 (rBoth (KR σ e) (rOne (KR σ e) m)) n) s).2 → AW l G f (RX11, cX11_anyForm, 2, (some .boolean)) (8 + 3 * m, 0, 0) (QT G f 0 0 r σ1) [] 0 0 10 [(0, .ref (lay G 84)), (1, .int (I32 dp))] [] (stR σ s) := by
  have hE := FmH.e hF
  have he := hF.2.2.1
  intro n
  induction n using Nat.strongRecOn with | _ n ih =>
  intro s r σ1 hs hn hr hs5
  obtain ⟨⟨hs1, hs2⟩, hs3, hs4⟩ := id hs
  obtain ⟨n, rfl⟩ : ∃ q, n = q + 1 := ⟨n - 1, by omega⟩
  
  refine A_aload_n dX11_anyForm_10 rfl 0 rfl ?_
  refine A_ldcs (i := 14) (by decide +kernel) dX11_anyForm_11 ?_
  refine A_Va1 mv_X11_147 lk_84 rfl rfl (c_X11_sees σ s e 14 hF hs (by decide)) (Nat.le_of_ble_eq_true rfl) (by omega) (by omega) dX11_anyForm_13 ?_
  try simp (disch := omega) only [nc0, nc1, nc2, nc3, nc4, nc5, nc6, nc7, nc8, nc9, nc10, nc11, nc12, nc13, nc14, nc15, nc16, nc17, nc18, nc19, nc20, nc21, isR_st, nmR_st, stR_8, stR_9, stR_86, stR_u8, stR_u9]
  refine A_ifeq_b (tgt := 36) dX11_anyForm_16 (by decide) (fun h16 => ?_) (fun h16 => ?_)
  · refine A_iconst dX11_anyForm_36 ?_
    exact A_zret2 dX11_anyForm_37 (by decide) (by rw [hr]; clear ih; first | (simp [rJ, pA, b2i_t, b2i_f, *]; done) | (simp_all [rJ, pA, b2i_t, b2i_f]; done)) (by rw [hs5]; clear ih; first | (simp [rJ, pA, *]; done) | (simp_all [rJ, pA]; done))
  · have hcn : KR σ e s.1 ≠ 25 := by rw [of_decide_eq_true h16]; decide
    have hg := g_G hE hs hcn
    refine A_aload_n dX11_anyForm_19 rfl 0 rfl ?_
    refine A_Va0 mv_X11_226 lk_84 rfl rfl (c_X11_goes σ s e hF hs) (Nat.le_of_ble_eq_true rfl) (by omega) (by omega) dX11_anyForm_20 ?_
    try simp (disch := omega) only [nc0, nc1, nc2, nc3, nc4, nc5, nc6, nc7, nc8, nc9, nc10, nc11, nc12, nc13, nc14, nc15, nc16, nc17, nc18, nc19, nc20, nc21, isR_st, nmR_st, stR_8, stR_9, stR_86, stR_u8, stR_u9]
    refine A_ifeq_b (tgt := 34) dX11_anyForm_23 (by decide) (fun h23 => ?_) (fun h23 => ?_)
    · refine A_iconst dX11_anyForm_34 ?_
      exact A_zret2 dX11_anyForm_35 (by decide) (by rw [hr]; clear ih; first | (simp [rJ, pA, b2i_t, b2i_f, *]; done) | (simp_all [rJ, pA, b2i_t, b2i_f]; done)) (by rw [hs5]; clear ih; first | (simp [rJ, pA, *]; done) | (simp_all [rJ, pA]; done))
    · refine A_aload_n dX11_anyForm_26 rfl 0 rfl ?_
      refine A_iload_n dX11_anyForm_27 rfl 1 rfl ?_
      refine A_Va1 mv_X11_221 lk_84 rfl rfl (o1 _ _ hg.1 hdm) (Nat.le_of_ble_eq_true rfl) (by omega) (by omega) dX11_anyForm_28 ?_
      try simp (disch := omega) only [nc0, nc1, nc2, nc3, nc4, nc5, nc6, nc7, nc8, nc9, nc10, nc11, nc12, nc13, nc14, nc15, nc16, nc17, nc18, nc19, nc20, nc21, isR_st, nmR_st, stR_8, stR_9, stR_86, stR_u8, stR_u9]
      refine A_ifne_b (tgt := 10) dX11_anyForm_31 (by decide) (fun h31 => ?_) (fun h31 => ?_)
      · refine A_lv [0, 1] rfl ?_
        have hg2 := g_Gt h23
        have hq := gF_Both hE (gF_One hE m) _ hg.1
        refine ih n (by omega) _ r σ1 hq.1 (by omega) (by rw [hr]; clear ih; first | (simp [rJ, pA, *]; done) | (simp_all [rJ, pA]; done)) (by rw [hs5]; clear ih; first | (simp [rJ, pA, *]; done) | (simp_all [rJ, pA]; done))
      · refine A_iconst dX11_anyForm_34 ?_
        exact A_zret2 dX11_anyForm_35 (by decide) (by rw [hr]; clear ih; first | (simp [rJ, pA, b2i_t, b2i_f, *]; done) | (simp_all [rJ, pA, b2i_t, b2i_f]; done)) (by rw [hs5]; clear ih; first | (simp [rJ, pA, *]; done) | (simp_all [rJ, pA]; done))
set_option maxRecDepth 100000 in
set_option maxHeartbeats 4000000 in
theorem w_X11_anyForm (σ : Sg) (e : Int) (hF : FmH σ e) (m : Nat) (s : Pp) (dp : Int) (hs : bd e s) (hdm : dp + m = 8) (o1 : ∀ (s : Pp) (dp : Int), bd e s → dp + m = 8 → Ct l G yX11_bothForm cX11_bothForm 2 (some .boolean) (7 + 3 * m) 0 0 [.ref (lay G 84), .int (I32 dp)] (stR σ s) (some (.int (I32 (b2i (rBoth (KR σ e) (rOne (KR σ e) m) s).1)))) (stR σ (rBoth (KR σ e) (rOne (KR σ e) m) s).2)) : Ct l G yX11_anyForm cX11_anyForm 2 (some .boolean) (8 + 3 * m) 0 0 [.ref (lay G 84), .int (I32 dp)] (stR σ s) (some (.int (I32 (b2i (rAny (KR σ e) (rOne (KR σ e) m) s).1)))) (stR σ (rAny (KR σ e) (rOne (KR σ e) m) s).2) := by
  have hE := FmH.e hF
  obtain ⟨⟨hs1, hs2⟩, hs3, hs4⟩ := id hs
  have he := hF.2.2.1
  refine Ct.of (by decide +kernel) (Nat.le_of_ble_eq_true rfl) (fun f => ?_)
  show AW _ _ _ _ _ _ _ _ _ _ [(0, _), (1, _)] _ _
  refine A_aload_n dX11_anyForm_0 rfl 0 rfl ?_
  refine A_iload_n dX11_anyForm_1 rfl 1 rfl ?_
  refine A_Va1 mv_X11_221 lk_84 rfl rfl (o1 _ _ hs hdm) (Nat.le_of_ble_eq_true rfl) (by omega) (by omega) dX11_anyForm_2 ?_
  try simp (disch := omega) only [nc0, nc1, nc2, nc3, nc4, nc5, nc6, nc7, nc8, nc9, nc10, nc11, nc12, nc13, nc14, nc15, nc16, nc17, nc18, nc19, nc20, nc21, isR_st, nmR_st, stR_8, stR_9, stR_86, stR_u8, stR_u9]
  refine A_ifne_b (tgt := 10) dX11_anyForm_5 (by decide) (fun h5 => ?_) (fun h5 => ?_)
  · refine A_lv [0, 1] rfl ?_
    have hq := gF_Both hE (gF_One hE m) _ hs
    refine w_X11_anyForm10 σ e m dp hF hdm o1 1501 _ _ _ hq.1 (by have := hq.1.1; omega) (by first | (simp [rAny, pA, *]; done) | (simp_all [rAny, pA]; done)) (by first | (simp [rAny, pA, *]; done) | (simp_all [rAny, pA]; done))
  · refine A_iconst dX11_anyForm_8 ?_
    exact A_zret2 dX11_anyForm_9 (by decide) (by first | (simp [rAny, pA, b2i_t, b2i_f, *]; done) | (simp_all [rAny, pA, b2i_t, b2i_f]; done)) (by first | (simp [rAny, pA, *]; done) | (simp_all [rAny, pA]; done))
set_option maxRecDepth 100000 in
set_option maxHeartbeats 4000000 in
theorem w_X11_oneForm (σ : Sg) (e : Int) (hF : FmH σ e) (m : Nat) (s : Pp) (dp : Int) (hs : bd e s) (hdm : dp + m = 8) (hmm : m ≤ 8) (o1 : ∀ q, m = q + 1 → ∀ (s : Pp) (dp : Int), bd e s → dp + q = 8 → Ct l G yX11_oneForm cX11_oneForm 3 (some .boolean) (6 + 3 * q) 0 0 [.ref (lay G 84), .int (I32 dp)] (stR σ s) (some (.int (I32 (b2i (rOne (KR σ e) q s).1)))) (stR σ (rOne (KR σ e) q s).2)) (o2 : ∀ q, m = q + 1 → ∀ (s : Pp) (dp : Int), bd e s → dp + q = 8 → Ct l G yX11_anyForm cX11_anyForm 2 (some .boolean) (8 + 3 * q) 0 0 [.ref (lay G 84), .int (I32 dp)] (stR σ s) (some (.int (I32 (b2i (rAny (KR σ e) (rOne (KR σ e) q) s).1)))) (stR σ (rAny (KR σ e) (rOne (KR σ e) q) s).2)) : Ct l G yX11_oneForm cX11_oneForm 3 (some .boolean) (6 + 3 * m) 0 0 [.ref (lay G 84), .int (I32 dp)] (stR σ s) (some (.int (I32 (b2i (rOne (KR σ e) m s).1)))) (stR σ (rOne (KR σ e) m s).2) := by
  have hE := FmH.e hF
  obtain ⟨⟨hs1, hs2⟩, hs3, hs4⟩ := id hs
  have he := hF.2.2.1
  refine Ct.of (by decide +kernel) (Nat.le_of_ble_eq_true rfl) (fun f => ?_)
  show AW _ _ _ _ _ _ _ _ _ _ [(0, _), (1, _)] _ _
  refine A_aload_n dX11_oneForm_0 rfl 0 rfl ?_
  refine A_aload_n dX11_oneForm_1 rfl 0 rfl ?_
  refine A_geti fl_X11_144 lk_84 rfl dX11_oneForm_2 ?_
  try simp (disch := omega) only [up_k, up_j, up_s, nc0, nc1, nc2, nc3, nc4, nc5, nc6, nc7, nc8, nc9, nc10, nc11, nc12, nc13, nc14, nc15, nc16, nc17, nc18, nc19, nc20, nc21, isR_st, nmR_st, stR_8, stR_9, stR_86, stR_u8, stR_u9]
  refine A_Va1 mv_X11_151 lk_84 rfl rfl (c_X11_isName (stR σ s) _ hF.1 hF.2.1 ⟨by omega, by omega⟩) (Nat.le_of_ble_eq_true rfl) (by omega) (by omega) dX11_oneForm_5 ?_
  try simp (disch := omega) only [nc0, nc1, nc2, nc3, nc4, nc5, nc6, nc7, nc8, nc9, nc10, nc11, nc12, nc13, nc14, nc15, nc16, nc17, nc18, nc19, nc20, nc21, isR_st, nmR_st, stR_8, stR_9, stR_86, stR_u8, stR_u9]
  rw [name_eq hF hs]
  refine A_ifeq_b (tgt := 16) dX11_oneForm_8 (by decide) (fun h8 => ?_) (fun h8 => ?_)
  · refine A_aload_n dX11_oneForm_16 rfl 0 rfl ?_
    refine A_ldcs (i := 15) (by decide +kernel) dX11_oneForm_17 ?_
    refine A_Va1 mv_X11_147 lk_84 rfl rfl (c_X11_sees σ s e 15 hF hs (by decide)) (Nat.le_of_ble_eq_true rfl) (by omega) (by omega) dX11_oneForm_19 ?_
    try simp (disch := omega) only [nc0, nc1, nc2, nc3, nc4, nc5, nc6, nc7, nc8, nc9, nc10, nc11, nc12, nc13, nc14, nc15, nc16, nc17, nc18, nc19, nc20, nc21, isR_st, nmR_st, stR_8, stR_9, stR_86, stR_u8, stR_u9]
    refine A_istore_n (lv2 := [(2, _), (0, _), (1, _)]) dX11_oneForm_22 rfl (by decide) rfl ?_
    refine A_iload_n dX11_oneForm_23 rfl 0 rfl ?_
    refine A_ifne_b (tgt := 36) dX11_oneForm_24 (by decide) (fun h24 => ?_) (fun h24 => ?_)
    · refine A_iload_n dX11_oneForm_36 rfl 2 rfl ?_
      refine A_bipush dX11_oneForm_37 (by decide +kernel) ?_
      refine J_icmp_eq (tgt := 49) dX11_oneForm_39 (by decide) (by first | exact i32_eq (by assumption) | exact i32_eq ⟨by omega, by omega⟩ | with_reducible exact i32_i32 _ | with_reducible exact i32_eq (b2i_inr _) | rfl) (by first | exact i32_eq (by assumption) | exact i32_eq ⟨by omega, by omega⟩ | with_reducible exact i32_i32 _ | with_reducible exact i32_eq (b2i_inr _) | rfl) (fun h39 => ?_) (fun h39 => ?_)
      · obtain rfl : m = 0 := by omega
        refine A_iconst dX11_oneForm_49 ?_
        exact A_zret2 dX11_oneForm_50 (by decide) (by first | (simp [rOne, rC, pA, *]; done) | (simp_all [rOne, rC, pA, b2i_t, b2i_f]; done) | (cases m <;> simp_all [rOne, rC, pA, b2i_t, b2i_f]; done)) (by first | (simp [rOne, rC, pA, *]; done) | (simp_all [rOne, rC, pA, b2i_t, b2i_f]; done) | (cases m <;> simp_all [rOne, rC, pA, b2i_t, b2i_f]; done))
      · obtain ⟨q, rfl⟩ : ∃ q, m = q + 1 := ⟨m - 1, by omega⟩
        have e1 := o1 q rfl
        have e2 := o2 q rfl
        clear o1 o2
        have hcn : KR σ e s.1 ≠ 25 := by first | (rw [of_decide_eq_true h24]; decide) | (rw [of_decide_eq_true h33]; decide)
        have hg := g_G hE hs hcn
        have ha := gF_Any hE (gF_One hE q) _ hg.1
        refine A_aload_n dX11_oneForm_42 rfl 1 rfl ?_
        refine A_Va0 mv_X11_226 lk_84 rfl rfl (c_X11_goes σ s e hF hs) (Nat.le_of_ble_eq_true rfl) (by omega) (by omega) dX11_oneForm_43 ?_
        try simp (disch := omega) only [nc0, nc1, nc2, nc3, nc4, nc5, nc6, nc7, nc8, nc9, nc10, nc11, nc12, nc13, nc14, nc15, nc16, nc17, nc18, nc19, nc20, nc21, isR_st, nmR_st, stR_8, stR_9, stR_86, stR_u8, stR_u9]
        refine A_ifne_b (tgt := 51) dX11_oneForm_46 (by decide) (fun h46 => ?_) (fun h46 => ?_)
        · refine A_iload_n dX11_oneForm_51 rfl 0 rfl ?_
          refine A_ifeq_b (tgt := 63) dX11_oneForm_52 (by decide) (fun h => absurd (h24.symm.trans h) (by decide)) (fun _ => ?_)
          refine A_aload_n dX11_oneForm_55 rfl 1 rfl ?_
          refine A_iload_n dX11_oneForm_56 rfl 2 rfl ?_
          refine A_iconst dX11_oneForm_57 ?_
          refine A_iadd dX11_oneForm_58 ?_
          refine A_Va1 mv_X11_229 lk_84 rfl rfl (e1 _ _ hg.1 (by omega)) (Nat.le_of_ble_eq_true rfl) (by omega) (by omega) dX11_oneForm_59 ?_
          try simp (disch := omega) only [nc0, nc1, nc2, nc3, nc4, nc5, nc6, nc7, nc8, nc9, nc10, nc11, nc12, nc13, nc14, nc15, nc16, nc17, nc18, nc19, nc20, nc21, isR_st, nmR_st, stR_8, stR_9, stR_86, stR_u8, stR_u9]
          exact A_zret dX11_oneForm_62 (by first | (simp [rOne, rC, pA, *]; done) | (simp_all [rOne, rC, pA, b2i_t, b2i_f]; done) | (cases m <;> simp_all [rOne, rC, pA, b2i_t, b2i_f]; done)) (by first | (simp [rOne, rC, pA, *]; done) | (simp_all [rOne, rC, pA, b2i_t, b2i_f]; done) | (cases m <;> simp_all [rOne, rC, pA, b2i_t, b2i_f]; done))
        · refine A_iconst dX11_oneForm_49 ?_
          exact A_zret2 dX11_oneForm_50 (by decide) (by first | (simp [rOne, rC, pA, *]; done) | (simp_all [rOne, rC, pA, b2i_t, b2i_f]; done) | (cases m <;> simp_all [rOne, rC, pA, b2i_t, b2i_f]; done)) (by first | (simp [rOne, rC, pA, *]; done) | (simp_all [rOne, rC, pA, b2i_t, b2i_f]; done) | (cases m <;> simp_all [rOne, rC, pA, b2i_t, b2i_f]; done))
    · refine A_aload_n dX11_oneForm_27 rfl 1 rfl ?_
      refine A_ldcs (i := 20) (by decide +kernel) dX11_oneForm_28 ?_
      refine A_Va1 mv_X11_147 lk_84 rfl rfl (c_X11_sees σ s e 20 hF hs (by decide)) (Nat.le_of_ble_eq_true rfl) (by omega) (by omega) dX11_oneForm_30 ?_
      try simp (disch := omega) only [nc0, nc1, nc2, nc3, nc4, nc5, nc6, nc7, nc8, nc9, nc10, nc11, nc12, nc13, nc14, nc15, nc16, nc17, nc18, nc19, nc20, nc21, isR_st, nmR_st, stR_8, stR_9, stR_86, stR_u8, stR_u9]
      refine A_ifeq_b (tgt := 49) dX11_oneForm_33 (by decide) (fun h33 => ?_) (fun h33 => ?_)
      · refine A_iconst dX11_oneForm_49 ?_
        exact A_zret2 dX11_oneForm_50 (by decide) (by first | (simp [rOne, rC, pA, *]; done) | (simp_all [rOne, rC, pA, b2i_t, b2i_f]; done) | (cases m <;> simp_all [rOne, rC, pA, b2i_t, b2i_f]; done)) (by first | (simp [rOne, rC, pA, *]; done) | (simp_all [rOne, rC, pA, b2i_t, b2i_f]; done) | (cases m <;> simp_all [rOne, rC, pA, b2i_t, b2i_f]; done))
      · refine A_iload_n dX11_oneForm_36 rfl 2 rfl ?_
        refine A_bipush dX11_oneForm_37 (by decide +kernel) ?_
        refine J_icmp_eq (tgt := 49) dX11_oneForm_39 (by decide) (by first | exact i32_eq (by assumption) | exact i32_eq ⟨by omega, by omega⟩ | with_reducible exact i32_i32 _ | with_reducible exact i32_eq (b2i_inr _) | rfl) (by first | exact i32_eq (by assumption) | exact i32_eq ⟨by omega, by omega⟩ | with_reducible exact i32_i32 _ | with_reducible exact i32_eq (b2i_inr _) | rfl) (fun h39 => ?_) (fun h39 => ?_)
        · obtain rfl : m = 0 := by omega
          refine A_iconst dX11_oneForm_49 ?_
          exact A_zret2 dX11_oneForm_50 (by decide) (by first | (simp [rOne, rC, pA, *]; done) | (simp_all [rOne, rC, pA, b2i_t, b2i_f]; done) | (cases m <;> simp_all [rOne, rC, pA, b2i_t, b2i_f]; done)) (by first | (simp [rOne, rC, pA, *]; done) | (simp_all [rOne, rC, pA, b2i_t, b2i_f]; done) | (cases m <;> simp_all [rOne, rC, pA, b2i_t, b2i_f]; done))
        · obtain ⟨q, rfl⟩ : ∃ q, m = q + 1 := ⟨m - 1, by omega⟩
          have e1 := o1 q rfl
          have e2 := o2 q rfl
          clear o1 o2
          have hcn : KR σ e s.1 ≠ 25 := by first | (rw [of_decide_eq_true h24]; decide) | (rw [of_decide_eq_true h33]; decide)
          have hg := g_G hE hs hcn
          have ha := gF_Any hE (gF_One hE q) _ hg.1
          refine A_aload_n dX11_oneForm_42 rfl 1 rfl ?_
          refine A_Va0 mv_X11_226 lk_84 rfl rfl (c_X11_goes σ s e hF hs) (Nat.le_of_ble_eq_true rfl) (by omega) (by omega) dX11_oneForm_43 ?_
          try simp (disch := omega) only [nc0, nc1, nc2, nc3, nc4, nc5, nc6, nc7, nc8, nc9, nc10, nc11, nc12, nc13, nc14, nc15, nc16, nc17, nc18, nc19, nc20, nc21, isR_st, nmR_st, stR_8, stR_9, stR_86, stR_u8, stR_u9]
          refine A_ifne_b (tgt := 51) dX11_oneForm_46 (by decide) (fun h46 => ?_) (fun h46 => ?_)
          · refine A_iload_n dX11_oneForm_51 rfl 0 rfl ?_
            refine A_ifeq_b (tgt := 63) dX11_oneForm_52 (by decide) (fun _ => ?_) (fun h => absurd (h24.symm.trans h) (by decide))
            refine A_aload_n dX11_oneForm_63 rfl 1 rfl ?_
            refine A_iload_n dX11_oneForm_64 rfl 2 rfl ?_
            refine A_iconst dX11_oneForm_65 ?_
            refine A_iadd dX11_oneForm_66 ?_
            refine A_Va1 mv_X11_218 lk_84 rfl rfl (e2 _ _ hg.1 (by omega)) (Nat.le_of_ble_eq_true rfl) (by omega) (by omega) dX11_oneForm_67 ?_
            try simp (disch := omega) only [nc0, nc1, nc2, nc3, nc4, nc5, nc6, nc7, nc8, nc9, nc10, nc11, nc12, nc13, nc14, nc15, nc16, nc17, nc18, nc19, nc20, nc21, isR_st, nmR_st, stR_8, stR_9, stR_86, stR_u8, stR_u9]
            refine A_ifeq_b (tgt := 93) dX11_oneForm_70 (by decide) (fun h70 => ?_) (fun h70 => ?_)
            · refine A_iconst dX11_oneForm_93 ?_
              exact A_zret2 dX11_oneForm_94 (by decide) (by first | (simp [rOne, rC, pA, *]; done) | (simp_all [rOne, rC, pA, b2i_t, b2i_f]; done) | (cases m <;> simp_all [rOne, rC, pA, b2i_t, b2i_f]; done)) (by first | (simp [rOne, rC, pA, *]; done) | (simp_all [rOne, rC, pA, b2i_t, b2i_f]; done) | (cases m <;> simp_all [rOne, rC, pA, b2i_t, b2i_f]; done))
            · refine A_aload_n dX11_oneForm_73 rfl 1 rfl ?_
              refine A_ldcs (i := 21) (by decide +kernel) dX11_oneForm_74 ?_
              refine A_Va1 mv_X11_147 lk_84 rfl rfl (c_X11_sees σ _ e 21 hF ha.1 (by decide)) (Nat.le_of_ble_eq_true rfl) (by omega) (by omega) dX11_oneForm_76 ?_
              try simp (disch := omega) only [nc0, nc1, nc2, nc3, nc4, nc5, nc6, nc7, nc8, nc9, nc10, nc11, nc12, nc13, nc14, nc15, nc16, nc17, nc18, nc19, nc20, nc21, isR_st, nmR_st, stR_8, stR_9, stR_86, stR_u8, stR_u9]
              refine A_ifeq_b (tgt := 93) dX11_oneForm_79 (by decide) (fun h79 => ?_) (fun h79 => ?_)
              · refine A_iconst dX11_oneForm_93 ?_
                exact A_zret2 dX11_oneForm_94 (by decide) (by first | (simp [rOne, rC, pA, *]; done) | (simp_all [rOne, rC, pA, b2i_t, b2i_f]; done) | (cases m <;> simp_all [rOne, rC, pA, b2i_t, b2i_f]; done)) (by first | (simp [rOne, rC, pA, *]; done) | (simp_all [rOne, rC, pA, b2i_t, b2i_f]; done) | (cases m <;> simp_all [rOne, rC, pA, b2i_t, b2i_f]; done))
              · refine A_aload_n dX11_oneForm_82 rfl 1 rfl ?_
                refine A_Va0 mv_X11_226 lk_84 rfl rfl (c_X11_goes σ _ e hF ha.1) (Nat.le_of_ble_eq_true rfl) (by omega) (by omega) dX11_oneForm_83 ?_
                try simp (disch := omega) only [nc0, nc1, nc2, nc3, nc4, nc5, nc6, nc7, nc8, nc9, nc10, nc11, nc12, nc13, nc14, nc15, nc16, nc17, nc18, nc19, nc20, nc21, isR_st, nmR_st, stR_8, stR_9, stR_86, stR_u8, stR_u9]
                refine A_ifeq_b (tgt := 93) dX11_oneForm_86 (by decide) (fun h86 => ?_) (fun h86 => ?_)
                · refine A_iconst dX11_oneForm_93 ?_
                  exact A_zret2 dX11_oneForm_94 (by decide) (by first | (simp [rOne, rC, pA, *]; done) | (simp_all [rOne, rC, pA, b2i_t, b2i_f]; done) | (cases m <;> simp_all [rOne, rC, pA, b2i_t, b2i_f]; done)) (by first | (simp [rOne, rC, pA, *]; done) | (simp_all [rOne, rC, pA, b2i_t, b2i_f]; done) | (cases m <;> simp_all [rOne, rC, pA, b2i_t, b2i_f]; done))
                · refine A_iconst dX11_oneForm_89 ?_
                  refine A_goto (tgt := 94) dX11_oneForm_90 (by decide) ?_
                  exact A_zret2 dX11_oneForm_94 (by decide) (by first | (simp [rOne, rC, pA, *]; done) | (simp_all [rOne, rC, pA, b2i_t, b2i_f]; done) | (cases m <;> simp_all [rOne, rC, pA, b2i_t, b2i_f]; done)) (by first | (simp [rOne, rC, pA, *]; done) | (simp_all [rOne, rC, pA, b2i_t, b2i_f]; done) | (cases m <;> simp_all [rOne, rC, pA, b2i_t, b2i_f]; done))
          · refine A_iconst dX11_oneForm_49 ?_
            exact A_zret2 dX11_oneForm_50 (by decide) (by first | (simp [rOne, rC, pA, *]; done) | (simp_all [rOne, rC, pA, b2i_t, b2i_f]; done) | (cases m <;> simp_all [rOne, rC, pA, b2i_t, b2i_f]; done)) (by first | (simp [rOne, rC, pA, *]; done) | (simp_all [rOne, rC, pA, b2i_t, b2i_f]; done) | (cases m <;> simp_all [rOne, rC, pA, b2i_t, b2i_f]; done))
  · refine A_aload_n dX11_oneForm_11 rfl 0 rfl ?_
    refine A_Va0 mv_X11_226 lk_84 rfl rfl (c_X11_goes σ s e hF hs) (Nat.le_of_ble_eq_true rfl) (by omega) (by omega) dX11_oneForm_12 ?_
    try simp (disch := omega) only [nc0, nc1, nc2, nc3, nc4, nc5, nc6, nc7, nc8, nc9, nc10, nc11, nc12, nc13, nc14, nc15, nc16, nc17, nc18, nc19, nc20, nc21, isR_st, nmR_st, stR_8, stR_9, stR_86, stR_u8, stR_u9]
    exact A_zret dX11_oneForm_15 (by first | (simp [rOne, rC, pA, *]; done) | (simp_all [rOne, rC, pA, b2i_t, b2i_f]; done) | (cases m <;> simp_all [rOne, rC, pA, b2i_t, b2i_f]; done)) (by first | (simp [rOne, rC, pA, *]; done) | (simp_all [rOne, rC, pA, b2i_t, b2i_f]; done) | (cases m <;> simp_all [rOne, rC, pA, b2i_t, b2i_f]; done))
theorem c_X11_forms (σ : Sg) (e : Int) (hF : FmH σ e) : ∀ m : Nat, m ≤ 8 → (∀ (s : Pp) (dp : Int), bd e s → dp + m = 8 → Ct l G yX11_oneForm cX11_oneForm 3 (some .boolean) (6 + 3 * m) 0 0 [.ref (lay G 84), .int (I32 dp)] (stR σ s) (some (.int (I32 (b2i (rOne (KR σ e) m s).1)))) (stR σ (rOne (KR σ e) m s).2)) ∧ (∀ (s : Pp) (dp : Int), bd e s → dp + m = 8 → Ct l G yX11_anyForm cX11_anyForm 2 (some .boolean) (8 + 3 * m) 0 0 [.ref (lay G 84), .int (I32 dp)] (stR σ s) (some (.int (I32 (b2i (rAny (KR σ e) (rOne (KR σ e) m) s).1)))) (stR σ (rAny (KR σ e) (rOne (KR σ e) m) s).2)) := by
  intro m
  induction m with
  | zero =>
    intro h8
    have h1 : ∀ (s : Pp) (dp : Int), bd e s → dp + 0 = 8 → Ct l G yX11_oneForm cX11_oneForm 3 (some .boolean) (6 + 3 * 0) 0 0 [.ref (lay G 84), .int (I32 dp)] (stR σ s) (some (.int (I32 (b2i (rOne (KR σ e) 0 s).1)))) (stR σ (rOne (KR σ e) 0 s).2) := fun s dp hs h => w_X11_oneForm σ e hF 0 s dp hs h h8 (fun q hq => by omega) (fun q hq => by omega)
    have h2 : ∀ (s : Pp) (dp : Int), bd e s → dp + 0 = 8 → Ct l G yX11_bothForm cX11_bothForm 2 (some .boolean) (7 + 3 * 0) 0 0 [.ref (lay G 84), .int (I32 dp)] (stR σ s) (some (.int (I32 (b2i (rBoth (KR σ e) (rOne (KR σ e) 0) s).1)))) (stR σ (rBoth (KR σ e) (rOne (KR σ e) 0) s).2) := fun s dp hs h => w_X11_bothForm σ e hF 0 s dp hs h h1
    exact ⟨h1, fun s dp hs h => w_X11_anyForm σ e hF 0 s dp hs h h2⟩
  | succ m ih =>
    intro h8
    have ih := ih (by omega)
    have h1 : ∀ (s : Pp) (dp : Int), bd e s → dp + ((m + 1 : Nat) : Int) = 8 → Ct l G yX11_oneForm cX11_oneForm 3 (some .boolean) (6 + 3 * (m + 1)) 0 0 [.ref (lay G 84), .int (I32 dp)] (stR σ s) (some (.int (I32 (b2i (rOne (KR σ e) (m + 1) s).1)))) (stR σ (rOne (KR σ e) (m + 1) s).2) := fun s dp hs h => w_X11_oneForm σ e hF (m + 1) s dp hs h h8 (fun q hq => by cases hq; exact ih.1) (fun q hq => by cases hq; exact ih.2)
    have h2 : ∀ (s : Pp) (dp : Int), bd e s → dp + ((m + 1 : Nat) : Int) = 8 → Ct l G yX11_bothForm cX11_bothForm 2 (some .boolean) (7 + 3 * (m + 1)) 0 0 [.ref (lay G 84), .int (I32 dp)] (stR σ s) (some (.int (I32 (b2i (rBoth (KR σ e) (rOne (KR σ e) (m + 1)) s).1)))) (stR σ (rBoth (KR σ e) (rOne (KR σ e) (m + 1)) s).2) := fun s dp hs h => w_X11_bothForm σ e hF (m + 1) s dp hs h h1
    exact ⟨h1, fun s dp hs h => w_X11_anyForm σ e hF (m + 1) s dp hs h h2⟩
theorem c_X11_any0 (σ : Sg) (s : Pp) (e : Int) (hF : FmH σ e) (hs : bd e s) : Ct l G yX11_anyForm cX11_anyForm 2 (some .boolean) 32 0 0 [.ref (lay G 84), .int (I32 0)] (stR σ s) (some (.int (I32 (b2i (rAny (KR σ e) (rOne (KR σ e) 8) s).1)))) (stR σ (rAny (KR σ e) (rOne (KR σ e) 8) s).2) := (c_X11_forms (l := l) (G := G) σ e hF 8 (by omega)).2 s 0 hs (by omega)
set_option maxRecDepth 100000 in
set_option maxHeartbeats 4000000 in
theorem c_X11_choiceForm (σ : Sg) (s : Pp) (e : Int) (hF : FmH σ e) (hs : bd e s) : Ct l G yX11_choiceForm cX11_choiceForm 1 (some .boolean) 33 0 0 [.ref (lay G 84)] (stR σ s) (some (.int (I32 (b2i (qEx (KR σ e) s).1)))) (stR σ (qEx (KR σ e) s).2) := by
  have hE := FmH.e hF
  obtain ⟨⟨hs1, hs2⟩, hs3, hs4⟩ := id hs
  have he := hF.2.2.1
  refine Ct.of (by decide +kernel) (Nat.le_of_ble_eq_true rfl) (fun f => ?_)
  show AW _ _ _ _ _ _ _ _ _ _ [(0, _)] _ _
  refine A_aload_n dX11_choiceForm_0 rfl 0 rfl ?_
  refine A_aload_n dX11_choiceForm_1 rfl 0 rfl ?_
  refine A_geti fl_X11_144 lk_84 rfl dX11_choiceForm_2 ?_
  try simp (disch := omega) only [up_k, up_j, up_s, nc0, nc1, nc2, nc3, nc4, nc5, nc6, nc7, nc8, nc9, nc10, nc11, nc12, nc13, nc14, nc15, nc16, nc17, nc18, nc19, nc20, nc21, isR_st, nmR_st, stR_8, stR_9, stR_86, stR_u8, stR_u9]
  refine A_puti fl_X11_215 lk_84 rfl dX11_choiceForm_5 ?_
  try simp only [nc0, nc1, nc2, nc3, nc4, nc5, nc6, nc7, nc8, nc9, nc10, nc11, nc12, nc13, nc14, nc15, nc16, nc17, nc18, nc19, nc20, nc21, isR_st, nmR_st, stR_8, stR_9, stR_86, stR_u8, stR_u9]
  refine A_aload_n dX11_choiceForm_8 rfl 0 rfl ?_
  refine A_iconst dX11_choiceForm_9 ?_
  refine A_Va1 mv_X11_218 lk_84 rfl rfl (c_X11_any0 σ _ e hF ⟨hs.1, hs1, by show s.1 ≤ 1500; omega⟩) (Nat.le_of_ble_eq_true rfl) (by omega) (by omega) dX11_choiceForm_10 ?_
  try simp (disch := omega) only [nc0, nc1, nc2, nc3, nc4, nc5, nc6, nc7, nc8, nc9, nc10, nc11, nc12, nc13, nc14, nc15, nc16, nc17, nc18, nc19, nc20, nc21, isR_st, nmR_st, stR_8, stR_9, stR_86, stR_u8, stR_u9]
  exact A_zret dX11_choiceForm_13 (by first | (simp [qEx, pA, pT_f, b2i_t, b2i_f, *]; done) | (simp_all [qEx, pA, pT_f, b2i_t, b2i_f]; done)) (by first | (simp [qEx, pA, pT_f, *]; done) | (simp_all [qEx, pA, pT_f]; done))
end S33
