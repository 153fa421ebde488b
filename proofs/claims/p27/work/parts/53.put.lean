/-! a dish put at a place: the class's tallies stay the reference's counts -/
section S53
variable {σ τ : Sg}
theorem fG_fWr {α : Type} {c : Int → α → Bool} {g : Int → α → α} {sz : Int} : ∀ (n : Nat) (i : Int) (a : α), (∀ j a, i ≤ j → j < i + n → c j a = decide (j < sz)) → fG c g n i a = fW sz g n i a
  | 0, _, _, _ => rfl
  | n + 1, i, a, hc => by
    rw [fG_s, fW_s, hc i a (Int.le_refl _) (by omega)]
    by_cases h : i < sz
    · rw [if_pos (decide_eq_true h), if_pos h]; exact fG_fWr n (i + 1) _ (fun j a h1 h2 => hc j a (by omega) (by omega))
    · rw [if_neg (by rw [decide_eq_false h]; decide), if_neg h]
def rw_ (a : Sg) (k : Nat) : Int → Int := fun j => a k j.toNat
/-- what the class has to count faults out of -/
def RcH (a : Sg) (r : Nat) : Prop := (0 ≤ a 19 r ∧ a 19 r ≤ 3) ∧ (0 ≤ a 20 r ∧ a 20 r ≤ 9999) ∧ (0 ≤ a 21 r ∧ a 21 r ≤ 9999) ∧ (0 ≤ a 55 6 ∧ a 55 6 ≤ 14) ∧ (a 19 r = 0 → 1 ≤ a 20 r) ∧ (a 19 r = 1 ∨ a 19 r = 2 → 1 ≤ a 21 r) ∧ (∀ d : Nat, (d : Int) < a 55 6 → (0 ≤ a (75 + r) d ∧ a (75 + r) d ≤ 8) ∧ -2000000000 ≤ a 58 d ∧ a 58 d ≤ 2000000000)
theorem win_bd {a : Sg} {r : Nat} (h : RcH a r) {fr s : Int} (h0 : 0 ≤ fr) (h1 : 0 ≤ s) (h2 : fr + s ≤ a 55 6) : 0 ≤ winN (rw_ a (75 + r)) fr s ∧ winN (rw_ a (75 + r)) fr s ≤ 112 := by
  obtain ⟨-, -, -, hD, -, -, hc⟩ := h
  unfold winN
  have e : (fr + s).toNat = fr.toNat + s.toNat := by omega
  rw [e, sm_app]
  have := sm_bd (h := fun j => rw_ a (75 + r) (fr.toNat + j)) (a := 0) (b := 8) s.toNat (fun j j0 j1 => by
    have := (hc ((fr.toNat : Int) + j).toNat (by omega)).1
    exact this)
  omega
def cpH (a : Sg) (r : Nat) (f d : Int) : Int := rw_ a (75 + r) d * nearN f (rw_ a (75 + r)) d + (rw_ a (75 + r) d * (rw_ a (75 + r) d - 1)).tdiv 2
def neP (f : Int) (cn : Int → Int) (i : Int) : Int := sm (fun j => if i - 1 - j < f then cn j else 0) i.toNat
theorem neP_n {f : Int} {cn : Int → Int} {i : Int} (hi : 0 ≤ i) (hf : 1 ≤ f) : (if f ≤ i ∧ 0 ≤ f then neP f cn i - cn (i - f) else neP f cn i) = nearN f cn i := by
  unfold neP nearN
  by_cases c : f ≤ i
  · rw [if_pos ⟨c, by omega⟩]
    rw [sm_pt (h := fun j => if i - 1 - j < f then cn j else 0) (g := fun j => if i - j < f then cn j else 0) (k := i - f) i.toNat (by omega) (by omega) (fun j h0 h1 h2 => by
      by_cases c2 : i - j < f
      · rw [if_pos c2, if_pos (by omega)]
      · rw [if_neg c2, if_neg (by omega)])]
    rw [if_pos (by omega), if_neg (by omega)]; omega
  · rw [if_neg (by omega)]
    exact sm_ext _ (fun j h0 h1 => by rw [if_pos (by omega), if_pos (by omega)])
theorem neP_s {f : Int} {cn : Int → Int} {i : Int} (hi : 0 ≤ i) (hf : 1 ≤ f) : neP f cn (i + 1) = nearN f cn i + cn i := by
  unfold neP nearN
  rw [show (i + 1).toNat = i.toNat + 1 from by omega, sm_s]
  rw [sm_ext (h := fun j => if i + 1 - 1 - j < f then cn j else 0) (g := fun j => if i - j < f then cn j else 0) i.toNat (fun j _ _ => by rw [show i + 1 - 1 - j = i - j from by omega])]
  rw [show ((i.toNat : Nat) : Int) = i from by omega, if_pos (by omega)]
theorem cp_e {a : Sg} {r : Nat} (h : RcH a r) (hf : 1 ≤ a 20 r) : ∀ (n : Nat) (i : Int) (q : Int × Int), 0 ≤ i → i ≤ a 55 6 → a 55 6 ≤ i + n → q.2 = neP (a 20 r) (rw_ a (75 + r)) i → (fW (a 55 6) (cpG a r (a 20 r)) n i q).1 = q.1 + (sm (cpH a r (a 20 r)) (a 55 6).toNat - sm (cpH a r (a 20 r)) i.toNat)
  | 0, i, q, h0, h1, h2, hq => by
    have : i = a 55 6 := by omega
    rw [this]; show q.1 = _; omega
  | n + 1, i, q, h0, h1, h2, hq => by
    rw [fW_s]
    by_cases c : i < a 55 6
    · have hN : cpN a r (a 20 r) i q.2 = nearN (a 20 r) (rw_ a (75 + r)) i := by
        rw [hq, ← neP_n h0 hf]; rfl
      have hb := (h.2.2.2.2.2.2 i.toNat (by omega)).1
      have ht : i32 (a (75 + r) i.toNat * (a (75 + r) i.toNat - 1)) = a (75 + r) i.toNat * (a (75 + r) i.toNat - 1) := by
        by_cases z : a (75 + r) i.toNat = 0
        · rw [z]; rfl
        · have := mul_bd (n := a (75 + r) i.toNat) (x := a (75 + r) i.toNat - 1) (A := 8) (B := 7) ⟨by omega, by omega⟩ ⟨by omega, by omega⟩
          exact i32_n _ (by omega)
      rw [if_pos c, cp_e h hf n (i + 1) _ (by omega) (by omega) (by omega) (by
        rw [neP_s h0 hf, ← hN]; rfl)]
      rw [show (i + 1).toNat = i.toNat + 1 from by omega, sm_s, show ((i.toNat : Nat) : Int) = i from by omega]
      have e1 : (cpG a r (a 20 r) i q).1 = q.1 + cpH a r (a 20 r) i := by
        show q.1 + (a (75 + r) i.toNat * cpN a r (a 20 r) i q.2 + (i32 (a (75 + r) i.toNat * (a (75 + r) i.toNat - 1))).tdiv 2) = _
        rw [hN, ht]; rfl
      rw [e1]; omega
    · rw [if_neg c]
      have : i = a 55 6 := by omega
      rw [this]; omega
/-! the running count of a span's days -/
def wvN (cn : Int → Int) (span d : Int) : Int := sm cn d.toNat - sm cn (d - span).toNat
theorem wv_s {cn : Int → Int} {span d : Int} (hd : 0 ≤ d) : (if span ≤ d ∧ 0 ≤ span then wvN cn span d + cn d - cn (d - span) else wvN cn span d + cn d) = wvN cn span (d + 1) ∨ span < 0 := by
  by_cases hs : span < 0
  · exact Or.inr hs
  refine Or.inl ?_
  unfold wvN
  rw [show (d + 1).toNat = d.toNat + 1 from by omega, sm_s, show ((d.toNat : Nat) : Int) = d from by omega]
  by_cases c : span ≤ d
  · rw [if_pos ⟨c, by omega⟩, show (d + 1 - span).toNat = (d - span).toNat + 1 from by omega, sm_s, show (((d - span).toNat : Nat) : Int) = d - span from by omega]; omega
  · rw [if_neg (fun z => c z.1), show (d + 1 - span).toNat = (d - span).toNat from by omega]; omega
theorem wv_w {cn : Int → Int} {i span : Int} : wvN cn span (i + span) = winN cn i span := by
  unfold wvN winN
  rw [show i + span - span = i from by omega]
def spF (a : Sg) (r : Nat) (lo hi span i : Int) : Int := if winN (rw_ a (75 + r)) i span < lo ∨ hi < winN (rw_ a (75 + r)) i span then 1 else 0
theorem spH_e {a : Sg} {r : Nat} (h : RcH a r) {lo hi span i s : Int} (hlo : 0 ≤ lo ∧ lo ≤ 9999) (hhi : 0 ≤ hi ∧ hi ≤ 9999) (hsp : 1 ≤ span ∧ span ≤ 9999) (h0 : 0 ≤ i) (h1 : i < a 55 6) :
    spH lo hi span i s (wvN (rw_ a (75 + r)) span (i + 1)) = (s + (sm (spF a r lo hi span) (i + 1 - span + 1).toNat - sm (spF a r lo hi span) (i - span + 1).toNat), wvN (rw_ a (75 + r)) span (i + 1)) := by
  unfold spH
  rw [i32_n (span - 1) (by omega), i32_n lo (by omega), i32_n hi (by omega)]
  by_cases c : span - 1 ≤ i
  · have hw := win_bd h (fr := i + 1 - span) (s := span) (by omega) (by omega) (by omega)
    have e : wvN (rw_ a (75 + r)) span (i + 1) = winN (rw_ a (75 + r)) (i + 1 - span) span := by
      rw [← wv_w, show i + 1 - span + span = i + 1 from by omega]
    rw [e, i32_n _ (by omega), show (i + 1 - span + 1).toNat = (i - span + 1).toNat + 1 from by omega, sm_s, show (((i - span + 1).toNat : Nat) : Int) = i + 1 - span from by omega]
    by_cases c2 : winN (rw_ a (75 + r)) (i + 1 - span) span < lo ∨ hi < winN (rw_ a (75 + r)) (i + 1 - span) span
    · rw [if_pos ⟨c, c2⟩, show spF a r lo hi span (i + 1 - span) = 1 from if_pos c2]
      exact Prod.ext (by show s + 1 = _; omega) rfl
    · rw [if_neg (fun z => c2 z.2), show spF a r lo hi span (i + 1 - span) = 0 from if_neg c2]
      exact Prod.ext (by show s = _; omega) rfl
  · rw [if_neg (fun z => c z.1), show (i + 1 - span + 1).toNat = 0 from by omega, show (i - span + 1).toNat = 0 from by omega]
    exact Prod.ext (by show s = _; omega) rfl
theorem spG_e {a : Sg} {r : Nat} (h : RcH a r) {lo hi span i : Int} {q : Int × Int} (hlo : 0 ≤ lo ∧ lo ≤ 9999) (hhi : 0 ≤ hi ∧ hi ≤ 9999) (hsp : 1 ≤ span ∧ span ≤ 9999) (h0 : 0 ≤ i) (h1 : i < a 55 6) (hq : q.2 = wvN (rw_ a (75 + r)) span i) :
    spG a r lo hi span i q = (q.1 + (sm (spF a r lo hi span) (i + 1 - span + 1).toNat - sm (spF a r lo hi span) (i - span + 1).toNat), wvN (rw_ a (75 + r)) span (i + 1)) := by
  rw [← spH_e h hlo hhi hsp h0 h1]
  rcases wv_s (cn := rw_ a (75 + r)) (span := span) h0 with e | e
  · rw [← e, ← hq]
    show (if span ≤ i ∧ 0 ≤ span then spH lo hi span i q.1 (q.2 + rw_ a (75 + r) i - rw_ a (75 + r) (i - span)) else spH lo hi span i q.1 (q.2 + rw_ a (75 + r) i)) = _
    split <;> rfl
  · omega
theorem sp_e {a : Sg} {r : Nat} (h : RcH a r) {lo hi span : Int} (hlo : 0 ≤ lo ∧ lo ≤ 9999) (hhi : 0 ≤ hi ∧ hi ≤ 9999) (hsp : 1 ≤ span ∧ span ≤ 9999) : ∀ (n : Nat) (i : Int) (q : Int × Int), 0 ≤ i → i ≤ a 55 6 → a 55 6 ≤ i + n → q.2 = wvN (rw_ a (75 + r)) span i → (fW (a 55 6) (spG a r lo hi span) n i q).1 = q.1 + (sm (spF a r lo hi span) (a 55 6 - span + 1).toNat - sm (spF a r lo hi span) (i - span + 1).toNat)
  | 0, i, q, h0, h1, h2, hq => by
    have : i = a 55 6 := by omega
    rw [this]; show q.1 = _; omega
  | n + 1, i, q, h0, h1, h2, hq => by
    rw [fW_s]
    by_cases c : i < a 55 6
    · rw [if_pos c, sp_e h hlo hhi hsp n (i + 1) _ (by omega) (by omega) (by omega) (by rw [spG_e h hlo hhi hsp h0 c hq]), spG_e h hlo hhi hsp h0 c hq]
      show q.1 + (_ - _) + (_ - _) = _
      omega
    · rw [if_neg c]
      have : i = a 55 6 := by omega
      rw [this]; omega
theorem rcV_e {a : Sg} {r : Nat} (h : RcH a r) : rcV a r = rcN (a 19 r) (a 20 r) (a 21 r) (a 55 6) (rw_ a (75 + r)) (rw_ a 58) := by
  obtain ⟨h19, h20, h21, hD, hf0, hs1, hc⟩ := id h
  have e19 : i32 (a 19 ((r : Int)).toNat) = a 19 r := i32_n _ (by show -1000000 ≤ a 19 r ∧ a 19 r ≤ 1000000; omega)
  have e20 : i32 (a 20 ((r : Int)).toNat) = a 20 r := i32_n _ (by show -1000000 ≤ a 20 r ∧ a 20 r ≤ 1000000; omega)
  have e21 : i32 (a 21 ((r : Int)).toNat) = a 21 r := i32_n _ (by show -1000000 ≤ a 21 r ∧ a 21 r ≤ 1000000; omega)
  have e20b : i32 (a 20 r) = a 20 r := i32_n _ (by omega)
  have e21b : i32 (a 21 r) = a 21 r := i32_n _ (by omega)
  have e55 : i32 (a 55 6) = a 55 6 := i32_n _ (by omega)
  have sp : ∀ (lo hi span : Int), 0 ≤ lo ∧ lo ≤ 9999 → 0 ≤ hi ∧ hi ≤ 9999 → 1 ≤ span ∧ span ≤ 9999 → spC a r lo hi span = sm (spF a r lo hi span) (a 55 6 - span + 1).toNat := by
    intro lo hi span hlo hhi hsp
    unfold spC
    rw [e55, show min (a 55 6) 14 = a 55 6 from by omega]
    rw [sp_e h hlo hhi hsp 14 0 (0, 0) (Int.le_refl _) hD.1 (by omega) (by
      show (0 : Int) = wvN _ _ 0
      unfold wvN
      rw [show (0 - span).toNat = 0 from by omega]; rfl)]
    rw [show (0 - span + 1).toNat = 0 from by omega]
    show 0 + (_ - 0) = _
    omega
  unfold rcV rcN
  rw [e19, e20, e21]
  by_cases c0 : a 19 r = 0
  · rw [if_pos c0, if_pos c0]
    have hf := hf0 c0
    unfold cpC
    rw [e55, show min (a 55 6) 14 = a 55 6 from by omega]
    rw [cp_e h hf 14 0 (0, 0) (Int.le_refl _) hD.1 (by omega) rfl]
    show 0 + (sm (cpH a r (a 20 r)) (a 55 6).toNat - 0) = _
    unfold apN cpH
    omega
  · rw [if_neg c0, if_neg c0]
    by_cases c1 : a 19 r = 1
    · rw [if_pos c1, if_neg (by omega : ¬ a 19 r = 3)]
      rw [e55]
      have hs := hs1 (Or.inl c1)
      by_cases c : a 55 6 < a 21 r
      · by_cases z0 : a 55 6 = 0
        · rw [if_pos c, show min (a 21 r) (a 55 6) = 0 from by omega]
          unfold spC
          rw [e55, z0, show min (0 : Int) 14 = 0 from by decide, fW_s, if_neg (by decide)]
          rw [show (0 : Int).toNat = 0 from rfl, if_neg (fun z => by have := z.2; rw [show sm (rw_ a (75 + r)) 0 = 0 from rfl] at this; omega)]
        rw [if_pos c, show min (a 21 r) (a 55 6) = a 55 6 from by omega, sp 0 (a 20 r) (a 55 6) (by omega) h20 (by omega)]
        rw [show (a 55 6 - a 55 6 + 1).toNat = 1 from by omega]
        show 0 + (if winN (rw_ a (75 + r)) 0 (a 55 6) < 0 ∨ a 20 r < winN (rw_ a (75 + r)) 0 (a 55 6) then 1 else 0) = _
        have hw := win_bd h (Int.le_refl 0) hD.1 (by omega)
        have e : winN (rw_ a (75 + r)) 0 (a 55 6) = sm (rw_ a (75 + r)) (a 55 6).toNat := by
          unfold winN; rw [Int.zero_add]; show _ - 0 = _; omega
        rw [e] at hw ⊢
        by_cases c2 : a 20 r < sm (rw_ a (75 + r)) (a 55 6).toNat
        · rw [if_pos (Or.inr c2), if_pos ⟨c1, c2⟩]; rfl
        · rw [if_neg (by omega), if_neg (fun z => c2 z.2)]; rfl
      · rw [if_neg c, show min (a 21 r) (a 55 6) = a 21 r from by omega, sp 0 (a 20 r) (a 21 r) (by omega) h20 (by omega)]
        refine sm_ext _ (fun j j0 j1 => ?_)
        have hw := win_bd h j0 (show 0 ≤ a 21 r by omega) (by omega)
        rw [if_pos c1]
        unfold spF
        by_cases c2 : a 20 r < winN (rw_ a (75 + r)) j (a 21 r)
        · rw [if_pos (Or.inr c2), if_pos c2]
        · rw [if_neg (by omega), if_neg c2]
    · rw [if_neg c1]
      by_cases c2 : a 19 r = 2
      · rw [if_pos c2, if_neg (by omega : ¬ a 19 r = 3)]
        have hs := hs1 (Or.inr c2)
        by_cases c : a 55 6 < a 21 r
        · rw [if_pos c, if_neg (fun z => c1 z.1)]
          show spC a r (a 20 r) 112 (a 21 r) = 0
          rw [sp (a 20 r) 112 (a 21 r) h20 (by omega) (by omega), show (a 55 6 - a 21 r + 1).toNat = 0 from by omega]
          rfl
        · rw [if_neg c]
          show spC a r (a 20 r) 112 (a 21 r) = _
          rw [sp (a 20 r) 112 (a 21 r) h20 (by omega) (by omega)]
          refine sm_ext _ (fun j j0 j1 => ?_)
          have hw := win_bd h j0 (show 0 ≤ a 21 r by omega) (by omega)
          rw [if_neg c1]
          unfold spF
          by_cases c3 : winN (rw_ a (75 + r)) j (a 21 r) < a 20 r
          · rw [if_pos (Or.inl c3), if_pos c3]
          · rw [if_neg (by omega), if_neg c3]
      · rw [if_neg c2, if_pos (by omega : a 19 r = 3)]
        unfold doC
        rw [e55, show min (a 55 6) 14 = a 55 6 from by omega]
        rw [fW_sm0 (n := 14) (a := 0) (h := fun d => if a 20 r ≤ rw_ a 58 d ∧ rw_ a 58 d ≤ a 21 r then 0 else 1) (fun i q h0 h1 => by
          have hb := (hc i.toNat (by omega)).2
          unfold doG
          rw [e20b, show i32 (a 21 ((r : Int)).toNat) = a 21 r from e21, i32_eq ⟨by omega, by omega⟩]
          show (if a 58 i.toNat < a 20 r ∨ a 21 r < a 58 i.toNat then q + 1 else q) = q + (if a 20 r ≤ a 58 i.toNat ∧ a 58 i.toNat ≤ a 21 r then 0 else 1)
          (repeat' split) <;> omega) hD.1 (by omega)]
        exact Int.zero_add _
end S53
