/-! the reference: leaves -/
section S31
variable {l : Launch} {G : Gx}
def Rb (σ : Sg) : Prop := (0 ≤ σ 84 2 ∧ σ 84 2 ≤ 1500) ∧ ∀ j, 0 ≤ σ 85 j ∧ σ 85 j ≤ 255
def Rt (σ : Sg) : Prop := ∀ j, (0 ≤ σ 86 j ∧ σ 86 j ≤ 4) ∧ (0 ≤ σ 87 j ∧ σ 87 j ≤ σ 88 j ∧ σ 88 j ≤ 1500)
def inR (v lo hi : Int) : Bool := decide (i32 lo ≤ i32 v ∧ i32 v ≤ i32 hi)
def isSym (c : Int) : Bool := decide (i32 c = 59 ∨ i32 c = 58 ∨ i32 c = 44 ∨ i32 c = 40 ∨ i32 c = 41)
def bR (σ : Sg) (k : Int) : Int := if k < σ 84 2 then σ 85 k.toNat else -1
theorem i32_n (n : Int) (h : -1000000 ≤ n ∧ n ≤ 1000000) : i32 n = n := i32_eq ⟨by omega, by omega⟩
theorem inR_l (c : Int) : inR c 97 122 = isLet c := by unfold inR isLet; rw [i32_n 97 (by decide), i32_n 122 (by decide)]
theorem inR_d (c : Int) : inR c 48 57 = isDig c := by unfold inR isDig; rw [i32_n 48 (by decide), i32_n 57 (by decide)]
theorem bR_in {σ : Sg} (h : Rb σ) (k : Int) : -1 ≤ bR σ k ∧ bR σ k ≤ 255 := by
  unfold bR
  split
  · have := h.2 k.toNat; omega
  · omega
theorem bR_i32 {σ : Sg} (h : Rb σ) (k : Int) : i32 (bR σ k) = bR σ k := i32_n _ (by have := bR_in h k; omega)
theorem bR_end {σ : Sg} {k : Int} (h : σ 84 2 ≤ k) : bR σ k = -1 := by unfold bR; rw [if_neg (by omega)]
theorem bR_let {σ : Sg} {k : Int} (h : isLet (bR σ k) = true) : k < σ 84 2 := by
  by_cases e : k < σ 84 2
  · exact e
  · rw [bR_end (by omega)] at h; exact absurd h (by decide +kernel)
theorem bR_dig {σ : Sg} {k : Int} (h : isDig (bR σ k) = true) : k < σ 84 2 := by
  by_cases e : k < σ 84 2
  · exact e
  · rw [bR_end (by omega)] at h; exact absurd h (by decide +kernel)
def skF (B : Int → Int) : Nat → Int → Int
  | 0, p => p
  | n + 1, p => if B p = 32 ∨ B p = 10 then skF B n (p + 1) else p
def ltF (B : Int → Int) (P : Int → Bool) : Nat → Int → Int
  | 0, q => q
  | n + 1, q => if P (B q) = true then ltF B P n (q + 1) else q
theorem skF_bd (σ : Sg) : ∀ (n : Nat) (p : Int), p ≤ σ 84 2 → p ≤ skF (bR σ) n p ∧ skF (bR σ) n p ≤ σ 84 2
  | 0, p, h => ⟨Int.le_refl _, h⟩
  | n + 1, p, h => by
    simp only [skF]
    split
    · rename_i c
      have hp : p < σ 84 2 := by
        by_cases e : p < σ 84 2
        · exact e
        · rw [bR_end (by omega)] at c; omega
      have := skF_bd σ n (p + 1) (by omega)
      omega
    · omega
theorem ltF_bd (σ : Sg) (P : Int → Bool) (hP : ∀ k, P (bR σ k) = true → k < σ 84 2) : ∀ (n : Nat) (p : Int), p ≤ σ 84 2 → p ≤ ltF (bR σ) P n p ∧ ltF (bR σ) P n p ≤ σ 84 2
  | 0, p, h => ⟨Int.le_refl _, h⟩
  | n + 1, p, h => by
    simp only [ltF]
    split
    · rename_i c
      have hp := hP _ c
      have := ltF_bd σ P hP n (p + 1) (by omega)
      omega
    · omega
theorem ltF_gt (σ : Sg) (P : Int → Bool) (hP : ∀ k, P (bR σ k) = true → k < σ 84 2) (p : Int) (h : P (bR σ p) = true) : p + 1 ≤ ltF (bR σ) P 1500 p := by
  have e : ltF (bR σ) P 1500 p = ltF (bR σ) P 1499 (p + 1) := by
    show (if P (bR σ p) = true then _ else _) = _
    rw [if_pos h]
  rw [e]
  exact (ltF_bd σ P hP 1499 (p + 1) (by have := hP _ h; omega)).1
def tk2 (B : Int → Int) (len p : Int) : Int × Int × Int := if isLet (B p) = true then (if ltF B isLet 1500 p - p ≤ 10 then 1 else 4, p, ltF B isLet 1500 p) else if isDig (B p) = true then (if ltF B isDig 1500 p - p ≤ 4 then 2 else 4, p, ltF B isDig 1500 p) else if p < len then (if isSym (B p) = true then 3 else 4, p, p + 1) else (0, p, p)
def tkR (σ : Sg) (p : Int) : Int × Int × Int := tk2 (bR σ) (σ 84 2) (skF (bR σ) 1500 p)
def scP (σ : Sg) (n : Int) (x : Int × Int × Int) : Sg := up (up (up σ 86 n.toNat x.1) 87 n.toNat x.2.1) 88 n.toNat x.2.2
def scF : Nat → Int → Int → Sg → Sg
  | 0, _, _, σ => σ
  | m + 1, n, p, σ => if (tkR σ p).1 = 0 then scP σ n (tkR σ p) else scF m (n + 1) (tkR σ p).2.2 (scP σ n (tkR σ p))
def scC (σ : Sg) : Sg := scF 1501 0 0 σ
theorem scP_b (σ : Sg) (n : Int) (x : Int × Int × Int) (h : Rb σ) : Rb (scP σ n x) := h
/-- the token, by cases -/
theorem tkR_w {σ : Sg} {p : Int} {k : Int} (h1 : isLet (bR σ (skF (bR σ) 1500 p)) = true) (hk : (if ltF (bR σ) isLet 1500 (skF (bR σ) 1500 p) - skF (bR σ) 1500 p ≤ 10 then (1 : Int) else 4) = k) : tkR σ p = (k, skF (bR σ) 1500 p, ltF (bR σ) isLet 1500 (skF (bR σ) 1500 p)) := by
  unfold tkR tk2; rw [if_pos h1, hk]
theorem tkR_d {σ : Sg} {p : Int} {k : Int} (h1 : isLet (bR σ (skF (bR σ) 1500 p)) = false) (h2 : isDig (bR σ (skF (bR σ) 1500 p)) = true) (hk : (if ltF (bR σ) isDig 1500 (skF (bR σ) 1500 p) - skF (bR σ) 1500 p ≤ 4 then (2 : Int) else 4) = k) : tkR σ p = (k, skF (bR σ) 1500 p, ltF (bR σ) isDig 1500 (skF (bR σ) 1500 p)) := by
  unfold tkR tk2; rw [if_neg (by rw [h1]; decide), if_pos h2, hk]
theorem tkR_s {σ : Sg} {p : Int} {k : Int} (h1 : isLet (bR σ (skF (bR σ) 1500 p)) = false) (h2 : isDig (bR σ (skF (bR σ) 1500 p)) = false) (h3 : skF (bR σ) 1500 p < σ 84 2) (hk : (if isSym (bR σ (skF (bR σ) 1500 p)) = true then (3 : Int) else 4) = k) : tkR σ p = (k, skF (bR σ) 1500 p, skF (bR σ) 1500 p + 1) := by
  unfold tkR tk2; rw [if_neg (by rw [h1]; decide), if_neg (by rw [h2]; decide), if_pos h3, hk]
theorem tkR_e {σ : Sg} {p : Int} (h1 : isLet (bR σ (skF (bR σ) 1500 p)) = false) (h2 : isDig (bR σ (skF (bR σ) 1500 p)) = false) (h3 : σ 84 2 ≤ skF (bR σ) 1500 p) : tkR σ p = (0, skF (bR σ) 1500 p, skF (bR σ) 1500 p) := by
  unfold tkR tk2; rw [if_neg (by rw [h1]; decide), if_neg (by rw [h2]; decide), if_neg (by omega)]
theorem scF_go {σ σ1 : Sg} {m : Nat} {n p k a z : Int} (hm : 0 < m) (hs : σ1 = scF m n p σ) (e : tkR σ p = (k, a, z)) (hk : k ≠ 0) : σ1 = scF (m - 1) (n + 1) z (up (up (up σ 86 n.toNat k) 87 n.toNat a) 88 n.toNat z) := by
  obtain ⟨m, rfl⟩ : ∃ q, m = q + 1 := ⟨m - 1, by omega⟩
  rw [hs, Nat.add_sub_cancel]
  show (if (tkR σ p).1 = 0 then _ else _) = _
  rw [e, if_neg hk]; rfl
theorem scF_end {σ σ1 : Sg} {m : Nat} {n p a z : Int} (hm : 0 < m) (hs : σ1 = scF m n p σ) (e : tkR σ p = (0, a, z)) : σ1 = up (up (up σ 86 n.toNat 0) 87 n.toNat a) 88 n.toNat z := by
  obtain ⟨m, rfl⟩ : ∃ q, m = q + 1 := ⟨m - 1, by omega⟩
  rw [hs]
  show (if (tkR σ p).1 = 0 then _ else _) = _
  rw [e, if_pos rfl]; rfl
end S31
