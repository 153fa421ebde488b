/-! the reference: words, numbers, bytes -/
section S32
variable {l : Launch} {G : Gx}
def isF (σ : Sg) (t i : Nat) : Nat → Int → Bool
  | 0, _ => true
  | n + 1, k => if σ 85 (σ 87 t + k).toNat = kb i k.toNat then isF σ t i n (k + 1) else false
def isR (σ : Sg) (t i : Nat) : Bool := decide ((σ 86 t = 1 ∨ σ 86 t = 3) ∧ σ 88 t - σ 87 t = kl i) && isF σ t i (kl i).toNat 0
def nmF (σ : Sg) (t : Nat) : Nat → Int → Bool
  | 0, _ => true
  | n + 1, i => !(isR σ t i.toNat) && nmF σ t n (i + 1)
def nmR (σ : Sg) (t : Nat) : Bool := decide (σ 86 t = 1) && nmF σ t 17 0
def nmG (σ : Sg) (k a : Int) : Int := 27 * a + σ 85 k.toNat - 96
def nmV (σ : Sg) (t : Nat) : Int := fW (σ 88 t) (nmG σ) 1500 (σ 87 t) 0
def nuG (σ : Sg) (k a : Int) : Int := 10 * a + σ 85 k.toNat - 48
def nuV (σ : Sg) (t : Nat) : Int := fW (σ 88 t) (nuG σ) 1500 (σ 87 t) 0
def fnG (σ : Sg) (ka : Nat) (v k a : Int) : Int := if I64 (σ ka k.toNat) = I64 v then k else a
def fnC (σ : Sg) (ka : Nat) (many v : Int) : Int := fW many (fnG σ ka v) 16 0 (-1)
theorem fW_inv {α : Type} {sz : Int} {g : Int → α → α} (P : α → Prop) (h : ∀ i a, 0 ≤ i → i < sz → P a → P (g i a)) : ∀ (n : Nat) (i : Int) (a : α), 0 ≤ i → P a → P (fW sz g n i a)
  | 0, _, _, _, h0 => h0
  | n + 1, i, a, hi, h0 => by
    rw [fW_s]
    split
    · exact fW_inv P h n (i + 1) _ (by omega) (h i a hi (by assumption) h0)
    · exact h0
theorem fnC_in {σ : Sg} {ka : Nat} {many v : Int} (h : 0 ≤ many ∧ many ≤ 16) : -1 ≤ fnC σ ka many v ∧ fnC σ ka many v < many := by
  have := fW_inv (sz := many) (g := fnG σ ka v) (fun a => -1 ≤ a ∧ a < many) (fun i a h0 h1 h2 => by unfold fnG; split <;> omega) 16 0 (-1) (by omega) (by omega)
  exact this
theorem fnC_i32 {σ : Sg} {ka : Nat} {many v : Int} (h : 0 ≤ many ∧ many ≤ 16) : i32 (fnC σ ka many v) = fnC σ ka many v := i32_n _ (by have := fnC_in (σ := σ) (ka := ka) (v := v) h; omega)
def tknR (σ : Sg) (v : Int) : Bool := decide (¬ fnC σ 89 (σ 84 10) v = -1 ∨ ¬ fnC σ 93 (σ 84 15) v = -1 ∨ ¬ fnC σ 100 (σ 84 23) v = -1)
def rf1 (x k : Int) (σ : Sg) : Sg := up (up σ 85 (σ 84 2).toNat (iand (ishr x (8 * k)) 255)) 84 2 (σ 84 2 + 1)
def rfF (x : Int) : Nat → Sg → Sg
  | 0, σ => σ
  | n + 1, σ => rfF x n (rf1 x n σ)
theorem rfF_len (x : Int) : ∀ (n : Nat) (σ : Sg), rfF x n σ 84 2 = σ 84 2 + n
  | 0, σ => by simp [rfF]
  | n + 1, σ => by
    show rfF x n (rf1 x n σ) 84 2 = _
    rw [rfF_len x n]
    have e : rf1 x n σ 84 2 = σ 84 2 + 1 := up_s _ _ _ _
    rw [e]; omega
def rfG (t : Nat → Int) (i : Int) (σ : Sg) : Sg := rfF (t i.toNat) 4 σ
def t5 (a b c d e : Int) : Nat → Int := upT (upT (upT (upT (upT (fun _ => 0) 0 a) 1 b) 2 c) 3 d) 4 e
def fdS (σ : Sg) (a b c d e : Int) : Sg := if σ 84 2 + 20 ≤ 1500 then fW 5 (rfG (t5 a b c d e)) 5 0 (up σ 84 0 0) else up (up σ 84 0 0) 84 0 1
def fdV (σ : Sg) (a b c d e : Int) : Int := if σ 84 2 + 20 ≤ 1500 then fdS σ a b c d e 84 2 else 0
def tmS (σ : Sg) (n : Int) : Sg := if inR n 0 (σ 84 2) = true then up (up σ 84 0 0) 84 2 n else up (up σ 84 0 0) 84 0 1
def tmVR (σ : Sg) (n : Int) : Int := if inR n 0 (σ 84 2) = true then n else 0
end S32
