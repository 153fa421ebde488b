/-! the reference: what is asked of it, the rest -/
section S49
variable {l : Launch} {G : Gx}
variable {σ : Sg}
theorem imG_a {σ : Sg} {d c x : Int} {q : I3} (h : iand (ishr (σ 102 c.toNat) x) 1 = 0) : imG σ d c x q = q := if_pos h
theorem imG_b {σ : Sg} {d c x s1 s2 s3 : Int} (h : ¬ iand (ishr (σ 102 c.toNat) x) 1 = 0) (h2 : afV (up σ 111 (8 * d + c).toNat x) < s1) : imG σ d c x (s1, s2, s3) = (afV (up σ 111 (8 * d + c).toNat x), 8 * d + c, x) := (if_neg h).trans (if_pos (h2 : afV (mp σ d c x) < s1))
theorem imG_c {σ : Sg} {d c x s1 s2 s3 : Int} (h : ¬ iand (ishr (σ 102 c.toNat) x) 1 = 0) (h2 : s1 ≤ afV (up σ 111 (8 * d + c).toNat x)) : imG σ d c x (s1, s2, s3) = (s1, s2, s3) := (if_neg h).trans (if_neg (fun z : afV (up σ 111 (8 * d + c).toNat x) < s1 => by omega))
theorem dA_i32 (h : PI σ) {d c : Int} (hd : 0 ≤ d ∧ d < σ 84 39) (hc : 0 ≤ c ∧ c < σ 84 25) : i32 (dA σ d c) = dA σ d c := i32_n _ (by have := h.dA hd hc; have := h.1.2.1; omega)
end S49
