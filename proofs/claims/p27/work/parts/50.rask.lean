/-! the reference: the plain questions -/
section S50
variable {l : Launch} {G : Gx}
variable {σ : Sg}
theorem oq_t {p : Bool} (h : p = true) (v : Int) : oqV p v = v := if_pos h
theorem oq_f {p : Bool} (h : p = false) (v : Int) : oqV p v = 0 := if_neg (by rw [h]; decide)
theorem oqS_t {p : Bool} (h : p = true) (σ : Sg) : oqS p σ = up σ 84 0 0 := if_pos h
theorem oqS_f {p : Bool} (h : p = false) (σ : Sg) : oqS p σ = up (up σ 84 0 0) 84 0 1 := if_neg (by rw [h]; decide)
theorem and_t {a b : Bool} (h : a = true) (h2 : b = true) : (a && b) = true := by rw [h, h2]; rfl
theorem and_f1 {a b : Bool} (h : a = false) : (a && b) = false := by rw [h]; rfl
theorem and_f2 {a b : Bool} (h : b = false) : (a && b) = false := by rw [h]; exact Bool.and_false a
end S50
