/-! what the law writes: its texts are the words of its program -/
section S79h
theorem t24 : txL 24 = [102, 111, 111, 100, 32, 102] := by decide +kernel
theorem t26 : txL 26 = [32] := by decide +kernel
theorem t27 : txL 27 = [59, 32, 100, 105, 115, 104, 32, 100] := by decide +kernel
theorem t28 : txL 28 = [32, 102, 111, 114, 32, 49, 58, 32, 49, 48, 48, 32, 102] := by decide +kernel
theorem t29 : txL 29 = [32, 105, 115, 32, 116, 59] := by decide +kernel
theorem t30 : txL 30 = [59] := by decide +kernel
theorem t31 : txL 31 = byL mealL := by decide +kernel
theorem t32 : txL 32 = [114, 117, 108, 101, 32, 97, 112, 97, 114, 116, 32] := by decide +kernel
theorem t33 : txL 33 = [114, 117, 108, 101, 32, 109, 111, 115, 116, 32] := by decide +kernel
theorem t34 : txL 34 = [114, 117, 108, 101, 32, 108, 101, 97, 115, 116, 32] := by decide +kernel
theorem t35 : txL 35 = [114, 117, 108, 101, 32, 101, 110, 101, 114, 103, 121, 32] := by decide +kernel
theorem t36 : txL 36 = [32, 116] := by decide +kernel
theorem t37 : txL 37 = [32, 100] := by decide +kernel
theorem t38 : txL 38 = [32, 116, 111, 32] := by decide +kernel
theorem t39 : txL 39 = [32, 105, 110, 32] := by decide +kernel
theorem by_food (k : Nat) (e : Int) (t : Bool) : byL (foodL k e ++ dishL k t) = txL 24 ++ ([97 + (k : Int)] ++ (txL 26 ++ (ds e ++ (txL 27 ++ ([97 + (k : Int)] ++ (txL 28 ++ ([97 + (k : Int)] ++ (if t = true then txL 29 else txL 30)))))))) := by
  rw [t24, t26, t27, t28, t29, t30]
  cases t <;> simp [byL, foodL, dishL, wFood, wDish, wF, wD, wT, sp, sc, nu]
def nmT (o : Option Nat) : List Int := match o with
  | none => txL 36
  | some j => txL 37 ++ [97 + (j : Int)]
theorem by_rule0 (a b : Int) (o : Option Nat) : byL (ruleL (0, a, b, o)) = txL 32 ++ (ds a ++ (nmT o ++ txL 30)) := by
  cases o <;> (simp only [nmT]; rw [t32, t30]; first | rw [t36] | rw [t37]) <;> simp [byL, ruleL, wRule, wT, wD, nmL, sp, sc, nu]
theorem by_rule1 (a b : Int) (o : Option Nat) : byL (ruleL (1, a, b, o)) = txL 33 ++ (ds a ++ (nmT o ++ (txL 39 ++ (ds b ++ txL 30)))) := by
  cases o <;> (simp only [nmT]; rw [t33, t30, t39]; first | rw [t36] | rw [t37]) <;> simp [byL, ruleL, wRule, wT, wD, nmL, sp, sc, nu]
theorem by_rule2 (a b : Int) (o : Option Nat) : byL (ruleL (2, a, b, o)) = txL 34 ++ (ds a ++ (nmT o ++ (txL 39 ++ (ds b ++ txL 30)))) := by
  cases o <;> (simp only [nmT]; rw [t34, t30, t39]; first | rw [t36] | rw [t37]) <;> simp [byL, ruleL, wRule, wT, wD, nmL, sp, sc, nu]
theorem by_rule3 (a b : Int) (o : Option Nat) : byL (ruleL (3, a, b, o)) = txL 35 ++ (ds a ++ (txL 38 ++ (ds b ++ txL 30))) := by
  rw [t35, t30, t38]
  simp [byL, ruleL, wRule, sp, sc, nu]
/-! what the script's ints choose -/
def eV (L : Nat) (X : Nat → Int32) (k : Nat) : Int := blV (ishr (clV L X 1) (2 * k)) 900
def tV (L : Nat) (X : Nat → Int32) (k : Nat) : Bool := decide (k = 0 ∨ blV (ishr (clV L X 2) (2 * k)) 2 = 0)
def fiV (x : Int) : Int := if blV x 4 = 0 then 1 + blV (ishr x 2) 4 else if blV x 4 = 1 then blV (ishr x 2) 4 else if blV x 4 = 2 then 1 + blV (ishr x 2) 4 else blV (ishr x 2) 900
def seV (x : Int) : Int := if blV x 4 = 0 then 0 else if blV x 4 = 3 then fiV x + blV (ishr x 12) 900 else 1 + blV (ishr x 12) 5
def naV (D : Nat) (x : Int) : Option Nat := if blV (ishr x 16) 2 = 0 then none else some (blV (ishr x 17) D).toNat
def rV (D : Nat) (x : Int) : Rl := ((blV x 4).toNat, fiV x, seV x, naV D x)
def rlF (L : Nat) (X : Nat → Int32) (D : Nat) : Nat → Nat → List Rl
  | _, 0 => []
  | k, n + 1 => rV D (clV L X (4 + k)) :: rlF L X D (k + 1) n
theorem rlF_len (L : Nat) (X : Nat → Int32) (D : Nat) : ∀ (n k : Nat), (rlF L X D k n).length = n
  | 0, _ => rfl
  | n + 1, k => by show (rlF L X D (k + 1) n).length + 1 = n + 1; rw [rlF_len L X D n]
theorem rlF_at (L : Nat) (X : Nat → Int32) (D : Nat) : ∀ (n k i : Nat), i < n → (rlF L X D k n).getD i (0, 0, 0, none) = rV D (clV L X (4 + ((k + i : Nat) : Int)))
  | 0, _, _, h => absurd h (Nat.not_lt_zero _)
  | n + 1, k, 0, _ => rfl
  | n + 1, k, i + 1, h => by
    show (rlF L X D (k + 1) n).getD i (0, 0, 0, none) = _
    rw [rlF_at L X D n (k + 1) i (Nat.lt_of_succ_lt_succ h), show k + 1 + i = k + (i + 1) from by omega]
theorem eV_bd (L : Nat) (X : Nat → Int32) (k : Nat) : 0 ≤ eV L X k ∧ eV L X k < 900 := blV_bd _ (by decide)
theorem rV_ok {D : Nat} (hD : 2 ≤ D ∧ D ≤ 6) (x : Int) : RlOk D (rV D x) := by
  have b0 := blV_bd x (n := 4) (by decide)
  have b1 := blV_bd (ishr x 2) (n := 4) (by decide)
  have b2 := blV_bd (ishr x 2) (n := 900) (by decide)
  have b3 := blV_bd (ishr x 12) (n := 900) (by decide)
  have b4 := blV_bd (ishr x 12) (n := 5) (by decide)
  have b5 := blV_bd (ishr x 17) (n := (D : Int)) (by omega)
  unfold RlOk rV
  dsimp only
  unfold seV fiV naV
  have cs : blV x 4 = 0 ∨ blV x 4 = 1 ∨ blV x 4 = 2 ∨ blV x 4 = 3 := by omega
  refine ⟨by omega, fun h => ?_, fun h => ?_, fun h => ?_, fun h => ?_, fun h => ?_, fun h => ?_, fun j h => ?_⟩
  · have h : blV x 4 = 0 := by omega
    rw [if_pos h]; omega
  · have h : blV x 4 = 1 := by omega
    rw [if_neg (by omega), if_pos h]; omega
  · have h : blV x 4 = 2 := by omega
    rw [if_neg (by omega), if_neg (by omega), if_pos h]; omega
  · have h : blV x 4 = 3 := by omega
    rw [if_neg (by omega), if_neg (by omega), if_neg (by omega)]; omega
  · rw [if_neg (by omega), if_neg (by omega)]; omega
  · have h : blV x 4 = 3 := by omega
    rw [if_neg (by omega), if_neg (by omega), if_neg (by omega), if_neg (by omega), if_pos h]; omega
  · split at h
    · cases h
    · have h := Option.some.inj h
      omega
theorem rlF_ok {L : Nat} {X : Nat → Int32} {D : Nat} (hD : 2 ≤ D ∧ D ≤ 6) : ∀ (n k : Nat), ∀ R ∈ rlF L X D k n, RlOk D R
  | 0, _, R, h => by cases h
  | n + 1, k, R, h => by
    have h : R = rV D (clV L X (4 + k)) ∨ R ∈ rlF L X D (k + 1) n := List.mem_cons.mp h
    rcases h with rfl | h
    · exact rV_ok hD _
    · exact rlF_ok hD n (k + 1) R h
end S79h
