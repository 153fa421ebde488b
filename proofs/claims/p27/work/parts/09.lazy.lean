/-! rows that ask no range: a number is read as the 32 (64) bits say -/
section AJ
variable {l : Launch} {G : Gx} {f : Fm} {own : String} {cc : ByteArray} {nL : Nat} {rt : Option FieldType} {b : Nat × Nat × Nat} {Q : State → Prop} {xs : va_W} {k n pc : Nat} {lv : List (Nat × Value)} {rest : List Value} {σ : Sg}
def i32 (t : Int) : Int := (I32 t).toInt
def i64 (t : Int) : Int := (I64 t).toInt
theorem i32_inr (t : Int) : inr (i32 t) := I32_inr _
theorem I32_i32 (t : Int) : I32 (i32 t) = I32 t := I32_of _
theorem I64_i64 (t : Int) : I64 (i64 t) = I64 t := I64_of _
theorem i32_eq {t : Int} (h : inr t) : i32 t = t := I32_toInt h
theorem i64_eq {t : Int} (h : inl t) : i64 t = t := I64_toInt h
theorem i64_inl (t : Int) : inl (i64 t) := ⟨by have := (I64 t).le_toInt; show -9223372036854775808 ≤ (I64 t).toInt; omega, by have := (I64 t).toInt_lt; show (I64 t).toInt < 9223372036854775808; omega⟩
theorem i32_i32 (t : Int) : i32 (i32 t) = i32 t := i32_eq (i32_inr t)
theorem J_icmp_eq {x y x1 y1 : Int} {off : Int} {tgt : Nat} (d : decode cc pc = .ok (.if_icmp .eq off, 3)) (ht : (pc : Int) + off = (tgt : Int)) (ex : i32 x = x1) (ey : i32 y = y1) (kt : x1 = y1 → AW l G f (own, cc, nL, rt) b Q xs k n (tgt) lv (rest) σ) (kf : x1 ≠ y1 → AW l G f (own, cc, nL, rt) b Q xs k n (pc + 3) lv (rest) σ) : AW l G f (own, cc, nL, rt) b Q xs k n (pc) lv (.int (I32 y) :: .int (I32 x) :: rest) σ := by
  subst ex; subst ey
  have h := A_icmp_eq (x := i32 x) (y := i32 y) d ht (i32_inr x) (i32_inr y) kt kf
  rw [I32_i32, I32_i32] at h
  exact h
theorem J_if_eq {x x1 : Int} {off : Int} {tgt : Nat} (d : decode cc pc = .ok (.ifCond .eq off, 3)) (ht : (pc : Int) + off = (tgt : Int)) (ex : i32 x = x1) (kt : x1 = 0 → AW l G f (own, cc, nL, rt) b Q xs k n (tgt) lv (rest) σ) (kf : x1 ≠ 0 → AW l G f (own, cc, nL, rt) b Q xs k n (pc + 3) lv (rest) σ) : AW l G f (own, cc, nL, rt) b Q xs k n (pc) lv (.int (I32 x) :: rest) σ := by
  subst ex
  have h := A_if_eq (x := i32 x) d ht (i32_inr x) kt kf
  rw [I32_i32] at h
  exact h
theorem J_icmp_ne {x y x1 y1 : Int} {off : Int} {tgt : Nat} (d : decode cc pc = .ok (.if_icmp .ne off, 3)) (ht : (pc : Int) + off = (tgt : Int)) (ex : i32 x = x1) (ey : i32 y = y1) (kt : x1 ≠ y1 → AW l G f (own, cc, nL, rt) b Q xs k n (tgt) lv (rest) σ) (kf : x1 = y1 → AW l G f (own, cc, nL, rt) b Q xs k n (pc + 3) lv (rest) σ) : AW l G f (own, cc, nL, rt) b Q xs k n (pc) lv (.int (I32 y) :: .int (I32 x) :: rest) σ := by
  subst ex; subst ey
  have h := A_icmp_ne (x := i32 x) (y := i32 y) d ht (i32_inr x) (i32_inr y) kt kf
  rw [I32_i32, I32_i32] at h
  exact h
theorem J_if_ne {x x1 : Int} {off : Int} {tgt : Nat} (d : decode cc pc = .ok (.ifCond .ne off, 3)) (ht : (pc : Int) + off = (tgt : Int)) (ex : i32 x = x1) (kt : x1 ≠ 0 → AW l G f (own, cc, nL, rt) b Q xs k n (tgt) lv (rest) σ) (kf : x1 = 0 → AW l G f (own, cc, nL, rt) b Q xs k n (pc + 3) lv (rest) σ) : AW l G f (own, cc, nL, rt) b Q xs k n (pc) lv (.int (I32 x) :: rest) σ := by
  subst ex
  have h := A_if_ne (x := i32 x) d ht (i32_inr x) kt kf
  rw [I32_i32] at h
  exact h
theorem J_icmp_lt {x y x1 y1 : Int} {off : Int} {tgt : Nat} (d : decode cc pc = .ok (.if_icmp .lt off, 3)) (ht : (pc : Int) + off = (tgt : Int)) (ex : i32 x = x1) (ey : i32 y = y1) (kt : x1 < y1 → AW l G f (own, cc, nL, rt) b Q xs k n (tgt) lv (rest) σ) (kf : y1 ≤ x1 → AW l G f (own, cc, nL, rt) b Q xs k n (pc + 3) lv (rest) σ) : AW l G f (own, cc, nL, rt) b Q xs k n (pc) lv (.int (I32 y) :: .int (I32 x) :: rest) σ := by
  subst ex; subst ey
  have h := A_icmp_lt (x := i32 x) (y := i32 y) d ht (i32_inr x) (i32_inr y) kt kf
  rw [I32_i32, I32_i32] at h
  exact h
theorem J_if_lt {x x1 : Int} {off : Int} {tgt : Nat} (d : decode cc pc = .ok (.ifCond .lt off, 3)) (ht : (pc : Int) + off = (tgt : Int)) (ex : i32 x = x1) (kt : x1 < 0 → AW l G f (own, cc, nL, rt) b Q xs k n (tgt) lv (rest) σ) (kf : 0 ≤ x1 → AW l G f (own, cc, nL, rt) b Q xs k n (pc + 3) lv (rest) σ) : AW l G f (own, cc, nL, rt) b Q xs k n (pc) lv (.int (I32 x) :: rest) σ := by
  subst ex
  have h := A_if_lt (x := i32 x) d ht (i32_inr x) kt kf
  rw [I32_i32] at h
  exact h
theorem J_icmp_ge {x y x1 y1 : Int} {off : Int} {tgt : Nat} (d : decode cc pc = .ok (.if_icmp .ge off, 3)) (ht : (pc : Int) + off = (tgt : Int)) (ex : i32 x = x1) (ey : i32 y = y1) (kt : y1 ≤ x1 → AW l G f (own, cc, nL, rt) b Q xs k n (tgt) lv (rest) σ) (kf : x1 < y1 → AW l G f (own, cc, nL, rt) b Q xs k n (pc + 3) lv (rest) σ) : AW l G f (own, cc, nL, rt) b Q xs k n (pc) lv (.int (I32 y) :: .int (I32 x) :: rest) σ := by
  subst ex; subst ey
  have h := A_icmp_ge (x := i32 x) (y := i32 y) d ht (i32_inr x) (i32_inr y) kt kf
  rw [I32_i32, I32_i32] at h
  exact h
theorem J_if_ge {x x1 : Int} {off : Int} {tgt : Nat} (d : decode cc pc = .ok (.ifCond .ge off, 3)) (ht : (pc : Int) + off = (tgt : Int)) (ex : i32 x = x1) (kt : 0 ≤ x1 → AW l G f (own, cc, nL, rt) b Q xs k n (tgt) lv (rest) σ) (kf : x1 < 0 → AW l G f (own, cc, nL, rt) b Q xs k n (pc + 3) lv (rest) σ) : AW l G f (own, cc, nL, rt) b Q xs k n (pc) lv (.int (I32 x) :: rest) σ := by
  subst ex
  have h := A_if_ge (x := i32 x) d ht (i32_inr x) kt kf
  rw [I32_i32] at h
  exact h
theorem J_icmp_gt {x y x1 y1 : Int} {off : Int} {tgt : Nat} (d : decode cc pc = .ok (.if_icmp .gt off, 3)) (ht : (pc : Int) + off = (tgt : Int)) (ex : i32 x = x1) (ey : i32 y = y1) (kt : y1 < x1 → AW l G f (own, cc, nL, rt) b Q xs k n (tgt) lv (rest) σ) (kf : x1 ≤ y1 → AW l G f (own, cc, nL, rt) b Q xs k n (pc + 3) lv (rest) σ) : AW l G f (own, cc, nL, rt) b Q xs k n (pc) lv (.int (I32 y) :: .int (I32 x) :: rest) σ := by
  subst ex; subst ey
  have h := A_icmp_gt (x := i32 x) (y := i32 y) d ht (i32_inr x) (i32_inr y) kt kf
  rw [I32_i32, I32_i32] at h
  exact h
theorem J_if_gt {x x1 : Int} {off : Int} {tgt : Nat} (d : decode cc pc = .ok (.ifCond .gt off, 3)) (ht : (pc : Int) + off = (tgt : Int)) (ex : i32 x = x1) (kt : 0 < x1 → AW l G f (own, cc, nL, rt) b Q xs k n (tgt) lv (rest) σ) (kf : x1 ≤ 0 → AW l G f (own, cc, nL, rt) b Q xs k n (pc + 3) lv (rest) σ) : AW l G f (own, cc, nL, rt) b Q xs k n (pc) lv (.int (I32 x) :: rest) σ := by
  subst ex
  have h := A_if_gt (x := i32 x) d ht (i32_inr x) kt kf
  rw [I32_i32] at h
  exact h
theorem J_icmp_le {x y x1 y1 : Int} {off : Int} {tgt : Nat} (d : decode cc pc = .ok (.if_icmp .le off, 3)) (ht : (pc : Int) + off = (tgt : Int)) (ex : i32 x = x1) (ey : i32 y = y1) (kt : x1 ≤ y1 → AW l G f (own, cc, nL, rt) b Q xs k n (tgt) lv (rest) σ) (kf : y1 < x1 → AW l G f (own, cc, nL, rt) b Q xs k n (pc + 3) lv (rest) σ) : AW l G f (own, cc, nL, rt) b Q xs k n (pc) lv (.int (I32 y) :: .int (I32 x) :: rest) σ := by
  subst ex; subst ey
  have h := A_icmp_le (x := i32 x) (y := i32 y) d ht (i32_inr x) (i32_inr y) kt kf
  rw [I32_i32, I32_i32] at h
  exact h
theorem J_if_le {x x1 : Int} {off : Int} {tgt : Nat} (d : decode cc pc = .ok (.ifCond .le off, 3)) (ht : (pc : Int) + off = (tgt : Int)) (ex : i32 x = x1) (kt : x1 ≤ 0 → AW l G f (own, cc, nL, rt) b Q xs k n (tgt) lv (rest) σ) (kf : 0 < x1 → AW l G f (own, cc, nL, rt) b Q xs k n (pc + 3) lv (rest) σ) : AW l G f (own, cc, nL, rt) b Q xs k n (pc) lv (.int (I32 x) :: rest) σ := by
  subst ex
  have h := A_if_le (x := i32 x) d ht (i32_inr x) kt kf
  rw [I32_i32] at h
  exact h
theorem J_i2l {x x1 : Int} (d : decode cc pc = .ok (.i2l, 1)) (ex : i32 x = x1) (g : AW l G f (own, cc, nL, rt) b Q xs k n (pc + 1) lv (.long (I64 x1) :: rest) σ) : AW l G f (own, cc, nL, rt) b Q xs k n (pc) lv (.int (I32 x) :: rest) σ := by
  subst ex
  have h := A_i2l (x := i32 x) d (i32_inr x) g
  rw [I32_i32] at h
  exact h
theorem J_idiv {x y x1 y1 : Int} (d : decode cc pc = .ok (.idiv, 1)) (ex : i32 x = x1) (ey : i32 y = y1) (h0 : y1 ≠ 0) (g : AW l G f (own, cc, nL, rt) b Q xs k n (pc + 1) lv (.int (I32 (x1.tdiv y1)) :: rest) σ) : AW l G f (own, cc, nL, rt) b Q xs k n (pc) lv (.int (I32 y) :: .int (I32 x) :: rest) σ := by
  subst ex; subst ey
  have h := A_idiv (x := i32 x) (y := i32 y) d (i32_inr x) (i32_inr y) h0 g
  rw [I32_i32, I32_i32] at h
  exact h
theorem J_irem {x y x1 y1 : Int} (d : decode cc pc = .ok (.irem, 1)) (ex : i32 x = x1) (ey : i32 y = y1) (h0 : y1 ≠ 0) (g : AW l G f (own, cc, nL, rt) b Q xs k n (pc + 1) lv (.int (I32 (x1 - x1.tdiv y1 * y1)) :: rest) σ) : AW l G f (own, cc, nL, rt) b Q xs k n (pc) lv (.int (I32 y) :: .int (I32 x) :: rest) σ := by
  subst ex; subst ey
  have h := A_irem (x := i32 x) (y := i32 y) d (i32_inr x) (i32_inr y) h0 g
  rw [I32_i32, I32_i32] at h
  exact h
theorem J_ldiv {x y x1 y1 : Int} (d : decode cc pc = .ok (.ldiv, 1)) (ex : i64 x = x1) (ey : i64 y = y1) (h0 : y1 ≠ 0) (g : AW l G f (own, cc, nL, rt) b Q xs k n (pc + 1) lv (.long (I64 (x1.tdiv y1)) :: rest) σ) : AW l G f (own, cc, nL, rt) b Q xs k n (pc) lv (.long (I64 y) :: .long (I64 x) :: rest) σ := by
  subst ex; subst ey
  have h := A_ldiv (x := i64 x) (y := i64 y) d (i64_inl x) (i64_inl y) h0 g
  rw [I64_i64, I64_i64] at h
  exact h
theorem J_lcmp {x y x1 y1 : Int} (d : decode cc pc = .ok (.lcmp, 1)) (ex : i64 x = x1) (ey : i64 y = y1) (g : AW l G f (own, cc, nL, rt) b Q xs k n (pc + 1) lv (.int (I32 (cmpI x1 y1)) :: rest) σ) : AW l G f (own, cc, nL, rt) b Q xs k n (pc) lv (.long (I64 y) :: .long (I64 x) :: rest) σ := by
  subst ex; subst ey
  have h := A_lcmp (x := i64 x) (y := i64 y) d (i64_inl x) (i64_inl y) g
  rw [I64_i64, I64_i64] at h
  exact h
theorem J_iald {kk N q : Nat} {z z1 : Int} (hk : (lkG G)[kk]? = some (.inr (1, N, q))) (ez : i32 z = z1) (h0 : 0 ≤ z1) (h1 : z1 < N) (hN : N ≤ 2147483647) (d : decode cc pc = .ok (.iaload, 1)) (g : AW l G f (own, cc, nL, rt) b Q xs k n (pc + 1) lv (.int (I32 (σ kk z1.toNat)) :: rest) σ) : AW l G f (own, cc, nL, rt) b Q xs k n (pc) lv (.int (I32 z) :: .ref (lay G kk) :: rest) σ := by
  subst ez
  have h := A_iald (z := i32 z) hk h0 h1 hN d g
  rw [I32_i32] at h
  exact h
theorem J_bald {kk N q : Nat} {z z1 : Int} (hk : (lkG G)[kk]? = some (.inr (0, N, q))) (ez : i32 z = z1) (h0 : 0 ≤ z1) (h1 : z1 < N) (hN : N ≤ 2147483647) (d : decode cc pc = .ok (.baload, 1)) (g : AW l G f (own, cc, nL, rt) b Q xs k n (pc + 1) lv (.int (I32 (σ kk z1.toNat)) :: rest) σ) : AW l G f (own, cc, nL, rt) b Q xs k n (pc) lv (.int (I32 z) :: .ref (lay G kk) :: rest) σ := by
  subst ez
  have h := A_bald (z := i32 z) hk h0 h1 hN d g
  rw [I32_i32] at h
  exact h
theorem J_lald {kk N q : Nat} {z z1 : Int} (hk : (lkG G)[kk]? = some (.inr (2, N, q))) (ez : i32 z = z1) (h0 : 0 ≤ z1) (h1 : z1 < N) (hN : N ≤ 2147483647) (d : decode cc pc = .ok (.laload, 1)) (g : AW l G f (own, cc, nL, rt) b Q xs k n (pc + 1) lv (.long (I64 (σ kk z1.toNat)) :: rest) σ) : AW l G f (own, cc, nL, rt) b Q xs k n (pc) lv (.int (I32 z) :: .ref (lay G kk) :: rest) σ := by
  subst ez
  have h := A_lald (z := i32 z) hk h0 h1 hN d g
  rw [I32_i32] at h
  exact h
theorem J_iast {kk N q : Nat} {z z1 x : Int} (hk : (lkG G)[kk]? = some (.inr (1, N, q))) (ez : i32 z = z1) (h0 : 0 ≤ z1) (h1 : z1 < N) (hN : N ≤ 2147483647) (d : decode cc pc = .ok (.iastore, 1)) (g : AW l G f (own, cc, nL, rt) b Q xs k n (pc + 1) lv (rest) (up σ kk z1.toNat x)) : AW l G f (own, cc, nL, rt) b Q xs k n (pc) lv (.int (I32 x) :: .int (I32 z) :: .ref (lay G kk) :: rest) σ := by
  subst ez
  have h := A_iast (x := x) (z := i32 z) hk h0 h1 hN d g
  rw [I32_i32] at h
  exact h
theorem J_last {kk N q : Nat} {z z1 x : Int} (hk : (lkG G)[kk]? = some (.inr (2, N, q))) (ez : i32 z = z1) (h0 : 0 ≤ z1) (h1 : z1 < N) (hN : N ≤ 2147483647) (d : decode cc pc = .ok (.lastore, 1)) (g : AW l G f (own, cc, nL, rt) b Q xs k n (pc + 1) lv (rest) (up σ kk z1.toNat x)) : AW l G f (own, cc, nL, rt) b Q xs k n (pc) lv (.long (I64 x) :: .int (I32 z) :: .ref (lay G kk) :: rest) σ := by
  subst ez
  have h := A_last (x := x) (z := i32 z) hk h0 h1 hN d g
  rw [I32_i32] at h
  exact h
theorem J_bast {kk N q : Nat} {z z1 x : Int} (hk : (lkG G)[kk]? = some (.inr (0, N, q))) (ez : i32 z = z1) (h0 : 0 ≤ z1) (h1 : z1 < N) (hN : N ≤ 2147483647) (d : decode cc pc = .ok (.bastore, 1)) (g : AW l G f (own, cc, nL, rt) b Q xs k n (pc + 1) lv (rest) (up σ kk z1.toNat (i2b x))) : AW l G f (own, cc, nL, rt) b Q xs k n (pc) lv (.int (I32 x) :: .int (I32 z) :: .ref (lay G kk) :: rest) σ := by
  subst ez
  have h := A_bast (x := x) (z := i32 z) hk h0 h1 hN d g
  rw [I32_i32] at h
  exact h
theorem J_aald {kk N q : Nat} {z z1 : Int} (hk : (lkG G)[kk]? = some (.inr (3, N, q))) (ez : i32 z = z1) (h0 : 0 ≤ z1) (h1 : z1 < N) (hN : N ≤ 2147483647) (d : decode cc pc = .ok (.aaload, 1)) (g : AW l G f (own, cc, nL, rt) b Q xs k n (pc + 1) lv ((.ref (lay G (q + z1.toNat))) :: rest) σ) : AW l G f (own, cc, nL, rt) b Q xs k n (pc) lv (.int (I32 z) :: .ref (lay G kk) :: rest) σ := by
  subst ez
  have h := A_aald (z := i32 z) hk h0 h1 hN d g
  rw [I32_i32] at h
  exact h
theorem J_tsIn {dflt lo hi off : Int} {offs : Array Int} {len tgt : Nat} {x c : Int} (d : decode cc pc = .ok (.tableswitch dflt lo hi offs, len)) (e : i32 x = c) (hc : inr c) (h1 : ¬ c < lo) (h2 : ¬ hi < c) (ho : offs[(c - lo).toNat]? = some off) (ht : (pc : Int) + off = (tgt : Int)) (g : AW l G f (own, cc, nL, rt) b Q xs k n (tgt) lv (rest) σ) : AW l G f (own, cc, nL, rt) b Q xs k n (pc) lv (.int (I32 x) :: rest) σ := by
  rw [← I32_i32]
  exact A_tsIn d e hc h1 h2 ho ht g
theorem J_tsOut {dflt lo hi : Int} {offs : Array Int} {len tgt : Nat} {x : Int} (d : decode cc pc = .ok (.tableswitch dflt lo hi offs, len)) (h : i32 x < lo ∨ hi < i32 x) (ht : (pc : Int) + dflt = (tgt : Int)) (g : AW l G f (own, cc, nL, rt) b Q xs k n (tgt) lv (rest) σ) : AW l G f (own, cc, nL, rt) b Q xs k n (pc) lv (.int (I32 x) :: rest) σ := by
  rw [← I32_i32]
  exact A_tsOut2 d (i32_inr x) h ht g
end AJ
