/-! four bytes in an int; what feed and trim make of them -/
theorem CtX.ct {l : Launch} {G : Gx} {y : MethodName} {cc : ByteArray} {nL : Nat} {rt : Option FieldType} {d mc ms : Nat} {av : List Value} {σ : Sg} {r : Option Value} {σ' : Sg} (h : CtX l G y cc nL rt d mc ms av σ (.inl r) σ') : Ct l G y cc nL rt d mc ms av σ r σ' := by
  intro sz
  intro p e ha hcs hk s m args below hfr happ hP hK
  obtain ⟨k, o, q1, q2, q3, q4⟩ := h sz p e ha hcs hk s m args below hfr happ hP hK
  refine ⟨k, o, q1, q2, q3, ?_⟩
  rcases q4 with ⟨⟨⟨r2, e1, e2, e3⟩, e4⟩, e5⟩ | ⟨q, e1, E, ce, L, ⟨⟨e2, -⟩, -⟩, -⟩
  · cases e1
    exact ⟨⟨⟨e2, e3⟩, e4⟩, e5⟩
  · cases e2
section S79b
variable {σ τ : Sg}
theorem bvI {x : Int} (h : 0 ≤ x) : (I32 x).toBitVec = BitVec.ofNat 32 x.toNat := by
  show BitVec.ofInt 32 x = _
  rw [← BitVec.ofInt_natCast]
  congr 1; omega
theorem ior_lo {x b : Int} (hx : 0 ≤ x ∧ x < 8388608) (hb : 0 ≤ b ∧ b < 256) : ior (ishl x 8) b = x * 256 + b := by
  have e1 : (I32 (ishl x 8)).toBitVec = BitVec.ofNat 32 (x.toNat * 256) := by
    have e : I32 (ishl x 8) = I32 x <<< (I32 8 &&& 31) := I32_of _
    rw [e]
    show (I32 x).toBitVec <<< ((I32 8 &&& 31).toBitVec.smod 32#32) = _
    rw [show (I32 8 &&& 31).toBitVec.smod 32#32 = 8#32 from by decide, bvI hx.1]
    apply BitVec.eq_of_toNat_eq
    rw [BitVec.shiftLeft_eq', BitVec.toNat_shiftLeft, BitVec.toNat_ofNat, BitVec.toNat_ofNat, Nat.shiftLeft_eq]
    show (x.toNat % 4294967296) * 256 % 4294967296 = x.toNat * 256 % 4294967296
    omega
  unfold ior
  show ((I32 (ishl x 8)).toBitVec ||| (I32 b).toBitVec).toInt = _
  rw [e1, bvI hb.1]
  have e2 : (BitVec.ofNat 32 (x.toNat * 256) ||| BitVec.ofNat 32 b.toNat).toNat = x.toNat * 256 + b.toNat := by
    rw [BitVec.toNat_or, BitVec.toNat_ofNat, BitVec.toNat_ofNat, Nat.mod_eq_of_lt (by omega), Nat.mod_eq_of_lt (by omega)]
    have := Nat.shiftLeft_add_eq_or_of_lt (i := 8) (b := b.toNat) (by omega) x.toNat
    rw [Nat.shiftLeft_eq] at this
    exact this.symm
  rw [BitVec.toInt_eq_toNat_of_lt (by rw [e2]; omega), e2]
  omega
theorem iand_lo {y : Int} (hy : 0 ≤ y ∧ y < 2147483648) (s : Int) (n : Nat) (hs : (I32 s &&& 31).toBitVec.smod 32#32 = BitVec.ofNat 32 n) (hn : n < 32) : iand (ishr y s) 255 = y / ((2 ^ n : Nat) : Int) % 256 := by
  have e : I32 (ishr y s) = I32 y >>> (I32 s &&& 31) := I32_of _
  unfold iand
  show ((I32 (ishr y s)).toBitVec &&& (I32 255).toBitVec).toInt = _
  rw [e]
  show (BitVec.sshiftRight' (I32 y).toBitVec ((I32 s &&& 31).toBitVec.smod 32#32) &&& 255#32).toInt = _
  rw [hs, bvI hy.1]
  have hm : (BitVec.ofNat 32 y.toNat).msb = false := by
    rw [BitVec.msb_eq_false_iff_two_mul_lt, BitVec.toNat_ofNat, Nat.mod_eq_of_lt (by omega)]
    omega
  rw [BitVec.sshiftRight', BitVec.sshiftRight_eq_of_msb_false hm]
  have e2 : (BitVec.ofNat 32 y.toNat >>> (BitVec.ofNat 32 n).toNat &&& 255#32).toNat = y.toNat / 2 ^ n % 256 := by
    rw [BitVec.toNat_and, BitVec.toNat_ushiftRight, BitVec.toNat_ofNat, BitVec.toNat_ofNat, Nat.mod_eq_of_lt (by omega), Nat.mod_eq_of_lt (by omega), Nat.shiftRight_eq_div_pow]
    show _ &&& 255 = _
    exact Nat.and_two_pow_sub_one_eq_mod _ 8
  rw [BitVec.toInt_eq_toNat_of_lt (by rw [e2]; omega), e2]
  have hy2 : y = (y.toNat : Int) := by omega
  rw [hy2]
  simp only [Int.toNat_natCast]
  omega
/-- four bytes, the first ahead -/
def pk4 (b0 b1 b2 b3 : Int) : Int := ior (ishl (ior (ishl (ior (ishl (ior (ishl 0 8) b0) 8) b1) 8) b2) 8) b3
theorem pk4_by {b0 b1 b2 b3 : Int} (h0 : 0 ≤ b0 ∧ b0 < 128) (h1 : 0 ≤ b1 ∧ b1 < 128) (h2 : 0 ≤ b2 ∧ b2 < 128) (h3 : 0 ≤ b3 ∧ b3 < 128) : iand (ishr (pk4 b0 b1 b2 b3) 24) 255 = b0 ∧ iand (ishr (pk4 b0 b1 b2 b3) 16) 255 = b1 ∧ iand (ishr (pk4 b0 b1 b2 b3) 8) 255 = b2 ∧ iand (ishr (pk4 b0 b1 b2 b3) 0) 255 = b3 := by
  have e : pk4 b0 b1 b2 b3 = ((b0 * 256 + b1) * 256 + b2) * 256 + b3 := by
    unfold pk4
    rw [ior_lo (x := 0) (by decide) ⟨h0.1, by omega⟩, ior_lo (x := 0 * 256 + b0) ⟨by omega, by omega⟩ ⟨h1.1, by omega⟩, ior_lo (x := (0 * 256 + b0) * 256 + b1) ⟨by omega, by omega⟩ ⟨h2.1, by omega⟩, ior_lo (x := ((0 * 256 + b0) * 256 + b1) * 256 + b2) ⟨by omega, by omega⟩ ⟨h3.1, by omega⟩]
    omega
  rw [e]
  refine ⟨?_, ?_, ?_, ?_⟩
  · rw [iand_lo ⟨by omega, by omega⟩ 24 24 (by decide) (by decide)]; omega
  · rw [iand_lo ⟨by omega, by omega⟩ 16 16 (by decide) (by decide)]; omega
  · rw [iand_lo ⟨by omega, by omega⟩ 8 8 (by decide) (by decide)]; omega
  · rw [iand_lo ⟨by omega, by omega⟩ 0 0 (by decide) (by decide)]; omega
end S79b
section S79t
variable {σ τ : Sg}
/-- the reference's tape holds n bytes of B -/
def Tp (τ : Sg) (B : Nat → Int) (n : Nat) : Prop := τ 84 2 = (n : Int) ∧ ∀ j, j < n → τ 85 j = B j
theorem tp_1 {B : Nat → Int} {n : Nat} {x k : Int} (h : Tp τ B n) (hb : iand (ishr x (8 * k)) 255 = B n) : Tp (rf1 x k τ) B (n + 1) := by
  unfold rf1
  refine ⟨by rw [up_s, h.1]; omega, fun j hj => ?_⟩
  rw [up_k _ _ (by decide), h.1, up_at, Int.toNat_natCast]
  by_cases c : j = n
  · rw [if_pos c, hb, c]
  · rw [if_neg c]; exact h.2 j (by omega)
theorem tp_w {B : Nat → Int} {n : Nat} (hB : ∀ j, 0 ≤ B j ∧ B j < 128) (h : Tp τ B n) : Tp (rfF (pk4 (B n) (B (n + 1)) (B (n + 2)) (B (n + 3))) 4 τ) B (n + 4) := by
  obtain ⟨q0, q1, q2, q3⟩ := pk4_by (hB n) (hB (n + 1)) (hB (n + 2)) (hB (n + 3))
  rw [rf_4]
  exact tp_1 (tp_1 (tp_1 (tp_1 h q0) q1) q2) q3
def wQ (B : Nat → Int) (k : Nat) : Nat → Nat → Int
  | 0 => fun _ => 0
  | i + 1 => upT (wQ B k i) (i / 4) (ior (ishl (wQ B k i (i / 4)) 8) (B (k + i)))
theorem wQ_0 (B : Nat → Int) (k : Nat) : wQ B k 20 0 = pk4 (B (k + 0)) (B (k + 1)) (B (k + 2)) (B (k + 3)) := rfl
theorem wQ_1 (B : Nat → Int) (k : Nat) : wQ B k 20 1 = pk4 (B (k + 4)) (B (k + 5)) (B (k + 6)) (B (k + 7)) := rfl
theorem wQ_2 (B : Nat → Int) (k : Nat) : wQ B k 20 2 = pk4 (B (k + 8)) (B (k + 9)) (B (k + 10)) (B (k + 11)) := rfl
theorem wQ_3 (B : Nat → Int) (k : Nat) : wQ B k 20 3 = pk4 (B (k + 12)) (B (k + 13)) (B (k + 14)) (B (k + 15)) := rfl
theorem wQ_4 (B : Nat → Int) (k : Nat) : wQ B k 20 4 = pk4 (B (k + 16)) (B (k + 17)) (B (k + 18)) (B (k + 19)) := rfl
def lyE (B : Nat → Int) (k : Nat) (σ : Sg) : Sg := feS σ (wQ B k 20 0) (wQ B k 20 1) (wQ B k 20 2) (wQ B k 20 3) (wQ B k 20 4)
def lyS (B : Nat → Int) : Nat → Nat → Sg → Sg
  | 0, _, σ => σ
  | m + 1, k, σ => lyS B m (k + 20) (lyE B k σ)
theorem tp_f {B : Nat → Int} {n : Nat} (hB : ∀ j, 0 ≤ B j ∧ B j < 128) (h : Tp τ B n) (hl : n + 20 ≤ 1500) : Tp (fdS τ (wQ B n 20 0) (wQ B n 20 1) (wQ B n 20 2) (wQ B n 20 3) (wQ B n 20 4)) B (n + 20) := by
  unfold fdS
  rw [if_pos (by rw [h.1]; omega), fd_5, wQ_0, wQ_1, wQ_2, wQ_3, wQ_4]
  have h0 : Tp (up τ 84 0 0) B n := ⟨by rw [up_j _ _ (by decide)]; exact h.1, fun j hj => by rw [up_k _ _ (by decide)]; exact h.2 j hj⟩
  exact tp_w hB (tp_w hB (tp_w hB (tp_w hB (tp_w hB h0))))
theorem ly_1 {B : Nat → Int} {n : Nat} (hB : ∀ j, 0 ≤ B j ∧ B j < 128) (h : Rel σ τ) (ht : Tp τ B n) (hl : n + 20 ≤ 1500) : (∃ x, feO σ (wQ B n 20 0) (wQ B n 20 1) (wQ B n 20 2) (wQ B n 20 3) (wQ B n 20 4) = .inl (some (.int (I32 x)))) ∧ ∃ y, Rel (lyE B n σ) y ∧ Tp y B (n + 20) := by
  obtain ⟨a1, a2⟩ := h.feed (wQ B n 20 0) (wQ B n 20 1) (wQ B n 20 2) (wQ B n 20 3) (wQ B n 20 4)
  refine ⟨?_, _, a2, tp_f hB ht hl⟩
  have e : i32 (σ 1 1) = n := by
    rw [h.2.2.2.2.2.2.2.1.1, ht.1]
    exact i32_n _ (by omega)
  unfold feO
  rw [e, if_neg (by omega)]
  exact ⟨_, rfl⟩
theorem ly_r {B : Nat → Int} {q : Nat} (hq : 84 ≤ q) : ∀ (m k : Nat) (σ : Sg), lyS B m k σ q = σ q
  | 0, _, _ => rfl
  | m + 1, k, σ => by
    show lyS B m (k + 20) (lyE B k σ) q = _
    rw [ly_r hq m]
    exact feS_c hq _ _ _ _ _
theorem ly_n {B : Nat → Int} (hB : ∀ j, 0 ≤ B j ∧ B j < 128) : ∀ (m n : Nat) (σ τ : Sg), Rel σ τ → Tp τ B n → n + 20 * m ≤ 1500 → ∃ y, Rel (lyS B m n σ) y ∧ Tp y B (n + 20 * m)
  | 0, n, σ, τ, h, ht, _ => ⟨τ, h, ht⟩
  | m + 1, n, σ, τ, h, ht, hl => by
    obtain ⟨-, y, h1, h2⟩ := ly_1 hB h ht (by omega)
    have := ly_n hB m (n + 20) _ y h1 h2 (by omega)
    rw [show n + 20 * (m + 1) = n + 20 + 20 * m from by omega]
    exact this
theorem ly_t {B : Nat → Int} {n s : Nat} (h : Rel σ τ) (ht : Tp τ B n) (hs : s ≤ n) (hn : n ≤ 1500) : trO σ s = .inl (some (.int (I32 s))) ∧ ∃ y, Rel (trS σ s) y ∧ Tp y B s := by
  have e : i32 (σ 1 1) = n := by
    rw [h.2.2.2.2.2.2.2.1.1, ht.1]
    exact i32_n _ (by omega)
  obtain ⟨-, a2⟩ := h.trim (n := (s : Int)) ⟨by omega, by omega⟩
  refine ⟨?_, _, a2, ?_⟩
  · unfold trO
    rw [e, i32_n _ (by omega), if_neg (by omega)]
  · unfold tmS
    rw [inR_e ⟨by omega, by omega⟩ inr_0 (by rw [ht.1]; exact ⟨by omega, by omega⟩), ht.1, decide_eq_true (show (0 : Int) ≤ s ∧ (s : Int) ≤ n by omega), if_pos rfl]
    exact ⟨up_s _ _ _ _, fun j hj => by rw [up_k _ _ (by decide), up_k _ _ (by decide)]; exact ht.2 j (by omega)⟩
theorem tp_by {B : Nat → Int} {n : Nat} (h : Rel σ τ) (ht : Tp τ B n) (hn : n ≤ 1500) : σ 1 1 = (n : Int) ∧ ∀ j : Nat, j < n → byteC σ j = B j := by
  have hS := h.2.2.2.2.2.2.2.1
  refine ⟨by rw [hS.1, ht.1], fun j hj => ?_⟩
  rw [hS.2 j (by omega) (by omega)]
  unfold bR
  rw [ht.1, if_pos (by omega), Int.toNat_natCast]
  exact ht.2 j hj
end S79t
