/-! a text out of its words: what the class's tokens are -/
section S94
variable {σ : Sg}
theorem gd_l {α : Type} (d : α) : ∀ (l m : List α) (t : Nat), t < l.length → (l ++ m).getD t d = l.getD t d
  | [], _, t, h => absurd h (Nat.not_lt_zero t)
  | _ :: _, _, 0, _ => rfl
  | _ :: l, m, t + 1, h => gd_l d l m t (Nat.lt_of_succ_lt_succ h)
theorem gd_r {α : Type} (d : α) : ∀ (l m : List α) (t : Nat), (l ++ m).getD (l.length + t) d = m.getD t d
  | [], m, t => by rw [show ([] : List α).length + t = t from Nat.zero_add t]; rfl
  | a :: l, m, t => by
    rw [show (a :: l).length + t = (l.length + t) + 1 from by rw [show (a :: l).length = l.length + 1 from rfl]; omega]
    exact gd_r d l m t
/-- a word of the text: 0 a blank, 1 letters, 2 digits, 3 a sign; its bytes -/
abbrev Lx : Type := Nat × List Int
def wv (w : List Int) (c : Int) : Int := w.foldl (fun c b => c * 27 + (b - 96)) c
def dv (w : List Int) (c : Int) : Int := w.foldl (fun c b => c * 10 + (b - 48)) c
def okx (x : Lx) : Prop := (x.1 = 0 ∧ x.2 = [32]) ∨ (x.1 = 1 ∧ (1 ≤ x.2.length ∧ x.2.length ≤ 10) ∧ (∀ b ∈ x.2, 97 ≤ b ∧ b ≤ 122) ∧ 0 ≤ wv x.2 0 ∧ wv x.2 0 < 205891132094649) ∨ (x.1 = 2 ∧ (1 ≤ x.2.length ∧ x.2.length ≤ 4) ∧ (∀ b ∈ x.2, 48 ≤ b ∧ b ≤ 57) ∧ 0 ≤ dv x.2 0 ∧ dv x.2 0 ≤ 9999) ∨ (x.1 = 3 ∧ (x.2 = [59] ∨ x.2 = [58] ∨ x.2 = [44]))
def nx : List Lx → Prop
  | [] => True
  | x :: _ => x.1 = 0 ∨ x.1 = 3
def WfL : List Lx → Prop
  | [] => True
  | x :: r => okx x ∧ (x.1 = 1 ∨ x.1 = 2 → nx r) ∧ WfL r
def byL : List Lx → List Int
  | [] => []
  | x :: r => x.2 ++ byL r
def kwN (v : Int) : Nat → Int → Int
  | 0, _ => 22
  | n + 1, i => if kwv i.toNat = v then i else kwN v n (i + 1)
def tk1 (x : Lx) : Int × Int := if x.1 = 1 then (kwN (wv x.2 0) 17 0, wv x.2 0) else if x.1 = 2 then (23, dv x.2 0) else (syT (x.2.getD 0 0), 0)
def tkL : List Lx → List (Int × Int)
  | [] => []
  | x :: r => if x.1 = 0 then tkL r else tk1 x :: tkL r
/-- the class holds these tokens -/
def TkL (σ : Sg) (ts : List (Int × Int)) : Prop := σ 3 4 = ts.length ∧ ∀ t : Nat, t < ts.length → σ 5 t = (ts.getD t (0, 0)).1 ∧ σ 7 t = (ts.getD t (0, 0)).2
theorem ap_add {ts : List (Int × Int)} (h : TkL σ ts) (hn : ts.length < 1501) (k s v : Int) : TkL (apC σ k s v) (ts ++ [(k, v)]) := by
  have en : i32 (σ 3 4) = ts.length := by rw [h.1]; exact i32_n _ (by omega)
  have e : apC σ k s v = up (up (up (up σ 5 ts.length k) 6 ts.length s) 7 ts.length v) 3 4 (σ 3 4 + 1) := by
    unfold apC
    rw [en, if_pos (by omega), show ((ts.length : Int)).toNat = ts.length from by omega]
  have hl : (ts ++ [(k, v)]).length = ts.length + 1 := List.length_append
  refine ⟨by rw [e, up_s, h.1, hl]; omega, fun t ht => ?_⟩
  rw [hl] at ht
  rw [e]
  by_cases c : t < ts.length
  · rw [gd_l _ _ _ _ c]
    have := h.2 t c
    rw [up_k _ _ (by decide), up_k _ _ (by decide), up_k _ _ (by decide), up_j _ _ (by omega), up_k _ _ (by decide), up_j _ _ (by omega), up_k _ _ (by decide), up_k _ _ (by decide)]
    exact this
  · obtain rfl : t = ts.length := by omega
    have := gd_r ((0 : Int), (0 : Int)) ts [(k, v)] 0
    rw [Nat.add_zero] at this
    rw [this]
    refine ⟨?_, ?_⟩
    · rw [up_k _ _ (by decide), up_k _ _ (by decide), up_k _ _ (by decide), up_s]; rfl
    · rw [up_k _ _ (by decide), up_s]; rfl
theorem rwF_w (σ : Sg) : ∀ (w : List Int) (n : Nat) (e c : Int), (∀ b ∈ w, 97 ≤ b ∧ b ≤ 122) → (∀ j : Nat, j < w.length → byteC σ (e + j) = w.getD j 0) → isLet (byteC σ (e + w.length)) = false → w.length ≤ n → e + w.length ≤ 1500 → rwF σ n e c = (e + w.length, wv w c)
  | [], n, e, c, _, _, hn, _, _ => by
    have e0 : e + (([] : List Int).length : Int) = e := Int.add_zero e
    rw [e0] at hn ⊢
    cases n with
    | zero => rfl
    | succ n =>
      simp only [rwF]
      rw [if_neg (fun z => by rw [hn] at z; exact absurd z.2 (by decide))]
      rfl
  | b :: w, n, e, c, hb, hj, hn, hl, he => by
    have hL : (b :: w).length = w.length + 1 := rfl
    obtain ⟨n, rfl⟩ : ∃ q, n = q + 1 := ⟨n - 1, by omega⟩
    have hb0 := hb b (List.mem_cons_self)
    have e0 : byteC σ e = b := by
      have := hj 0 (by omega)
      rwa [show e + ((0 : Nat) : Int) = e from by omega] at this
    simp only [rwF]
    rw [if_pos ⟨by omega, by rw [e0]; unfold isLet; rw [i32_n b (by omega)]; exact decide_eq_true hb0⟩]
    rw [e0, i32_n (b - 97 + 1) (by omega)]
    rw [rwF_w σ w n (e + 1) _ (fun x hx => hb x (List.mem_cons_of_mem _ hx)) (fun j hj2 => by
      have := hj (j + 1) (by omega)
      rw [show e + 1 + (j : Int) = e + ((j + 1 : Nat) : Int) from by omega]
      exact this) (by rw [show e + 1 + (w.length : Int) = e + ((b :: w).length : Int) from by omega]; exact hn) (by omega) (by omega)]
    refine Prod.ext (by show e + 1 + (w.length : Int) = e + ((b :: w).length : Int); omega) ?_
    show wv w (c * 27 + (b - 97 + 1)) = wv w (c * 27 + (b - 96))
    rw [show b - 97 + 1 = b - 96 from by omega]
theorem rnF_w (σ : Sg) : ∀ (w : List Int) (n : Nat) (e c : Int), (∀ b ∈ w, 48 ≤ b ∧ b ≤ 57) → (∀ j : Nat, j < w.length → byteC σ (e + j) = w.getD j 0) → isDig (byteC σ (e + w.length)) = false → w.length ≤ n → e + w.length ≤ 1500 → rnF σ n e c = (e + w.length, dv w c)
  | [], n, e, c, _, _, hn, _, _ => by
    have e0 : e + (([] : List Int).length : Int) = e := Int.add_zero e
    rw [e0] at hn ⊢
    cases n with
    | zero => rfl
    | succ n =>
      simp only [rnF]
      rw [if_neg (fun z => by rw [hn] at z; exact absurd z.2 (by decide))]
      rfl
  | b :: w, n, e, c, hb, hj, hn, hl, he => by
    have hL : (b :: w).length = w.length + 1 := rfl
    obtain ⟨n, rfl⟩ : ∃ q, n = q + 1 := ⟨n - 1, by omega⟩
    have hb0 := hb b (List.mem_cons_self)
    have e0 : byteC σ e = b := by
      have := hj 0 (by omega)
      rwa [show e + ((0 : Nat) : Int) = e from by omega] at this
    simp only [rnF]
    rw [if_pos ⟨by omega, by rw [e0]; unfold isDig; rw [i32_n b (by omega)]; exact decide_eq_true hb0⟩]
    rw [e0, i32_n b (by omega)]
    rw [rnF_w σ w n (e + 1) _ (fun x hx => hb x (List.mem_cons_of_mem _ hx)) (fun j hj2 => by
      have := hj (j + 1) (by omega)
      rw [show e + 1 + (j : Int) = e + ((j + 1 : Nat) : Int) from by omega]
      exact this) (by rw [show e + 1 + (w.length : Int) = e + ((b :: w).length : Int) from by omega]; exact hn) (by omega) (by omega)]
    refine Prod.ext (by show e + 1 + (w.length : Int) = e + ((b :: w).length : Int); omega) ?_
    show dv w (c * 10 + b - 48) = dv w (c * 10 + (b - 48))
    rw [show c * 10 + b - 48 = c * 10 + (b - 48) from by omega]
theorem kw_n (hk : KwOk σ) {v : Int} (hv : 0 ≤ v ∧ v < 205891132094649) : ∀ (n : Nat) (i : Int), 0 ≤ i → i + n = 17 → kwF σ v n i = kwN v n i
  | 0, _, _, _ => rfl
  | n + 1, i, h0, hi => by
    obtain ⟨w1, w2, w3⟩ := kw_let i.toNat (by omega)
    have b1 := V27_10 (f := fun j : Int => kb i.toNat j.toNat - 96) (n := (kl i.toNat).toNat) (by omega) (fun j h0 h1 => by have := w3 j.toNat (by omega); omega)
    show (if I64 (σ 4 i.toNat) = I64 v then i else kwF σ v n (i + 1)) = (if kwv i.toNat = v then i else kwN v n (i + 1))
    rw [kw_n hk hv n (i + 1) (by omega) (by omega), hk i.toNat (by omega)]
    have e : (I64 (kwv i.toNat) = I64 v) ↔ kwv i.toNat = v := I64_eq (by unfold kwv; exact ⟨by omega, by omega⟩) ⟨by omega, by omega⟩
    by_cases c : kwv i.toNat = v
    · rw [if_pos c, if_pos (e.mpr c)]
    · rw [if_neg c, if_neg (fun z => c (e.mp z))]
theorem byte_end {p : Int} (h : σ 1 1 = p) (hp : 0 ≤ p ∧ p ≤ 1500) : byteC σ p = -1 := by
  unfold byteC
  rw [h, i32_n p (by omega), if_neg (by omega)]
/-- behind a word stands no letter and no digit -/
theorem nx_no {r : List Lx} {p : Int} (hw : WfL r) (hn : nx r) (h : σ 1 1 = p + (byL r).length) (hp : 0 ≤ p ∧ p + (byL r).length ≤ 1500) (hb : ∀ j : Nat, j < (byL r).length → byteC σ (p + j) = (byL r).getD j 0) : isLet (byteC σ p) = false ∧ isDig (byteC σ p) = false := by
  have key : ∀ x : Int, x = -1 ∨ x = 32 ∨ x = 59 ∨ x = 58 ∨ x = 44 → isLet x = false ∧ isDig x = false := by
    intro x hx
    rcases hx with rfl | rfl | rfl | rfl | rfl <;> exact ⟨by decide, by decide⟩
  cases r with
  | nil =>
    refine key _ (Or.inl ?_)
    have e0 : p + ((byL []).length : Int) = p := Int.add_zero p
    rw [e0] at h hp
    exact byte_end h hp
  | cons y r =>
    obtain ⟨ho, -, -⟩ := hw
    have hl : (byL (y :: r)).length = y.2.length + (byL r).length := List.length_append
    have first : ∀ b : Int, y.2 = [b] → byteC σ p = b := by
      intro b hy
      have h1 : y.2.length = 1 := by rw [hy]; rfl
      have := hb 0 (by omega)
      rw [show p + ((0 : Nat) : Int) = p from by omega] at this
      rw [this]
      show (y.2 ++ byL r).getD 0 0 = b
      rw [hy]; rfl
    refine key _ (Or.inr ?_)
    rcases ho with ⟨-, h2⟩ | ⟨h1, -⟩ | ⟨h1, -⟩ | ⟨-, h2⟩
    · exact Or.inl (first 32 h2)
    · rcases hn with z | z <;> (rw [h1] at z; exact absurd z (by decide))
    · rcases hn with z | z <;> (rw [h1] at z; exact absurd z (by decide))
    · rcases h2 with h2 | h2 | h2
      · exact Or.inr (Or.inl (first 59 h2))
      · exact Or.inr (Or.inr (Or.inl (first 58 h2)))
      · exact Or.inr (Or.inr (Or.inr (first 44 h2)))
/-- one word read -/
theorem ra_x {x : Lx} {r : List Lx} {p : Int} (hw : WfL (x :: r)) (hk : KwOk σ) (h : σ 1 1 = p + (byL (x :: r)).length) (hp : 0 ≤ p ∧ p + (byL (x :: r)).length ≤ 1500) (hb : ∀ j : Nat, j < (byL (x :: r)).length → byteC σ (p + j) = (byL (x :: r)).getD j 0) :
    1 ≤ x.2.length ∧ raC σ p = (p + x.2.length, if x.1 = 0 then σ else apC σ (tk1 x).1 p (tk1 x).2) := by
  obtain ⟨ho, hnx, hr⟩ := hw
  have hl : (byL (x :: r)).length = x.2.length + (byL r).length := List.length_append
  have hb1 : ∀ j : Nat, j < x.2.length → byteC σ (p + j) = x.2.getD j 0 := fun j hj => by
    rw [hb j (by omega)]
    exact gd_l 0 x.2 (byL r) j hj
  have hb2 : ∀ j : Nat, j < (byL r).length → byteC σ (p + x.2.length + j) = (byL r).getD j 0 := fun j hj => by
    have := hb (x.2.length + j) (by omega)
    rw [show p + ((x.2.length + j : Nat) : Int) = p + x.2.length + j from by omega] at this
    rw [this]
    exact gd_r 0 x.2 (byL r) j
  have nxt : nx r → isLet (byteC σ (p + x.2.length)) = false ∧ isDig (byteC σ (p + x.2.length)) = false := fun hn => nx_no hr hn (by omega) ⟨by omega, by omega⟩ hb2
  have hp0 : 1 ≤ x.2.length → byteC σ p = x.2.getD 0 0 := fun h1 => by
    have := hb1 0 (by omega)
    rwa [show p + ((0 : Nat) : Int) = p from by omega] at this
  rcases ho with ⟨h1, h2⟩ | ⟨h1, h2, h3, h4, h5⟩ | ⟨h1, h2, h3, h4, h5⟩ | ⟨h1, h2⟩
  · have hL : x.2.length = 1 := by rw [h2]; rfl
    refine ⟨by omega, ?_⟩
    have e := hp0 (by omega)
    rw [h2] at e
    have e : byteC σ p = 32 := e
    rw [if_pos h1, hL]
    exact if_pos (by rw [e]; exact Or.inl rfl)
  · refine ⟨h2.1, ?_⟩
    have e := hp0 h2.1
    have hb0 : 97 ≤ x.2.getD 0 0 ∧ x.2.getD 0 0 ≤ 122 := by
      cases hx : x.2 with
      | nil => rw [hx] at h2; exact absurd h2.1 (by decide)
      | cons b w => rw [hx] at h3; exact h3 b List.mem_cons_self
    have ew := rwF_w σ x.2 (1500 - p).toNat p 0 h3 hb1 (nxt (hnx (Or.inl h1))).1 (by omega) (by omega)
    have et : tk1 x = (kwN (wv x.2 0) 17 0, wv x.2 0) := if_pos h1
    rw [if_neg (by omega), et]
    have e1 : rwC σ p = (p + x.2.length, wv x.2 0) := ew
    unfold raC
    rw [e, if_neg (by rw [i32_n _ (by omega)]; omega), if_pos (by unfold isLet; rw [i32_n _ (by omega)]; exact decide_eq_true hb0), e1]
    refine Prod.ext rfl ?_
    show rwS σ p (p + x.2.length, wv x.2 0) = _
    unfold rwS
    rw [if_pos (by show p + (x.2.length : Int) - p ≤ 10; omega)]
    show apC σ (kwF σ (wv x.2 0) 17 0) p (wv x.2 0) = _
    rw [kw_n hk ⟨h4, h5⟩ 17 0 (Int.le_refl _) (by decide)]
  · refine ⟨h2.1, ?_⟩
    have e := hp0 h2.1
    have hb0 : 48 ≤ x.2.getD 0 0 ∧ x.2.getD 0 0 ≤ 57 := by
      cases hx : x.2 with
      | nil => rw [hx] at h2; exact absurd h2.1 (by decide)
      | cons b w => rw [hx] at h3; exact h3 b List.mem_cons_self
    have ew := rnF_w σ x.2 (1500 - p).toNat p 0 h3 hb1 (nxt (hnx (Or.inr h1))).2 (by omega) (by omega)
    have et : tk1 x = (23, dv x.2 0) := by unfold tk1; rw [if_neg (by omega), if_pos h1]
    rw [if_neg (by omega), et]
    have e1 : rnC σ p = (p + x.2.length, dv x.2 0) := ew
    unfold raC
    rw [e, if_neg (by rw [i32_n _ (by omega)]; omega), if_neg (by unfold isLet; rw [i32_n _ (by omega)]; exact fun z => by have := of_decide_eq_true z; omega), if_pos (by unfold isDig; rw [i32_n _ (by omega)]; exact decide_eq_true hb0), e1]
    refine Prod.ext rfl ?_
    show rnS σ p (p + x.2.length, dv x.2 0) = _
    unfold rnS
    rw [if_pos (by show p + (x.2.length : Int) - p ≤ 4; omega)]
  · have key : ∀ b : Nat, (b = 59 ∨ b = 58 ∨ b = 44) → x.2 = [(b : Int)] → 1 ≤ x.2.length ∧ raC σ p = (p + x.2.length, if x.1 = 0 then σ else apC σ (tk1 x).1 p (tk1 x).2) := by
      intro b hbb hx
      have hL : x.2.length = 1 := by rw [hx]; rfl
      refine ⟨by omega, ?_⟩
      have e := hp0 (by omega)
      rw [hx] at e
      have e : byteC σ p = (b : Int) := e
      have et : tk1 x = (syT b, 0) := by unfold tk1; rw [if_neg (by omega), if_neg (by omega), hx]; rfl
      rw [if_neg (by omega), et, hL]
      unfold raC
      rw [e, if_neg (by rw [i32_n _ (by omega)]; omega), if_neg (by unfold isLet; rw [i32_n _ (by omega)]; exact fun z => by have := of_decide_eq_true z; omega), if_neg (by unfold isDig; rw [i32_n _ (by omega)]; exact fun z => by have := of_decide_eq_true z; omega)]
      refine Prod.ext rfl ?_
      show apC σ (syC σ p) p 0 = apC σ (syT b) p 0
      unfold syC
      rw [e, sy_tab b (by omega)]
    rcases h2 with h2 | h2 | h2
    · exact key 59 (Or.inl rfl) h2
    · exact key 58 (Or.inr (Or.inl rfl)) h2
    · exact key 44 (Or.inr (Or.inr rfl)) h2
theorem tkL_len : ∀ ls : List Lx, (tkL ls).length ≤ ls.length
  | [] => Nat.le_refl _
  | x :: r => by
    have := tkL_len r
    simp only [tkL]
    split
    · show (tkL r).length ≤ r.length + 1; omega
    · show (tkL r).length + 1 ≤ r.length + 1; omega
/-- the whole text -/
theorem scan_lx : ∀ (ls : List Lx) (m : Nat) (p : Int) (σ : Sg) (ts : List (Int × Int)), WfL ls → KwOk σ → 0 ≤ p → σ 1 1 = p + (byL ls).length → p + (byL ls).length ≤ 1500 → (byL ls).length ≤ m → (∀ j : Nat, j < (byL ls).length → byteC σ (p + j) = (byL ls).getD j 0) → TkL σ ts → ts.length + ls.length ≤ 1500 → TkL (rdF m p σ) (ts ++ tkL ls)
  | [], m, p, σ, ts, _, _, p0, h, h2, _, _, hT, _ => by
    have e0 : p + ((byL []).length : Int) = p := Int.add_zero p
    rw [e0] at h h2
    have e : rdF m p σ = σ := by
      cases m with
      | zero => rfl
      | succ m => exact if_neg (by rw [h, i32_n _ (by omega)]; omega)
    rw [e]
    show TkL σ (ts ++ [])
    rw [List.append_nil]; exact hT
  | x :: r, m, p, σ, ts, hw, hk, p0, h, h2, hm, hb, hT, hn => by
    have hl : (byL (x :: r)).length = x.2.length + (byL r).length := List.length_append
    obtain ⟨g1, g2⟩ := ra_x hw hk h ⟨p0, h2⟩ hb
    have hln : (x :: r).length = r.length + 1 := rfl
    obtain ⟨m, rfl⟩ : ∃ q, m = q + 1 := ⟨m - 1, by omega⟩
    have e1 : rdF (m + 1) p σ = rdF m (raC σ p).1 (raC σ p).2 := if_pos (by rw [h, i32_n _ (by omega)]; omega)
    rw [e1, g2]
    have go : ∀ (z : Sg) (us : List (Int × Int)), (∀ k, k ≠ 3 ∧ k ≠ 5 ∧ k ≠ 6 ∧ k ≠ 7 → z k = σ k) → TkL z us → us.length + r.length ≤ 1500 → TkL (rdF m (p + x.2.length) z) (us ++ tkL r) := by
      intro z us hz hu hc
      have k1 := hz 1 (by decide)
      refine scan_lx r m (p + x.2.length) z us hw.2.2 ?_ (by omega) ?_ (by omega) (by omega) (fun j hj => ?_) hu hc
      · unfold KwOk; rw [hz 4 (by decide)]; exact hk
      · rw [k1, h]; omega
      · rw [byteC_fr k1 (hz 2 (by decide))]
        have := hb (x.2.length + j) (by omega)
        rw [show p + ((x.2.length + j : Nat) : Int) = p + x.2.length + j from by omega] at this
        rw [this]
        exact gd_r 0 x.2 (byL r) j
    by_cases c : x.1 = 0
    · have et : tkL (x :: r) = tkL r := if_pos c
      rw [if_pos c, et]
      exact go σ ts (fun _ _ => rfl) hT (by omega)
    · have et : tkL (x :: r) = tk1 x :: tkL r := if_neg c
      rw [if_neg c, et, show ts ++ tk1 x :: tkL r = (ts ++ [tk1 x]) ++ tkL r from by rw [List.append_assoc]; rfl]
      refine go _ _ (fun k hk => apC_r _ _ _ _ hk) (ap_add hT (by omega) _ _ _) ?_
      have : (ts ++ [tk1 x]).length = ts.length + 1 := List.length_append
      omega
theorem read_lx {ls : List Lx} (hw : WfL ls) (hk : KwOk σ) (h : σ 1 1 = (byL ls).length) (h2 : (byL ls).length ≤ 1500) (hb : ∀ j : Nat, j < (byL ls).length → byteC σ j = (byL ls).getD j 0) (hn : ls.length ≤ 1500) : TkL (readC σ) (tkL ls ++ [(25, 0)]) := by
  have h0 : TkL (up σ 3 4 0) [] := ⟨up_s _ _ _ _, fun t ht => absurd ht (Nat.not_lt_zero t)⟩
  have z : ∀ k, k ≠ 3 → up σ 3 4 0 k = σ k := fun k hk => up_r _ _ _ hk
  have := scan_lx ls 1500 0 (up σ 3 4 0) [] hw (by unfold KwOk; rw [z 4 (by decide)]; exact hk) (Int.le_refl _) (by rw [z 1 (by decide), h]; omega) (by omega) h2 (fun j hj => by
    rw [byteC_fr (z 1 (by decide)) (z 2 (by decide)), Int.zero_add]; exact hb j hj) h0 (by show 0 + ls.length ≤ 1500; omega)
  unfold readC rdE
  have hl := tkL_len ls
  exact ap_add this (by show (tkL ls).length < 1501; omega) _ _ _
/-- tokens at a place -/
def At (σ : Sg) (a : Int) (l : List (Int × Int)) : Prop := ∀ j : Nat, j < l.length → KC σ (a + j) = (l.getD j (0, 0)).1 ∧ VC σ (a + j) = (l.getD j (0, 0)).2
theorem At.l {a : Int} {l m : List (Int × Int)} (h : At σ a (l ++ m)) : At σ a l := fun j hj => by
  have hl : (l ++ m).length = l.length + m.length := List.length_append
  have := h j (by omega)
  rwa [gd_l _ _ _ _ hj] at this
theorem At.r {a : Int} {l m : List (Int × Int)} (h : At σ a (l ++ m)) : At σ (a + l.length) m := fun j hj => by
  have hl : (l ++ m).length = l.length + m.length := List.length_append
  have := h (l.length + j) (by omega)
  rwa [gd_r, show a + ((l.length + j : Nat) : Int) = a + l.length + j from by omega] at this
theorem At.fr {z : Sg} {a : Int} {l : List (Int × Int)} (h : At σ a l) (h3 : z 3 = σ 3) (h5 : z 5 = σ 5) (h7 : z 7 = σ 7) : At z a l := fun j hj => by
  unfold KC VC
  rw [h3, h5, h7]
  exact h j hj
theorem At.of {ts : List (Int × Int)} (h : TkL σ ts) (hn : ts.length ≤ 1501) (hr : ∀ x ∈ ts, (0 ≤ x.1 ∧ x.1 ≤ 25) ∧ 0 ≤ x.2 ∧ x.2 < 205891132094649) : At σ 0 ts := fun j hj => by
  have en : i32 (σ 3 4) = ts.length := by rw [h.1]; exact i32_n _ (by omega)
  have hm : ∀ (l : List (Int × Int)) (t : Nat), t < l.length → l.getD t (0, 0) ∈ l := by
    intro l
    induction l with
    | nil => intro t ht; exact absurd ht (Nat.not_lt_zero t)
    | cons a l ih =>
      intro t ht
      cases t with
      | zero => exact List.mem_cons_self
      | succ t => exact List.mem_cons_of_mem _ (ih t (Nat.lt_of_succ_lt_succ ht))
  obtain ⟨r1, r2, r3⟩ := hr _ (hm ts j hj)
  obtain ⟨g1, g2⟩ := h.2 j hj
  have ej : i32 (0 + (j : Int)) = j := by rw [Int.zero_add]; exact i32_n _ (by omega)
  unfold KC VC
  rw [ej, en, if_pos ⟨by omega, by omega, by omega⟩, if_pos ⟨by omega, by omega, by omega⟩, show ((j : Int)).toNat = j from by omega, g1, g2]
  exact ⟨i32_n _ (by omega), i64_eq ⟨by omega, by omega⟩⟩
end S94
