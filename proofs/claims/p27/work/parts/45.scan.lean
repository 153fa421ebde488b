/-! what a scan leaves -/
section S45
variable {σ : Sg}
def scN : Nat → Int → Int → Sg → Int
  | 0, n, _, _ => n
  | m + 1, n, p, σ => if (tkR σ p).1 = 0 then n else scN m (n + 1) (tkR σ p).2.2 (scP σ n (tkR σ p))
def scE (σ : Sg) : Int := scN 1501 0 0 σ
/-- a token as its kind wants it -/
def WfT (σ : Sg) (t : Nat) : Prop :=
  (σ 86 t = 1 → σ 87 t < σ 88 t ∧ σ 88 t ≤ σ 87 t + 10 ∧ ∀ k : Int, σ 87 t ≤ k → k < σ 88 t → isLet (σ 85 k.toNat) = true) ∧
  (σ 86 t = 2 → σ 87 t < σ 88 t ∧ σ 88 t ≤ σ 87 t + 4 ∧ ∀ k : Int, σ 87 t ≤ k → k < σ 88 t → isDig (σ 85 k.toNat) = true) ∧
  (σ 86 t = 3 → σ 88 t = σ 87 t + 1 ∧ isSym (σ 85 (σ 87 t).toNat) = true)
theorem bR_at {k : Int} (h : k < σ 84 2) : bR σ k = σ 85 k.toNat := if_pos h
theorem ltF_all (P : Int → Bool) : ∀ (n : Nat) (p k : Int), p ≤ k → k < ltF (bR σ) P n p → P (bR σ k) = true
  | 0, p, k, h1, h2 => by have h2 : k < p := h2; omega
  | n + 1, p, k, h1, h2 => by
    simp only [ltF] at h2
    by_cases c : P (bR σ p) = true
    · rw [if_pos c] at h2
      by_cases c2 : k = p
      · rw [c2]; exact c
      · exact ltF_all P n (p + 1) k (by omega) h2
    · rw [if_neg c] at h2; omega
/-- the token's parts -/
theorem tkR_cs (hb : Rb σ) {p : Int} (hp : 0 ≤ p ∧ p ≤ σ 84 2) : (p ≤ (tkR σ p).2.1 ∧ (tkR σ p).2.1 ≤ (tkR σ p).2.2 ∧ (tkR σ p).2.2 ≤ σ 84 2) ∧ (0 ≤ (tkR σ p).1 ∧ (tkR σ p).1 ≤ 4) ∧ ((tkR σ p).1 ≠ 0 → (tkR σ p).2.1 < (tkR σ p).2.2) ∧
    ((tkR σ p).1 = 1 → (tkR σ p).2.2 ≤ (tkR σ p).2.1 + 10 ∧ ∀ k : Int, (tkR σ p).2.1 ≤ k → k < (tkR σ p).2.2 → isLet (σ 85 k.toNat) = true) ∧
    ((tkR σ p).1 = 2 → (tkR σ p).2.2 ≤ (tkR σ p).2.1 + 4 ∧ ∀ k : Int, (tkR σ p).2.1 ≤ k → k < (tkR σ p).2.2 → isDig (σ 85 k.toNat) = true) ∧
    ((tkR σ p).1 = 3 → (tkR σ p).2.2 = (tkR σ p).2.1 + 1 ∧ isSym (σ 85 ((tkR σ p).2.1).toNat) = true) := by
  have hsk := skF_bd σ 1500 p hp.2
  have hlt := ltF_bd σ isLet (fun _ => bR_let) 1500 (skF (bR σ) 1500 p) hsk.2
  have hdg := ltF_bd σ isDig (fun _ => bR_dig) 1500 (skF (bR σ) 1500 p) hsk.2
  by_cases c1 : isLet (bR σ (skF (bR σ) 1500 p)) = true
  · have hgt := ltF_gt σ isLet (fun _ => bR_let) _ c1
    have all : ∀ k : Int, skF (bR σ) 1500 p ≤ k → k < ltF (bR σ) isLet 1500 (skF (bR σ) 1500 p) → isLet (σ 85 k.toNat) = true := by
      intro k k1 k2
      rw [← bR_at (show k < σ 84 2 by omega)]
      exact ltF_all isLet 1500 _ k k1 k2
    by_cases c2 : ltF (bR σ) isLet 1500 (skF (bR σ) 1500 p) - skF (bR σ) 1500 p ≤ 10
    · rw [tkR_w (k := 1) c1 (if_pos c2)]
      exact ⟨⟨hsk.1, hlt.1, hlt.2⟩, ⟨by dsimp only; omega, by dsimp only; omega⟩, fun _ => by dsimp only; omega, fun _ => ⟨by dsimp only; omega, all⟩, fun z => absurd (show (1 : Int) = 2 from z) (by decide), fun z => absurd (show (1 : Int) = 3 from z) (by decide)⟩
    · rw [tkR_w (k := 4) c1 (if_neg c2)]
      exact ⟨⟨hsk.1, hlt.1, hlt.2⟩, ⟨by dsimp only; omega, by dsimp only; omega⟩, fun _ => by dsimp only; omega, fun z => absurd (show (4 : Int) = 1 from z) (by decide), fun z => absurd (show (4 : Int) = 2 from z) (by decide), fun z => absurd (show (4 : Int) = 3 from z) (by decide)⟩
  · rw [Bool.not_eq_true] at c1
    by_cases c3 : isDig (bR σ (skF (bR σ) 1500 p)) = true
    · have hgt := ltF_gt σ isDig (fun _ => bR_dig) _ c3
      have all : ∀ k : Int, skF (bR σ) 1500 p ≤ k → k < ltF (bR σ) isDig 1500 (skF (bR σ) 1500 p) → isDig (σ 85 k.toNat) = true := by
        intro k k1 k2
        rw [← bR_at (show k < σ 84 2 by omega)]
        exact ltF_all isDig 1500 _ k k1 k2
      by_cases c2 : ltF (bR σ) isDig 1500 (skF (bR σ) 1500 p) - skF (bR σ) 1500 p ≤ 4
      · rw [tkR_d (k := 2) c1 c3 (if_pos c2)]
        exact ⟨⟨hsk.1, hdg.1, hdg.2⟩, ⟨by dsimp only; omega, by dsimp only; omega⟩, fun _ => by dsimp only; omega, fun z => absurd (show (2 : Int) = 1 from z) (by decide), fun _ => ⟨by dsimp only; omega, all⟩, fun z => absurd (show (2 : Int) = 3 from z) (by decide)⟩
      · rw [tkR_d (k := 4) c1 c3 (if_neg c2)]
        exact ⟨⟨hsk.1, hdg.1, hdg.2⟩, ⟨by dsimp only; omega, by dsimp only; omega⟩, fun _ => by dsimp only; omega, fun z => absurd (show (4 : Int) = 1 from z) (by decide), fun z => absurd (show (4 : Int) = 2 from z) (by decide), fun z => absurd (show (4 : Int) = 3 from z) (by decide)⟩
    · rw [Bool.not_eq_true] at c3
      by_cases c4 : skF (bR σ) 1500 p < σ 84 2
      · by_cases c5 : isSym (bR σ (skF (bR σ) 1500 p)) = true
        · rw [tkR_s (k := 3) c1 c3 c4 (if_pos c5)]
          exact ⟨⟨hsk.1, by dsimp only; omega, by dsimp only; omega⟩, ⟨by dsimp only; omega, by dsimp only; omega⟩, fun _ => by dsimp only; omega, fun z => absurd (show (3 : Int) = 1 from z) (by decide), fun z => absurd (show (3 : Int) = 2 from z) (by decide), fun _ => ⟨rfl, by rw [bR_at c4] at c5; exact c5⟩⟩
        · rw [tkR_s (k := 4) c1 c3 c4 (if_neg c5)]
          exact ⟨⟨hsk.1, by dsimp only; omega, by dsimp only; omega⟩, ⟨by dsimp only; omega, by dsimp only; omega⟩, fun _ => by dsimp only; omega, fun z => absurd (show (4 : Int) = 1 from z) (by decide), fun z => absurd (show (4 : Int) = 2 from z) (by decide), fun z => absurd (show (4 : Int) = 3 from z) (by decide)⟩
      · rw [tkR_e c1 c3 (by omega)]
        exact ⟨⟨hsk.1, by dsimp only; omega, hsk.2⟩, ⟨by dsimp only; omega, by dsimp only; omega⟩, fun z => absurd rfl z, fun z => absurd (show (0 : Int) = 1 from z) (by decide), fun z => absurd (show (0 : Int) = 2 from z) (by decide), fun z => absurd (show (0 : Int) = 3 from z) (by decide)⟩
theorem scP_o (n : Int) (x : Int × Int × Int) {k : Nat} (h : k ≠ 86 ∧ k ≠ 87 ∧ k ≠ 88) : scP σ n x k = σ k := by
  unfold scP
  rw [up_r _ _ _ h.2.2, up_r _ _ _ h.2.1, up_r _ _ _ h.1]
theorem scP_j (n : Int) (x : Int × Int × Int) {k t : Nat} (h : t ≠ n.toNat) : scP σ n x k t = σ k t := by
  unfold scP
  rw [up_j _ _ h, up_j _ _ h, up_j _ _ h]
theorem scP_n (n : Int) (x : Int × Int × Int) : scP σ n x 86 n.toNat = x.1 ∧ scP σ n x 87 n.toNat = x.2.1 ∧ scP σ n x 88 n.toNat = x.2.2 := by
  unfold scP
  refine ⟨?_, ?_, up_s _ _ _ _⟩
  · rw [up_k _ _ (by decide), up_k _ _ (by decide), up_s]
  · rw [up_k _ _ (by decide), up_s]
theorem scP_Rt (hb : Rb σ) (ht : Rt σ) (n : Int) {p : Int} (hp : 0 ≤ p ∧ p ≤ σ 84 2) : Rt (scP σ n (tkR σ p)) := by
  intro j
  obtain ⟨a1, a2, a3, a4⟩ := tkR_cs hb hp
  have := hb.1
  by_cases c : j = n.toNat
  · subst c
    obtain ⟨q1, q2, q3⟩ := scP_n (σ := σ) n (tkR σ p)
    rw [q1, q2, q3]
    exact ⟨a2, by omega, a1.2.1, by omega⟩
  · rw [scP_j _ _ c, scP_j _ _ c, scP_j _ _ c]; exact ht j
theorem scP_Wf (hb : Rb σ) {n p : Int} (hn : 0 ≤ n) (hp : 0 ≤ p ∧ p ≤ σ 84 2) (hw : ∀ t : Nat, (t : Int) < n → WfT σ t) : ∀ t : Nat, (t : Int) < n + 1 → WfT (scP σ n (tkR σ p)) t := by
  intro t ht
  obtain ⟨a1, a2, a3, a4, a5, a6⟩ := tkR_cs hb hp
  have e85 : scP σ n (tkR σ p) 85 = σ 85 := scP_o _ _ (by decide)
  unfold WfT
  rw [e85]
  by_cases c : t = n.toNat
  · subst c
    obtain ⟨q1, q2, q3⟩ := scP_n (σ := σ) n (tkR σ p)
    rw [q1, q2, q3]
    refine ⟨fun z => ?_, fun z => ?_, a6⟩
    · have := a4 z
      exact ⟨a3 (by omega), this.1, this.2⟩
    · have := a5 z
      exact ⟨a3 (by omega), this.1, this.2⟩
  · rw [scP_j _ _ c, scP_j _ _ c, scP_j _ _ c]
    exact hw t (by omega)
/-- what holds behind a scan -/
def ScD (σ τ : Sg) (e : Int) : Prop := (∀ k, k ≠ 86 ∧ k ≠ 87 ∧ k ≠ 88 → τ k = σ k) ∧ Rt τ ∧ (0 ≤ e ∧ e ≤ 1500) ∧ τ 86 e.toNat = 0 ∧ ∀ t : Nat, (t : Int) ≤ e → WfT τ t
theorem scF_ok : ∀ (m : Nat) (n p : Int) (σ : Sg), Rb σ → Rt σ → 0 ≤ n → n ≤ p → p ≤ σ 84 2 → σ 84 2 < p + m → (∀ t : Nat, (t : Int) < n → WfT σ t) → ScD σ (scF m n p σ) (scN m n p σ)
  | 0, n, p, σ, hb, ht, h0, h1, h2, h3, hw => by omega
  | m + 1, n, p, σ, hb, ht, h0, h1, h2, h3, hw => by
    have hp : 0 ≤ p ∧ p ≤ σ 84 2 := ⟨by omega, h2⟩
    obtain ⟨a1, a2, a3, -⟩ := tkR_cs hb hp
    have hlen := hb.1
    have w := scP_Wf hb h0 hp hw
    have r := scP_Rt hb ht n hp
    simp only [scF, scN]
    by_cases c : (tkR σ p).1 = 0
    · rw [if_pos c, if_pos c]
      exact ⟨fun k hk => scP_o _ _ hk, r, ⟨h0, by omega⟩, (scP_n _ _).1.trans c, fun t ht2 => w t (by omega)⟩
    · rw [if_neg c, if_neg c]
      have hlt := a3 c
      have e2 : scP σ n (tkR σ p) 84 2 = σ 84 2 := congrFun (scP_o _ _ (by decide)) 2
      have q := scF_ok m (n + 1) (tkR σ p).2.2 (scP σ n (tkR σ p)) (scP_b _ _ _ hb) r (by omega) (by omega) (by rw [e2]; omega) (by rw [e2]; omega) w
      exact ⟨fun k hk => (q.1 k hk).trans (scP_o _ _ hk), q.2⟩
theorem sc_ok (hb : Rb σ) (ht : Rt σ) : ScD σ (scC σ) (scE σ) := scF_ok 1501 0 0 σ hb ht (by omega) (by omega) hb.1.1 (by have := hb.1.2; omega) (fun t ht => by omega)
theorem ten_pos : ∀ r : Nat, (1 : Int) ≤ 10 ^ r
  | 0 => by decide
  | r + 1 => by rw [Int.pow_succ]; have := ten_pos r; omega
theorem nu_bd (lo sz : Int) (hd : ∀ k : Int, lo ≤ k → k < sz → 48 ≤ σ 85 k.toNat ∧ σ 85 k.toNat ≤ 57) : ∀ (r n : Nat) (i a : Int), lo ≤ i → sz ≤ i + r → r ≤ n → 0 ≤ a → 0 ≤ fW sz (nuG σ) n i a ∧ fW sz (nuG σ) n i a + 1 ≤ (a + 1) * 10 ^ r
  | 0, n, i, a, h0, h1, h2, h3 => by
    have : fW sz (nuG σ) n i a = a := by
      cases n with
      | zero => rfl
      | succ n => rw [fW_s, if_neg (by omega)]
    rw [this]; simp; omega
  | r + 1, n, i, a, h0, h1, h2, h3 => by
    obtain ⟨n, rfl⟩ : ∃ q, n = q + 1 := ⟨n - 1, by omega⟩
    have hp : (1 : Int) ≤ 10 ^ r := ten_pos r
    have e10 : (10 : Int) ^ (r + 1) = 10 * 10 ^ r := by rw [Int.pow_succ, Int.mul_comm]
    rw [fW_s]
    by_cases c : i < sz
    · rw [if_pos c]
      have hk := hd i h0 c
      have ea : nuG σ i a = 10 * a + σ 85 i.toNat - 48 := rfl
      obtain ⟨q1, q2⟩ := nu_bd lo sz hd r n (i + 1) (nuG σ i a) (by omega) (by omega) (by omega) (by rw [ea]; omega)
      refine ⟨q1, Int.le_trans q2 ?_⟩
      rw [e10, ← Int.mul_assoc]
      exact Int.mul_le_mul_of_nonneg_right (by rw [ea]; omega) (by omega)
    · rw [if_neg c]
      refine ⟨h3, ?_⟩
      rw [e10, ← Int.mul_assoc]
      have : (a + 1) * 1 ≤ (a + 1) * 10 * 10 ^ r := Int.mul_le_mul (by omega) hp (by decide) (by omega)
      omega
theorem dig_rng {c : Int} (hc : 0 ≤ c ∧ c ≤ 255) (h : isDig c = true) : 48 ≤ c ∧ c ≤ 57 := by
  have h2 := of_decide_eq_true h
  rw [i32_n c (by omega)] at h2
  exact h2
theorem let_rng {c : Int} (hc : 0 ≤ c ∧ c ≤ 255) (h : isLet c = true) : 97 ≤ c ∧ c ≤ 122 := by
  have h2 := of_decide_eq_true h
  rw [i32_n c (by omega)] at h2
  exact h2
theorem nuV_bd (hb : Rb σ) (ht : Rt σ) {t : Nat} (hw : WfT σ t) (h2 : σ 86 t = 2) : 0 ≤ nuV σ t ∧ nuV σ t ≤ 9999 := by
  obtain ⟨a1, a2, a3⟩ := hw.2.1 h2
  have q := nu_bd (σ := σ) (σ 87 t) (σ 88 t) (fun k k1 k2 => dig_rng (hb.2 _) (a3 k k1 k2)) 4 1500 (σ 87 t) 0 (Int.le_refl _) (by omega) (by decide) (by decide)
  have q2 : nuV σ t + 1 ≤ (0 + 1) * 10 ^ 4 := q.2
  exact ⟨q.1, by omega⟩
theorem FmH_of {τ : Sg} {e : Int} (hb : Rb τ) (ht : Rt τ) (he : 0 ≤ e ∧ e ≤ 1500) (hz : τ 86 e.toNat = 0) (hw : ∀ t : Nat, (t : Int) ≤ e → WfT τ t) : FmH τ e := by
  refine ⟨hb, ht, he, hz, fun t h => ⟨fun k1 => ?_, fun k3 => (hw t h).2.2 k3⟩⟩
  obtain ⟨a1, a2, a3⟩ := (hw t h).1 k1
  exact a3 (τ 87 t) (by omega) (by omega)
/-- the tokens' numbers, names and places -/
def Kx (τ : Sg) (e : Int) : Int → Int := KR τ e
def Vx (τ : Sg) (t : Int) : Int := nmV τ t.toNat
def Nx (τ : Sg) (t : Int) : Int := nuV τ t.toNat
def Sx (τ : Sg) (t : Int) : Int := τ 87 t.toNat
theorem Tk_of {τ : Sg} {e : Int} (hb : Rb τ) (ht : Rt τ) (he : 0 ≤ e ∧ e ≤ 1500) (hz : τ 86 e.toNat = 0) (hw : ∀ t : Nat, (t : Int) ≤ e → WfT τ t) (h9 : 0 ≤ τ 84 9 ∧ τ 84 9 ≤ 1500) : Tk τ e (KR τ e) (Vx τ) (Nx τ) (Sx τ) := by
  refine ⟨FmH_of hb ht he hz hw, rfl, fun t _ _ => ⟨rfl, rfl, rfl⟩, fun t h => ?_, h9⟩
  by_cases c : 0 ≤ t ∧ t ≤ e
  · rw [KR_in c, kdR_num] at h
    exact nuV_bd hb ht (hw _ (by omega)) h
  · unfold KR at h; rw [if_neg c] at h; exact absurd h (by decide)
end S45
