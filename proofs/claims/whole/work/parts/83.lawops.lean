/-! a step of the law: what class and reference answer in one world -/
section S83
variable {σ : Sg}
def Uniq (Es : List String) : Prop := ∀ (i j : Nat) (E : String), Es[i]? = some E → Es[j]? = some E → i = j
theorem Uniq_1 (E : String) : Uniq [E] := by
  intro i j F hi hj
  rcases i with _ | i
  · rcases j with _ | j
    · rfl
    · cases hj
  · cases hi
theorem Uniq_2 {E F : String} (h : E ≠ F) : Uniq [E, F] := by
  intro i j D hi hj
  rcases i with _ | _ | i
  · rcases j with _ | _ | j
    · rfl
    · exact absurd ((Option.some.inj hi).trans (Option.some.inj hj).symm) h
    · cases hj
  · rcases j with _ | _ | j
    · exact absurd ((Option.some.inj hj).trans (Option.some.inj hi).symm) h
    · rfl
    · cases hj
  · cases hi
theorem uq_plan : Uniq [IAE, ISE] := Uniq_2 (by unfold IAE ISE; decide)
theorem uq_set : Uniq [IOO, ISE] := Uniq_2 (by unfold IOO ISE; decide)
theorem uq_exc : Uniq [IOO, IAE] := Uniq_2 (by unfold IOO IAE; decide)
theorem ok_S {s1 : Sg} (T : Sg → Sg) (h : Rel σ σ) (hop : ∀ τ, Rel σ τ → Rel s1 (T τ)) (hc : ∀ k, 84 ≤ k → s1 k = σ k) (hr : ∀ τ, Rel σ τ → ∀ k, k < 84 ∨ 111 < k → T τ k = τ k) (s2 : Sg) (h2 : ∀ k, k < 112 → s2 k = s1 k) : Rel σ s2 ∧ Rel (T s2) (T s2) := by
  have r1 : Rel σ s2 := h.cg2 (fun k hk => by rw [h2 k hk.2, hc k hk.1])
  exact ⟨r1, (hop s2 r1).cg1 (fun k hk => by rw [hr s2 r1 k (Or.inl hk), h2 k (by omega)])⟩
def OkI (σ : Sg) (Es : List String) (O : Rs) (s1 : Sg) (V : Sg → Int) (T : Sg → Sg) : Prop := ∃ (kv : Int) (s2 : Sg), wI Es O s1 kv s2 ∧ Rel σ s2 ∧ T s2 84 0 = kv ∧ (0 ≤ kv ∧ kv ≤ (Es.length : Int)) ∧ (kv = 0 → T s2 112 0 = i32 (V s2)) ∧ Rel (T s2) (T s2)
theorem ok_I {Es : List String} {O : Rs} {s1 : Sg} (V : Sg → Int) (T : Sg → Sg) (h : Rel σ σ) (hE : Uniq Es) (hop : ∀ τ, Rel σ τ → OpI Es O (V τ) (T τ 84 0) ∧ Rel s1 (T τ)) (hc : ∀ k, 84 ≤ k → s1 k = σ k) (hr : ∀ τ, Rel σ τ → ∀ k, k < 84 ∨ 111 < k → T τ k = τ k) : OkI σ Es O s1 V T := by
  have hs := ok_S T h (fun τ ht => (hop τ ht).2) hc hr
  rcases (hop σ h).1 with ⟨x, hO, -, -⟩ | ⟨i, E, hi, hO, -⟩
  · obtain ⟨r1, r2⟩ := hs (up s1 112 0 (i32 x)) (fun k hk => up_r _ _ _ (by omega))
    refine ⟨0, up s1 112 0 (i32 x), Or.inl ⟨x, hO, rfl, rfl⟩, r1, ?_⟩
    rcases (hop _ r1).1 with ⟨x', hO', th, hx⟩ | ⟨i, E, hi, hO', th⟩
    · refine ⟨th, ⟨Int.le_refl _, by omega⟩, fun _ => ?_, r2⟩
      rw [hr _ r1 112 (Or.inr (by decide)), up_s]
      have e1 : I32 x = I32 x' := Value.int.inj (Option.some.inj (Sum.inl.inj (hO.symm.trans hO')))
      exact congrArg Int32.toInt (e1.trans hx)
    · cases hO.symm.trans hO'
  · obtain ⟨r1, r2⟩ := hs s1 (fun k hk => rfl)
    refine ⟨i + 1, s1, Or.inr ⟨i, E, hi, hO, rfl, rfl⟩, r1, ?_⟩
    rcases (hop _ r1).1 with ⟨x', hO', th, hx⟩ | ⟨j, E', hj, hO', th⟩
    · cases hO.symm.trans hO'
    · obtain rfl : E = E' := Sum.inr.inj (hO.symm.trans hO')
      obtain rfl := hE i j E hi hj
      have hl := (List.getElem?_eq_some_iff.mp hi).1
      exact ⟨th, ⟨by omega, by omega⟩, fun w => by omega, r2⟩
def OkL (σ : Sg) (Es : List String) (O : Rs) (s1 : Sg) (V : Sg → Int) (T : Sg → Sg) : Prop := ∃ (kv : Int) (s2 : Sg), wL Es O s1 kv s2 ∧ Rel σ s2 ∧ T s2 84 0 = kv ∧ (0 ≤ kv ∧ kv ≤ (Es.length : Int)) ∧ (kv = 0 → I64 (T s2 112 0) = I64 (V s2)) ∧ Rel (T s2) (T s2)
theorem ok_L {Es : List String} {O : Rs} {s1 : Sg} (V : Sg → Int) (T : Sg → Sg) (h : Rel σ σ) (hE : Uniq Es) (hop : ∀ τ, Rel σ τ → OpL Es O (V τ) (T τ 84 0) ∧ Rel s1 (T τ)) (hc : ∀ k, 84 ≤ k → s1 k = σ k) (hr : ∀ τ, Rel σ τ → ∀ k, k < 84 ∨ 111 < k → T τ k = τ k) : OkL σ Es O s1 V T := by
  have hs := ok_S T h (fun τ ht => (hop τ ht).2) hc hr
  rcases (hop σ h).1 with ⟨x, hO, -, -⟩ | ⟨i, E, hi, hO, -⟩
  · obtain ⟨r1, r2⟩ := hs (up s1 112 0 x) (fun k hk => up_r _ _ _ (by omega))
    refine ⟨0, up s1 112 0 x, Or.inl ⟨x, hO, rfl, rfl⟩, r1, ?_⟩
    rcases (hop _ r1).1 with ⟨x', hO', th, hx⟩ | ⟨i, E, hi, hO', th⟩
    · refine ⟨th, ⟨Int.le_refl _, by omega⟩, fun _ => ?_, r2⟩
      rw [hr _ r1 112 (Or.inr (by decide)), up_s]
      have e1 : I64 x = I64 x' := Value.long.inj (Option.some.inj (Sum.inl.inj (hO.symm.trans hO')))
      exact e1.trans hx
    · cases hO.symm.trans hO'
  · obtain ⟨r1, r2⟩ := hs s1 (fun k hk => rfl)
    refine ⟨i + 1, s1, Or.inr ⟨i, E, hi, hO, rfl, rfl⟩, r1, ?_⟩
    rcases (hop _ r1).1 with ⟨x', hO', th, hx⟩ | ⟨j, E', hj, hO', th⟩
    · cases hO.symm.trans hO'
    · obtain rfl : E = E' := Sum.inr.inj (hO.symm.trans hO')
      obtain rfl := hE i j E hi hj
      have hl := (List.getElem?_eq_some_iff.mp hi).1
      exact ⟨th, ⟨by omega, by omega⟩, fun w => by omega, r2⟩
theorem ok_feed (h : Rel σ σ) (a b c d e : Int) : OkI σ [ISE] (feO σ a b c d e) (feS σ a b c d e) (fun τ => fdV τ a b c d e) (fun τ => fdS τ a b c d e) := ok_I (fun τ => fdV τ a b c d e) (fun τ => fdS τ a b c d e) h (Uniq_1 ISE) (fun τ ht => ht.feed a b c d e) (fun k hk => feS_c hk a b c d e) (fun τ _ k hk => fdR_r hk a b c d e)
theorem ok_trim (h : Rel σ σ) {a : Int} (ha : inr a) : OkI σ [IAE] (trO σ a) (trS σ a) (fun τ => tmVR τ a) (fun τ => tmS τ a) := ok_I (fun τ => tmVR τ a) (fun τ => tmS τ a) h (Uniq_1 IAE) (fun τ ht => ht.trim ha) (fun k hk => trS_c hk a) (fun τ _ k hk => tmR_r hk a)
theorem ok_count (h : Rel σ σ) {a : Int} (ha : inr a) : OkI σ [IOO] (coO σ a) σ (fun τ => oqV (inR a 0 7) (cnV (up τ 84 0 0) a)) (fun τ => oqS (inR a 0 7) τ) := ok_I (fun τ => oqV (inR a 0 7) (cnV (up τ 84 0 0) a)) (fun τ => oqS (inR a 0 7) τ) h (Uniq_1 IOO) (fun τ ht => ⟨ht.count ha, ht.oq _⟩) (fun k hk => rfl) (fun τ _ k hk => oq_r hk _)
theorem ok_food (h : Rel σ σ) {a b : Int} (ha : inr a) (hb : inr b) : OkI σ [IOO] (fdO σ a b) σ (fun τ => oqV (inR a 0 (τ 84 10 - 1) && inR b 0 2) (fT (up τ 84 0 0) a b)) (fun τ => oqS (inR a 0 (τ 84 10 - 1) && inR b 0 2) τ) := ok_I (fun τ => oqV (inR a 0 (τ 84 10 - 1) && inR b 0 2) (fT (up τ 84 0 0) a b)) (fun τ => oqS (inR a 0 (τ 84 10 - 1) && inR b 0 2) τ) h (Uniq_1 IOO) (fun τ ht => ⟨ht.food ha hb, ht.oq _⟩) (fun k hk => rfl) (fun τ _ k hk => oq_r hk _)
theorem ok_dish (h : Rel σ σ) {a b : Int} (ha : inr a) (hb : inr b) : OkI σ [IOO] (diO σ a b) σ (fun τ => oqV (inR a 0 (τ 84 15 - 1) && inR b 0 4) (dT (up τ 84 0 0) a b)) (fun τ => oqS (inR a 0 (τ 84 15 - 1) && inR b 0 4) τ) := ok_I (fun τ => oqV (inR a 0 (τ 84 15 - 1) && inR b 0 4) (dT (up τ 84 0 0) a b)) (fun τ => oqS (inR a 0 (τ 84 15 - 1) && inR b 0 4) τ) h (Uniq_1 IOO) (fun τ ht => ⟨ht.dish ha hb, ht.oq _⟩) (fun k hk => rfl) (fun τ _ k hk => oq_r hk _)
theorem ok_rule (h : Rel σ σ) {a b : Int} (ha : inr a) (hb : inr b) : OkI σ [IOO] (ruO σ a b) σ (fun τ => oqV (inR a 0 (τ 84 30 - 1) && inR b 0 3) (rT (up τ 84 0 0) a b)) (fun τ => oqS (inR a 0 (τ 84 30 - 1) && inR b 0 3) τ) := ok_I (fun τ => oqV (inR a 0 (τ 84 30 - 1) && inR b 0 3) (rT (up τ 84 0 0) a b)) (fun τ => oqS (inR a 0 (τ 84 30 - 1) && inR b 0 3) τ) h (Uniq_1 IOO) (fun τ ht => ⟨ht.rule ha hb, ht.oq _⟩) (fun k hk => rfl) (fun τ _ k hk => oq_r hk _)
theorem ok_grams (h : Rel σ σ) {a b : Int} (ha : inr a) (hb : inr b) : OkI σ [IOO] (gmO σ a b) σ (fun τ => oqV (inR a 0 (τ 84 15 - 1) && inR b 0 (τ 84 10 - 1)) (τ 99 (16 * a + b).toNat)) (fun τ => oqS (inR a 0 (τ 84 15 - 1) && inR b 0 (τ 84 10 - 1)) τ) := ok_I (fun τ => oqV (inR a 0 (τ 84 15 - 1) && inR b 0 (τ 84 10 - 1)) (τ 99 (16 * a + b).toNat)) (fun τ => oqS (inR a 0 (τ 84 15 - 1) && inR b 0 (τ 84 10 - 1)) τ) h (Uniq_1 IOO) (fun τ ht => ⟨ht.grams ha hb, ht.oq _⟩) (fun k hk => rfl) (fun τ _ k hk => oq_r hk _)
theorem ok_choice (h : Rel σ σ) {a : Int} (ha : inr a) (p : Bool) : OkI σ [IOO] (chO σ a p) σ (fun τ => oqV (isC τ a) (if p = true then τ 101 a.toNat else τ 102 a.toNat)) (fun τ => oqS (isC τ a) τ) := ok_I (fun τ => oqV (isC τ a) (if p = true then τ 101 a.toNat else τ 102 a.toNat)) (fun τ => oqS (isC τ a) τ) h (Uniq_1 IOO) (fun τ ht => ⟨ht.choice (p := p) ha, ht.oq _⟩) (fun k hk => rfl) (fun τ _ k hk => oq_r hk _)
theorem ok_plan (h : Rel σ σ) {a : Int} (ha : inr a) : OkI σ [IAE, ISE] (plO σ a) (plS σ a) (fun τ => plRV τ a) (fun τ => plRS τ a) := ok_I (fun τ => plRV τ a) (fun τ => plRS τ a) h uq_plan (fun τ ht => ht.plan ha) (fun k hk => plS_c hk a) (fun τ _ k hk => plR_r hk a)
theorem ok_at (h : Rel σ σ) {a b : Int} (ha : inr a) (hb : inr b) : OkI σ [IOO] (atO σ a b) σ (fun τ => oqV (isD τ a && isC τ b) (dA (up τ 84 0 0) a b)) (fun τ => oqS (isD τ a && isC τ b) τ) := ok_I (fun τ => oqV (isD τ a && isC τ b) (dA (up τ 84 0 0) a b)) (fun τ => oqS (isD τ a && isC τ b) τ) h (Uniq_1 IOO) (fun τ ht => ⟨ht.at ha hb, ht.oq _⟩) (fun k hk => rfl) (fun τ _ k hk => oq_r hk _)
theorem ok_set (h : Rel σ σ) {a b c : Int} (ha : inr a) (hb : inr b) (hc : inr c) : OkI σ [IOO, ISE] (seO σ a b c) (seS σ a b c) (fun τ => seRV τ a b c) (fun τ => seRS τ a b c) := ok_I (fun τ => seRV τ a b c) (fun τ => seRS τ a b c) h uq_set (fun τ ht => ht.set ha hb hc) (fun k hk => seS_c hk a b c) (fun τ _ k hk => seR_r hk a b c)
theorem ok_faultsOf (h : Rel σ σ) {a : Int} (ha : inr a) : OkI σ [IOO] (foO σ a) σ (fun τ => oqV (inR a 0 (τ 84 30 - 1)) (ruV (up τ 84 0 0) a)) (fun τ => oqS (inR a 0 (τ 84 30 - 1)) τ) := ok_I (fun τ => oqV (inR a 0 (τ 84 30 - 1)) (ruV (up τ 84 0 0) a)) (fun τ => oqS (inR a 0 (τ 84 30 - 1)) τ) h (Uniq_1 IOO) (fun τ ht => ⟨ht.faultsOf ha, ht.oq _⟩) (fun k hk => rfl) (fun τ _ k hk => oq_r hk _)
theorem ok_exchange (h : Rel σ σ) {a b : Int} (ha : inr a) (hb : inr b) : OkI σ [IOO, IAE] (xcO σ a b) (xcS σ a b) (fun τ => exRV τ a b) (fun τ => exRS τ a b) := ok_I (fun τ => exRV τ a b) (fun τ => exRS τ a b) h uq_exc (fun τ ht => ht.exchange ha hb) (fun k hk => xcS_c hk a b) (fun τ _ k hk => exR_r hk a b)
theorem ok_day (h : Rel σ σ) {a : Int} (ha : inr a) (p : Bool) : OkI σ [IOO] (dyO σ a p) σ (fun τ => oqV (isD τ a) (suV2 (up τ 84 0 0) a p)) (fun τ => oqS (isD τ a) τ) := ok_I (fun τ => oqV (isD τ a) (suV2 (up τ 84 0 0) a p)) (fun τ => oqS (isD τ a) τ) h (Uniq_1 IOO) (fun τ ht => ⟨ht.day (p := p) ha, ht.oq _⟩) (fun k hk => rfl) (fun τ _ k hk => oq_r hk _)
theorem ok_times (h : Rel σ σ) {a : Int} (ha : inr a) : OkI σ [IOO] (tmO σ a) σ (fun τ => oqV (inR a 0 (τ 84 15 - 1)) (tiV (up τ 84 0 0) a)) (fun τ => oqS (inR a 0 (τ 84 15 - 1)) τ) := ok_I (fun τ => oqV (inR a 0 (τ 84 15 - 1)) (tiV (up τ 84 0 0) a)) (fun τ => oqS (inR a 0 (τ 84 15 - 1)) τ) h (Uniq_1 IOO) (fun τ ht => ⟨ht.times ha, ht.oq _⟩) (fun k hk => rfl) (fun τ _ k hk => oq_r hk _)
theorem ok_buy (h : Rel σ σ) {a b : Int} (ha : inr a) (hb : inr b) : OkL σ [IOO, IAE] (byO σ a b) σ (fun τ => buRV τ a b) (fun τ => up τ 84 0 (buT τ a b)) := ok_L (fun τ => buRV τ a b) (fun τ => up τ 84 0 (buT τ a b)) h uq_exc (fun τ ht => ht.buy ha hb) (fun k hk => rfl) (fun τ _ k hk => up_r _ _ _ (by omega))
/-- calls without a throw -/
theorem ok_0 {v w : Int} {s1 : Sg} (T : Sg → Sg) (h : Rel σ σ) (hop : ∀ τ, Rel σ τ → Rel s1 (T τ)) (hc : ∀ k, 84 ≤ k → s1 k = σ k) (hr : ∀ τ, Rel σ τ → ∀ k, k < 84 ∨ 111 < k → T τ k = τ k) : Rel σ s1 ∧ Rel (T s1) (T s1) := ok_S T h hop hc hr s1 (fun _ _ => rfl)
theorem Rel.len (h : Rel σ σ) : i32 (σ 1 1) ≤ 1500 := by
  have h8 := h.2.2.2.2.2.2.2.1.1
  have hb := h.2.2.2.2.2.2.2.2.1.1.1
  rw [h8, i32_n _ (by omega)]; omega
theorem Rel.dishes (h : Rel σ σ) : i32 (σ 12 2) ≤ 16 := by
  have hN := h.1.1.2.1
  rw [h.2.2.1.1.2.1, i32_n _ (by omega)]; omega
/-! rows of the frame of the law -/
variable {l : Launch} {G : Gx} {f : Fm} {own : String} {cc : ByteArray} {nL : Nat} {rt : Option FieldType} {b : Nat × Nat × Nat} {Q : State → Prop} {xs : va_W} {k n pc : Nat} {lv : List (Nat × Value)} {rest : List Value}
/-- the script: where it lies, its length, its ints -/
def Scr (f : Fm) (bA L : Nat) (X : Nat → Int32) : Prop := va_X bA L X (fs f) (fs f).heap ∧ bA < (fs f).heap.size ∧ ¬ fA f bA
theorem A_sld {bA L : Nat} {X : Nat → Int32} {j : Int} (h : Scr f bA L X) (h0 : 0 ≤ j) (h1 : j < L) (hL : L ≤ 2147483647) (d : decode cc pc = .ok (.iaload, 1)) (g : AW l G f (own, cc, nL, rt) b Q xs k n (pc + 1) lv (.int (I32 (X j.toNat).toInt) :: rest) σ) : AW l G f (own, cc, nL, rt) b Q xs k n pc lv (.int (I32 j) :: .ref bA :: rest) σ := fun ok H locs ls hl hP hD hS => by
  obtain ⟨c1, c2⟩ := I32_clamp h0 h1 hL
  refine va_sld ok.1 ok.2.1 h.1 h.2.1 h.2.2 hS c1 d ?_
  rw [c2, ← I32_of (X j.toNat)]
  exact g ok H locs ls hl hP hD hS
theorem A_slen {bA L : Nat} {X : Nat → Int32} (h : Scr f bA L X) (d : decode cc pc = .ok (.arraylength, 1)) (g : AW l G f (own, cc, nL, rt) b Q xs k n (pc + 1) lv (.int (I32 (L : Int)) :: rest) σ) : AW l G f (own, cc, nL, rt) b Q xs k n pc lv (.ref bA :: rest) σ := fun ok H locs ls hl hP hD hS => by
  refine va_slen ok.1 ok.2.1 h.1 h.2.1 h.2.2 hS d ?_
  exact g ok H locs ls hl hP hD hS
theorem A_dload {i : Nat} {x : UInt64} (d : decode cc pc = .ok (.dload i, 2)) (q : Nat) (h : lv[q]? = some (i, .double x)) (g : AW l G f (own, cc, nL, rt) b Q xs k n (pc + 2) lv (.double x :: rest) σ) : AW l G f (own, cc, nL, rt) b Q xs k n (pc) lv (rest) σ := fun ok H locs ls hl hP hD hS => lv_dload ok.1 ok.2.1 d (lv_get hl h) (g ok H locs ls hl hP hD hS)
theorem A_dstore {i : Nat} {x : UInt64} {lv2 : List (Nat × Value)} (d : decode cc pc = .ok (.dstore i, 2)) (hn : i + 1 < nL) (hv : (i, Value.double x) :: lv.filter (fun q => !(q.1 == i) && (!(q.1 == i + 1) && !(q.1 + 1 == i && q.2.category == 2))) = lv2) (g : AW l G f (own, cc, nL, rt) b Q xs k n (pc + 2) lv2 (rest) σ) : AW l G f (own, cc, nL, rt) b Q xs k n (pc) lv (.double x :: rest) σ := fun ok H locs ls hl hP hD hS => lv_dstore ok.1 ok.2.1 d hl hn hv (fun ls hl => g ok H locs ls hl hP hD hS)
theorem dcv_01 (x : UInt64) : ∃ z : Int, (z = 0 ∨ z = -1) ∧ Op.cmpValue (FP.dcmp x x) .l = I32 z := by
  rw [show FP.dcmp x x = FP.Core.dcmp x x from rfl]
  by_cases h : FP.Core.val64 x = FP.Core.Datum.nan
  · refine ⟨-1, Or.inr rfl, ?_⟩
    rw [(FP.Core.dcmp_none x x).mpr (Or.inl h)]
    rfl
  · refine ⟨0, Or.inl rfl, ?_⟩
    rw [FP.Core.dcmp_self h]
    rfl
theorem A_dcmp {x y : UInt64} {z : Int} (d : decode cc pc = .ok (.dcmp .l, 1)) (h : Op.cmpValue (FP.dcmp x y) .l = I32 z) (g : AW l G f (own, cc, nL, rt) b Q xs k n (pc + 1) lv (.int (I32 z) :: rest) σ) : AW l G f (own, cc, nL, rt) b Q xs k n pc lv (.double y :: .double x :: rest) σ := fun ok H locs ls hl hP hD hS => lv_dcmp ok.1 ok.2.1 d (by rw [h]; exact g ok H locs ls hl hP hD hS)
end S83
