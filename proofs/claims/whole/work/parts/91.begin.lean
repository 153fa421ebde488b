/-! the beginning of the law: printed by program (wip/whole/gen/ctor.py) -/
section S91
variable {l : Launch} {G : Gx}
def posL : List Nat := [0, 1, 2, 3, 4, 5, 6, 7, 8, 9, 10, 11, 12, 13, 14, 15, 16, 17, 18, 19, 20, 21, 22, 23, 24, 25, 26, 27, 28, 29, 30, 31, 48, 49, 32, 33, 34, 35, 36, 37, 38, 39, 40, 41, 42, 43, 44, 45, 46, 47, 50, 51, 52, 53, 54, 55, 56, 71, 80, 81, 82, 57, 58, 59, 60, 61, 62, 63, 64, 65, 66, 67, 68, 69, 70, 72, 73, 74, 75, 76, 77, 78, 79, 83, 84, 85, 86, 87, 88, 89, 90, 91, 92, 93, 94, 95, 96, 97, 98, 99, 100, 101, 102, 103, 104, 105, 106, 107, 108, 109, 110, 111, 112]
theorem pos_inj : ∀ i, i < 113 → ∀ j, j < 113 → posL.getD i 0 = posL.getD j 0 → i = j := by decide +kernel
/-- what the cells hold at the beginning -/
def s0 : Sg := fun k j => if k = 4 then kwZ j else if k = 0 then (if j = 8 then -1 else 0) else if k = 10 then (if j = 1 then 16 else 0) else if k = 12 then (if j = 1 then 16 else 0) else if k = 14 then (if j = 1 then 4 else 0) else if k = 16 then (if j = 1 then 16 else 0) else if k = 84 then (if j = 4 then -1 else 0) else 0
theorem kwZ_ok : ∀ i, i < 17 → kwZ i = kwv i := by decide +kernel
theorem Rel_s0 : Rel s0 s0 := by
  refine Rel_zero ⟨rfl, rfl, rfl, rfl, rfl, rfl⟩ (fun j hj => ?_) (fun i hi => kwZ_ok i hi) ⟨rfl, rfl, rfl, rfl⟩ rfl rfl (ByS_0 rfl rfl) ⟨⟨by decide, by decide⟩, fun j => ?_⟩ (fun j => ?_) ⟨by decide, by decide⟩ rfl rfl rfl
  · rcases hj with rfl | rfl | rfl | rfl | rfl | rfl | rfl <;> rfl
  · show 0 ≤ (0 : Int) ∧ (0 : Int) ≤ 255
    decide
  · show (0 ≤ (0 : Int) ∧ (0 : Int) ≤ 4) ∧ (0 ≤ (0 : Int) ∧ (0 : Int) ≤ 0 ∧ (0 : Int) ≤ 1500)
    decide
theorem at_R {D : va_G} {cl : List vw_C} {H : Heap} {a N : Nat} {c : ClassId} {f g : Nat → Option Nat} (e : ∀ j, j < N → f j = g j) (h : va_at D cl (a, .inl (c, N, .inr (.inr (.inr (.inr f))))) H) : va_at D cl (a, .inl (c, N, .inr (.inr (.inr (.inr g))))) H := by
  have h : H[a]? = some (arrV c N (fun j => va_rf (f j))) := h
  show H[a]? = some (arrV c N (fun j => va_rf (g j)))
  rw [h]
  unfold arrV
  exact congrArg (fun s => some ({ cls := c, slots := s, vm := .none } : Cell)) (congrArg Array.ofFn (funext fun j => congrArg va_rf (e j.val j.isLt)))
theorem BW_AW {G2 : Gx} {f : Fm} {o : Om} {b : Nat × Nat × Nat} {Q : State → Prop} {xs : va_W} {k n pc : Nat} {lv : List (Nat × Value)} {st : List Value} {σ σ2 : Sg} (pos : Nat → Nat) (hinj : ∀ i j, i < 113 → j < 113 → pos i = pos j → i = j) (hG : FxOk G f o b → FxOk G2 f o b) (hD0 : G.1 = G2.1)
    (h : ∀ k kd, lkL[k]? = some kd → ∃ e, xs[pos k]? = some (lay G2 k, e) ∧ ∀ H : Heap, va_at G2.1 vwCl (lay G2 k, e) H → va_at G2.1 vwCl (lay G2 k, cellOf G2 σ k kd) H) (g : AW l G2 f o b Q [] k n pc lv st σ) : BW l G f o b Q xs k n pc lv st σ2 := by
  intro ok H locs ls hl hP hD hS
  have len : ∀ {k : Nat} {kd : Kd}, lkL[k]? = some kd → k < 113 := fun hk => by
    have := (List.getElem?_eq_some_iff.mp hk).1
    rw [lk_len] at this
    exact this
  refine g (hG ok) H locs ls hl (fun i q hq => ?_) ⟨fun i j p q hp hq e => ?_, fun i q hq => ?_⟩ hS
  · rw [List.append_nil] at hq
    obtain ⟨kd, h1, rfl⟩ := wld_of hq
    obtain ⟨e, h2, h3⟩ := h i kd h1
    have := hP _ _ h2
    rw [hD0] at this
    exact h3 H this
  · rw [List.append_nil] at hp hq
    obtain ⟨kd, h1, rfl⟩ := wld_of hp
    obtain ⟨kd', h1', rfl⟩ := wld_of hq
    obtain ⟨e1, h2, -⟩ := h i kd h1
    obtain ⟨e2, h2', -⟩ := h j kd' h1'
    exact hinj i j (len h1) (len h1') (hD.1 _ _ _ _ h2 h2' e)
  · rw [List.append_nil] at hq
    obtain ⟨kd, h1, rfl⟩ := wld_of hq
    obtain ⟨e1, h2, -⟩ := h i kd h1
    exact hD.2 _ (lay G2 i, e1) h2
/-- a list with its places, by recursion -/
def mi {α β : Type} (f : Nat → α → β) : Nat → List α → List β
  | _, [] => []
  | i, a :: l => f i a :: mi f (i + 1) l
theorem mi_at {α β : Type} (f : Nat → α → β) : ∀ (l : List α) (i j : Nat), (mi f i l)[j]? = l[j]?.map (f (i + j))
  | [], i, j => by simp [mi]
  | a :: l, i, 0 => by simp [mi]
  | a :: l, i, j + 1 => by
    simp only [mi, List.getElem?_cons_succ]
    rw [mi_at f l (i + 1) j, Nat.add_right_comm, Nat.add_assoc]
theorem mapIdx_mi {α β : Type} (f : Nat → α → β) (l : List α) : l.mapIdx f = mi f 0 l := by
  apply List.ext_getElem?
  intro j
  rw [mi_at, List.getElem?_mapIdx, Nat.zero_add]
theorem cellOf_mi {G : Gx} {σ : Sg} {k ci : Nat} {cs : List Nat} : cellOf G σ k (.inl (ci, cs)) = .inr (ci, mi (fun j c => fv G σ k j c) 0 cs) := by
  show (.inr (ci, cs.mapIdx (fun j c => fv G σ k j c)) : va_E) = _
  rw [mapIdx_mi]
def WL (G : Gx) (q1 q3 q5 : Nat) (r2 r4 : Nat → Nat) : va_W := [eO q1 10 [.ref (r2 0), .ref (r2 2), .ref (r2 7), .ref (r2 8), .ref (r2 49), .ref (r2 50), .ref (r2 54), .ref (r2 82), .int (I32 (-1)), .int (I32 0)], eO (r2 0) 8 [.ref (r2 1), .int (I32 0)], eB G (r2 1) 1500, eO (r2 2) 9 [.ref (r2 3), .ref (r2 4), .ref (r2 5), .ref (r2 6), .int (I32 0)], kwE G (r2 3), eI G (r2 4) 1501, eI G (r2 5) 1501, eL G (r2 6) 1501, eO (r2 7) 1 [.ref (r2 2), .int (I32 0), .int (I32 0)], eO (r2 8) 6 [.ref (r2 9), .ref (r2 11), .ref (r2 13), .ref (r2 15), .ref (r2 17), .ref (r2 22), .ref (r2 23), .ref (r2 24), .ref (r2 25), .ref (r2 26), .ref (r2 27), .ref (r2 28), .ref (r2 29), .ref (r2 30), .ref (r2 47), .ref (r2 48), .int (I32 0)], eO (r2 9) 4 [.ref (r2 10), .int (I32 16), .int (I32 0)], eL G (r2 10) 16, eO (r2 11) 4 [.ref (r2 12), .int (I32 16), .int (I32 0)], eL G (r2 12) 16, eO (r2 13) 4 [.ref (r2 14), .int (I32 4), .int (I32 0)], eL G (r2 14) 16, eO (r2 15) 4 [.ref (r2 16), .int (I32 16), .int (I32 0)], eL G (r2 16) 16, eO (r2 17) 7 [.ref (r2 18), .ref (r2 19), .ref (r2 20), .ref (r2 21), .int (I32 0)], eI G (r2 18) 8, eI G (r2 19) 8, eI G (r2 20) 8, eI G (r2 21) 8, eI G (r2 22) 16, eI G (r2 23) 16, eI G (r2 24) 16, eI G (r2 25) 16, eI G (r2 26) 16, eI G (r2 27) 16, eI G (r2 28) 16, eI G (r2 29) 16, eR G (r2 30) 16 (fun i => ([(r2 31), (r2 32), (r2 33), (r2 34), (r2 35), (r2 36), (r2 37), (r2 38), (r2 39), (r2 40), (r2 41), (r2 42), (r2 43), (r2 44), (r2 45), (r2 46)] : List Nat).getD i 0), eI G (r2 31) 16, eI G (r2 32) 16, eI G (r2 33) 16, eI G (r2 34) 16, eI G (r2 35) 16, eI G (r2 36) 16, eI G (r2 37) 16, eI G (r2 38) 16, eI G (r2 39) 16, eI G (r2 40) 16, eI G (r2 41) 16, eI G (r2 42) 16, eI G (r2 43) 16, eI G (r2 44) 16, eI G (r2 45) 16, eI G (r2 46) 16, eI G (r2 47) 8, eI G (r2 48) 8, eO (r2 49) 0 [.ref (r2 2), .ref (r2 8), .int (I32 0), .int (I32 0)], eO (r2 50) 2 [.ref (r2 2), .ref (r2 8), .ref (r2 49), .ref (r2 51), .ref (r2 52), .ref (r2 53), .int (I32 0), .int (I32 0), .int (I32 0), .int (I32 0), .int (I32 0), .long (I64 0), .long (I64 0)], eI G (r2 51) 8, eI G (r2 52) 8, eI G (r2 53) 8, eO (r2 54) 3 [.ref (r2 8), .ref (r2 55), .ref (r2 70), .ref (r2 79), .ref (r2 80), .ref (r2 81), .int (I32 0), .int (I32 0)], eR G (r2 55) 14 (fun i => ([(r2 56), (r2 57), (r2 58), (r2 59), (r2 60), (r2 61), (r2 62), (r2 63), (r2 64), (r2 65), (r2 66), (r2 67), (r2 68), (r2 69)] : List Nat).getD i 0), eI G (r2 56) 8, eI G (r2 57) 8, eI G (r2 58) 8, eI G (r2 59) 8, eI G (r2 60) 8, eI G (r2 61) 8, eI G (r2 62) 8, eI G (r2 63) 8, eI G (r2 64) 8, eI G (r2 65) 8, eI G (r2 66) 8, eI G (r2 67) 8, eI G (r2 68) 8, eI G (r2 69) 8, eR G (r2 70) 8 (fun i => ([(r2 71), (r2 72), (r2 73), (r2 74), (r2 75), (r2 76), (r2 77), (r2 78)] : List Nat).getD i 0), eI G (r2 71) 14, eI G (r2 72) 14, eI G (r2 73) 14, eI G (r2 74) 14, eI G (r2 75) 14, eI G (r2 76) 14, eI G (r2 77) 14, eI G (r2 78) 14, eI G (r2 79) 14, eI G (r2 80) 16, eI G (r2 81) 8, eO (r2 82) 5 [.ref (r2 8), .ref (r2 54)], eO q3 11 [.int (I32 0), .ref (r4 0), .int (I32 0), .int (I32 0), .int (I32 (-1)), .ref (r4 1), .ref (r4 2), .ref (r4 3), .int (I32 0), .int (I32 0), .int (I32 0), .ref (r4 4), .ref (r4 5), .ref (r4 6), .ref (r4 7), .int (I32 0), .ref (r4 8), .ref (r4 9), .ref (r4 10), .ref (r4 11), .ref (r4 12), .ref (r4 13), .ref (r4 14), .int (I32 0), .ref (r4 15), .int (I32 0), .ref (r4 16), .ref (r4 17), .ref (r4 18), .ref (r4 19), .int (I32 0), .ref (r4 20), .ref (r4 21), .ref (r4 22), .ref (r4 23), .ref (r4 24), .int (I32 0), .ref (r4 25), .int (I32 0), .int (I32 0), .ref (r4 26)], eI G (r4 0) 1500, eI G (r4 1) 1501, eI G (r4 2) 1501, eI G (r4 3) 1501, eL G (r4 4) 16, eI G (r4 5) 16, eI G (r4 6) 16, eI G (r4 7) 16, eL G (r4 8) 16, eI G (r4 9) 16, eL G (r4 10) 16, eL G (r4 11) 16, eI G (r4 12) 16, eI G (r4 13) 16, eL G (r4 14) 256, eL G (r4 15) 4, eI G (r4 16) 8, eI G (r4 17) 8, eI G (r4 18) 8, eI G (r4 19) 8, eI G (r4 20) 8, eI G (r4 21) 8, eI G (r4 22) 8, eI G (r4 23) 8, eI G (r4 24) 8, eL G (r4 25) 16, eI G (r4 26) 112, eL G q5 1]
def LY (q1 q3 q5 : Nat) (r2 r4 : Nat → Nat) : Nat → Nat := fun k => ([q1, (r2 0), (r2 1), (r2 2), (r2 3), (r2 4), (r2 5), (r2 6), (r2 7), (r2 8), (r2 9), (r2 10), (r2 11), (r2 12), (r2 13), (r2 14), (r2 15), (r2 16), (r2 17), (r2 18), (r2 19), (r2 20), (r2 21), (r2 22), (r2 23), (r2 24), (r2 25), (r2 26), (r2 27), (r2 28), (r2 29), (r2 30), (r2 47), (r2 48), (r2 31), (r2 32), (r2 33), (r2 34), (r2 35), (r2 36), (r2 37), (r2 38), (r2 39), (r2 40), (r2 41), (r2 42), (r2 43), (r2 44), (r2 45), (r2 46), (r2 49), (r2 50), (r2 51), (r2 52), (r2 53), (r2 54), (r2 55), (r2 70), (r2 79), (r2 80), (r2 81), (r2 56), (r2 57), (r2 58), (r2 59), (r2 60), (r2 61), (r2 62), (r2 63), (r2 64), (r2 65), (r2 66), (r2 67), (r2 68), (r2 69), (r2 71), (r2 72), (r2 73), (r2 74), (r2 75), (r2 76), (r2 77), (r2 78), (r2 82), q3, (r4 0), (r4 1), (r4 2), (r4 3), (r4 4), (r4 5), (r4 6), (r4 7), (r4 8), (r4 9), (r4 10), (r4 11), (r4 12), (r4 13), (r4 14), (r4 15), (r4 16), (r4 17), (r4 18), (r4 19), (r4 20), (r4 21), (r4 22), (r4 23), (r4 24), (r4 25), (r4 26), q5] : List Nat).getD k 0
def GL (G : Gx) (q1 q3 q5 : Nat) (r2 r4 : Nat → Nat) : Gx := (G.1, G.2.1, LY q1 q3 q5 r2 r4, G.2.2.2.1, G.2.2.2.2)
set_option maxRecDepth 100000 in
set_option maxHeartbeats 4000000 in
theorem wq_0 (G : Gx) (q1 q3 q5 : Nat) (r2 r4 : Nat → Nat) : ∃ e, (WL G q1 q3 q5 r2 r4)[0]? = some (q1, e) ∧ ∀ H : Heap, va_at G.1 vwCl (q1, e) H → va_at G.1 vwCl (q1, cellOf (GL G q1 q3 q5 r2 r4) s0 0 (.inl (10, [3, 5, 10, 11, 52, 53, 57, 85, 0, 0]))) H := ⟨_, rfl, fun H h => by rw [cellOf_mi]; exact h⟩
set_option maxRecDepth 100000 in
set_option maxHeartbeats 4000000 in
theorem wq_1 (G : Gx) (q1 q3 q5 : Nat) (r2 r4 : Nat → Nat) : ∃ e, (WL G q1 q3 q5 r2 r4)[1]? = some ((r2 0), e) ∧ ∀ H : Heap, va_at G.1 vwCl ((r2 0), e) H → va_at G.1 vwCl ((r2 0), cellOf (GL G q1 q3 q5 r2 r4) s0 1 (.inl (8, [4, 0]))) H := ⟨_, rfl, fun H h => by rw [cellOf_mi]; exact h⟩
set_option maxRecDepth 100000 in
set_option maxHeartbeats 4000000 in
theorem wq_2 (G : Gx) (q1 q3 q5 : Nat) (r2 r4 : Nat → Nat) : ∃ e, (WL G q1 q3 q5 r2 r4)[2]? = some ((r2 1), e) ∧ ∀ H : Heap, va_at G.1 vwCl ((r2 1), e) H → va_at G.1 vwCl ((r2 1), cellOf (GL G q1 q3 q5 r2 r4) s0 2 (.inr (0, 1500, 0))) H := ⟨_, rfl, fun H h => h⟩
set_option maxRecDepth 100000 in
set_option maxHeartbeats 4000000 in
theorem wq_3 (G : Gx) (q1 q3 q5 : Nat) (r2 r4 : Nat → Nat) : ∃ e, (WL G q1 q3 q5 r2 r4)[3]? = some ((r2 2), e) ∧ ∀ H : Heap, va_at G.1 vwCl ((r2 2), e) H → va_at G.1 vwCl ((r2 2), cellOf (GL G q1 q3 q5 r2 r4) s0 3 (.inl (9, [6, 7, 8, 9, 0]))) H := ⟨_, rfl, fun H h => by rw [cellOf_mi]; exact h⟩
set_option maxRecDepth 100000 in
set_option maxHeartbeats 4000000 in
theorem wq_4 (G : Gx) (q1 q3 q5 : Nat) (r2 r4 : Nat → Nat) : ∃ e, (WL G q1 q3 q5 r2 r4)[4]? = some ((r2 3), e) ∧ ∀ H : Heap, va_at G.1 vwCl ((r2 3), e) H → va_at G.1 vwCl ((r2 3), cellOf (GL G q1 q3 q5 r2 r4) s0 4 (.inr (2, 17, 0))) H := ⟨_, rfl, fun H h => h⟩
set_option maxRecDepth 100000 in
set_option maxHeartbeats 4000000 in
theorem wq_5 (G : Gx) (q1 q3 q5 : Nat) (r2 r4 : Nat → Nat) : ∃ e, (WL G q1 q3 q5 r2 r4)[5]? = some ((r2 4), e) ∧ ∀ H : Heap, va_at G.1 vwCl ((r2 4), e) H → va_at G.1 vwCl ((r2 4), cellOf (GL G q1 q3 q5 r2 r4) s0 5 (.inr (1, 1501, 0))) H := ⟨_, rfl, fun H h => h⟩
set_option maxRecDepth 100000 in
set_option maxHeartbeats 4000000 in
theorem wq_6 (G : Gx) (q1 q3 q5 : Nat) (r2 r4 : Nat → Nat) : ∃ e, (WL G q1 q3 q5 r2 r4)[6]? = some ((r2 5), e) ∧ ∀ H : Heap, va_at G.1 vwCl ((r2 5), e) H → va_at G.1 vwCl ((r2 5), cellOf (GL G q1 q3 q5 r2 r4) s0 6 (.inr (1, 1501, 0))) H := ⟨_, rfl, fun H h => h⟩
set_option maxRecDepth 100000 in
set_option maxHeartbeats 4000000 in
theorem wq_7 (G : Gx) (q1 q3 q5 : Nat) (r2 r4 : Nat → Nat) : ∃ e, (WL G q1 q3 q5 r2 r4)[7]? = some ((r2 6), e) ∧ ∀ H : Heap, va_at G.1 vwCl ((r2 6), e) H → va_at G.1 vwCl ((r2 6), cellOf (GL G q1 q3 q5 r2 r4) s0 7 (.inr (2, 1501, 0))) H := ⟨_, rfl, fun H h => h⟩
set_option maxRecDepth 100000 in
set_option maxHeartbeats 4000000 in
theorem wq_8 (G : Gx) (q1 q3 q5 : Nat) (r2 r4 : Nat → Nat) : ∃ e, (WL G q1 q3 q5 r2 r4)[8]? = some ((r2 7), e) ∧ ∀ H : Heap, va_at G.1 vwCl ((r2 7), e) H → va_at G.1 vwCl ((r2 7), cellOf (GL G q1 q3 q5 r2 r4) s0 8 (.inl (1, [5, 0, 0]))) H := ⟨_, rfl, fun H h => by rw [cellOf_mi]; exact h⟩
set_option maxRecDepth 100000 in
set_option maxHeartbeats 4000000 in
theorem wq_9 (G : Gx) (q1 q3 q5 : Nat) (r2 r4 : Nat → Nat) : ∃ e, (WL G q1 q3 q5 r2 r4)[9]? = some ((r2 8), e) ∧ ∀ H : Heap, va_at G.1 vwCl ((r2 8), e) H → va_at G.1 vwCl ((r2 8), cellOf (GL G q1 q3 q5 r2 r4) s0 9 (.inl (6, [12, 14, 16, 18, 20, 25, 26, 27, 28, 29, 30, 31, 32, 33, 34, 35, 0]))) H := ⟨_, rfl, fun H h => by rw [cellOf_mi]; exact h⟩
set_option maxRecDepth 100000 in
set_option maxHeartbeats 4000000 in
theorem wq_10 (G : Gx) (q1 q3 q5 : Nat) (r2 r4 : Nat → Nat) : ∃ e, (WL G q1 q3 q5 r2 r4)[10]? = some ((r2 9), e) ∧ ∀ H : Heap, va_at G.1 vwCl ((r2 9), e) H → va_at G.1 vwCl ((r2 9), cellOf (GL G q1 q3 q5 r2 r4) s0 10 (.inl (4, [13, 0, 0]))) H := ⟨_, rfl, fun H h => by rw [cellOf_mi]; exact h⟩
set_option maxRecDepth 100000 in
set_option maxHeartbeats 4000000 in
theorem wq_11 (G : Gx) (q1 q3 q5 : Nat) (r2 r4 : Nat → Nat) : ∃ e, (WL G q1 q3 q5 r2 r4)[11]? = some ((r2 10), e) ∧ ∀ H : Heap, va_at G.1 vwCl ((r2 10), e) H → va_at G.1 vwCl ((r2 10), cellOf (GL G q1 q3 q5 r2 r4) s0 11 (.inr (2, 16, 0))) H := ⟨_, rfl, fun H h => h⟩
set_option maxRecDepth 100000 in
set_option maxHeartbeats 4000000 in
theorem wq_12 (G : Gx) (q1 q3 q5 : Nat) (r2 r4 : Nat → Nat) : ∃ e, (WL G q1 q3 q5 r2 r4)[12]? = some ((r2 11), e) ∧ ∀ H : Heap, va_at G.1 vwCl ((r2 11), e) H → va_at G.1 vwCl ((r2 11), cellOf (GL G q1 q3 q5 r2 r4) s0 12 (.inl (4, [15, 0, 0]))) H := ⟨_, rfl, fun H h => by rw [cellOf_mi]; exact h⟩
set_option maxRecDepth 100000 in
set_option maxHeartbeats 4000000 in
theorem wq_13 (G : Gx) (q1 q3 q5 : Nat) (r2 r4 : Nat → Nat) : ∃ e, (WL G q1 q3 q5 r2 r4)[13]? = some ((r2 12), e) ∧ ∀ H : Heap, va_at G.1 vwCl ((r2 12), e) H → va_at G.1 vwCl ((r2 12), cellOf (GL G q1 q3 q5 r2 r4) s0 13 (.inr (2, 16, 0))) H := ⟨_, rfl, fun H h => h⟩
set_option maxRecDepth 100000 in
set_option maxHeartbeats 4000000 in
theorem wq_14 (G : Gx) (q1 q3 q5 : Nat) (r2 r4 : Nat → Nat) : ∃ e, (WL G q1 q3 q5 r2 r4)[14]? = some ((r2 13), e) ∧ ∀ H : Heap, va_at G.1 vwCl ((r2 13), e) H → va_at G.1 vwCl ((r2 13), cellOf (GL G q1 q3 q5 r2 r4) s0 14 (.inl (4, [17, 0, 0]))) H := ⟨_, rfl, fun H h => by rw [cellOf_mi]; exact h⟩
set_option maxRecDepth 100000 in
set_option maxHeartbeats 4000000 in
theorem wq_15 (G : Gx) (q1 q3 q5 : Nat) (r2 r4 : Nat → Nat) : ∃ e, (WL G q1 q3 q5 r2 r4)[15]? = some ((r2 14), e) ∧ ∀ H : Heap, va_at G.1 vwCl ((r2 14), e) H → va_at G.1 vwCl ((r2 14), cellOf (GL G q1 q3 q5 r2 r4) s0 15 (.inr (2, 16, 0))) H := ⟨_, rfl, fun H h => h⟩
set_option maxRecDepth 100000 in
set_option maxHeartbeats 4000000 in
theorem wq_16 (G : Gx) (q1 q3 q5 : Nat) (r2 r4 : Nat → Nat) : ∃ e, (WL G q1 q3 q5 r2 r4)[16]? = some ((r2 15), e) ∧ ∀ H : Heap, va_at G.1 vwCl ((r2 15), e) H → va_at G.1 vwCl ((r2 15), cellOf (GL G q1 q3 q5 r2 r4) s0 16 (.inl (4, [19, 0, 0]))) H := ⟨_, rfl, fun H h => by rw [cellOf_mi]; exact h⟩
set_option maxRecDepth 100000 in
set_option maxHeartbeats 4000000 in
theorem wq_17 (G : Gx) (q1 q3 q5 : Nat) (r2 r4 : Nat → Nat) : ∃ e, (WL G q1 q3 q5 r2 r4)[17]? = some ((r2 16), e) ∧ ∀ H : Heap, va_at G.1 vwCl ((r2 16), e) H → va_at G.1 vwCl ((r2 16), cellOf (GL G q1 q3 q5 r2 r4) s0 17 (.inr (2, 16, 0))) H := ⟨_, rfl, fun H h => h⟩
set_option maxRecDepth 100000 in
set_option maxHeartbeats 4000000 in
theorem wq_18 (G : Gx) (q1 q3 q5 : Nat) (r2 r4 : Nat → Nat) : ∃ e, (WL G q1 q3 q5 r2 r4)[18]? = some ((r2 17), e) ∧ ∀ H : Heap, va_at G.1 vwCl ((r2 17), e) H → va_at G.1 vwCl ((r2 17), cellOf (GL G q1 q3 q5 r2 r4) s0 18 (.inl (7, [21, 22, 23, 24, 0]))) H := ⟨_, rfl, fun H h => by rw [cellOf_mi]; exact h⟩
set_option maxRecDepth 100000 in
set_option maxHeartbeats 4000000 in
theorem wq_19 (G : Gx) (q1 q3 q5 : Nat) (r2 r4 : Nat → Nat) : ∃ e, (WL G q1 q3 q5 r2 r4)[19]? = some ((r2 18), e) ∧ ∀ H : Heap, va_at G.1 vwCl ((r2 18), e) H → va_at G.1 vwCl ((r2 18), cellOf (GL G q1 q3 q5 r2 r4) s0 19 (.inr (1, 8, 0))) H := ⟨_, rfl, fun H h => h⟩
set_option maxRecDepth 100000 in
set_option maxHeartbeats 4000000 in
theorem wq_20 (G : Gx) (q1 q3 q5 : Nat) (r2 r4 : Nat → Nat) : ∃ e, (WL G q1 q3 q5 r2 r4)[20]? = some ((r2 19), e) ∧ ∀ H : Heap, va_at G.1 vwCl ((r2 19), e) H → va_at G.1 vwCl ((r2 19), cellOf (GL G q1 q3 q5 r2 r4) s0 20 (.inr (1, 8, 0))) H := ⟨_, rfl, fun H h => h⟩
set_option maxRecDepth 100000 in
set_option maxHeartbeats 4000000 in
theorem wq_21 (G : Gx) (q1 q3 q5 : Nat) (r2 r4 : Nat → Nat) : ∃ e, (WL G q1 q3 q5 r2 r4)[21]? = some ((r2 20), e) ∧ ∀ H : Heap, va_at G.1 vwCl ((r2 20), e) H → va_at G.1 vwCl ((r2 20), cellOf (GL G q1 q3 q5 r2 r4) s0 21 (.inr (1, 8, 0))) H := ⟨_, rfl, fun H h => h⟩
set_option maxRecDepth 100000 in
set_option maxHeartbeats 4000000 in
theorem wq_22 (G : Gx) (q1 q3 q5 : Nat) (r2 r4 : Nat → Nat) : ∃ e, (WL G q1 q3 q5 r2 r4)[22]? = some ((r2 21), e) ∧ ∀ H : Heap, va_at G.1 vwCl ((r2 21), e) H → va_at G.1 vwCl ((r2 21), cellOf (GL G q1 q3 q5 r2 r4) s0 22 (.inr (1, 8, 0))) H := ⟨_, rfl, fun H h => h⟩
set_option maxRecDepth 100000 in
set_option maxHeartbeats 4000000 in
theorem wq_23 (G : Gx) (q1 q3 q5 : Nat) (r2 r4 : Nat → Nat) : ∃ e, (WL G q1 q3 q5 r2 r4)[23]? = some ((r2 22), e) ∧ ∀ H : Heap, va_at G.1 vwCl ((r2 22), e) H → va_at G.1 vwCl ((r2 22), cellOf (GL G q1 q3 q5 r2 r4) s0 23 (.inr (1, 16, 0))) H := ⟨_, rfl, fun H h => h⟩
set_option maxRecDepth 100000 in
set_option maxHeartbeats 4000000 in
theorem wq_24 (G : Gx) (q1 q3 q5 : Nat) (r2 r4 : Nat → Nat) : ∃ e, (WL G q1 q3 q5 r2 r4)[24]? = some ((r2 23), e) ∧ ∀ H : Heap, va_at G.1 vwCl ((r2 23), e) H → va_at G.1 vwCl ((r2 23), cellOf (GL G q1 q3 q5 r2 r4) s0 24 (.inr (1, 16, 0))) H := ⟨_, rfl, fun H h => h⟩
set_option maxRecDepth 100000 in
set_option maxHeartbeats 4000000 in
theorem wq_25 (G : Gx) (q1 q3 q5 : Nat) (r2 r4 : Nat → Nat) : ∃ e, (WL G q1 q3 q5 r2 r4)[25]? = some ((r2 24), e) ∧ ∀ H : Heap, va_at G.1 vwCl ((r2 24), e) H → va_at G.1 vwCl ((r2 24), cellOf (GL G q1 q3 q5 r2 r4) s0 25 (.inr (1, 16, 0))) H := ⟨_, rfl, fun H h => h⟩
set_option maxRecDepth 100000 in
set_option maxHeartbeats 4000000 in
theorem wq_26 (G : Gx) (q1 q3 q5 : Nat) (r2 r4 : Nat → Nat) : ∃ e, (WL G q1 q3 q5 r2 r4)[26]? = some ((r2 25), e) ∧ ∀ H : Heap, va_at G.1 vwCl ((r2 25), e) H → va_at G.1 vwCl ((r2 25), cellOf (GL G q1 q3 q5 r2 r4) s0 26 (.inr (1, 16, 0))) H := ⟨_, rfl, fun H h => h⟩
set_option maxRecDepth 100000 in
set_option maxHeartbeats 4000000 in
theorem wq_27 (G : Gx) (q1 q3 q5 : Nat) (r2 r4 : Nat → Nat) : ∃ e, (WL G q1 q3 q5 r2 r4)[27]? = some ((r2 26), e) ∧ ∀ H : Heap, va_at G.1 vwCl ((r2 26), e) H → va_at G.1 vwCl ((r2 26), cellOf (GL G q1 q3 q5 r2 r4) s0 27 (.inr (1, 16, 0))) H := ⟨_, rfl, fun H h => h⟩
set_option maxRecDepth 100000 in
set_option maxHeartbeats 4000000 in
theorem wq_28 (G : Gx) (q1 q3 q5 : Nat) (r2 r4 : Nat → Nat) : ∃ e, (WL G q1 q3 q5 r2 r4)[28]? = some ((r2 27), e) ∧ ∀ H : Heap, va_at G.1 vwCl ((r2 27), e) H → va_at G.1 vwCl ((r2 27), cellOf (GL G q1 q3 q5 r2 r4) s0 28 (.inr (1, 16, 0))) H := ⟨_, rfl, fun H h => h⟩
set_option maxRecDepth 100000 in
set_option maxHeartbeats 4000000 in
theorem wq_29 (G : Gx) (q1 q3 q5 : Nat) (r2 r4 : Nat → Nat) : ∃ e, (WL G q1 q3 q5 r2 r4)[29]? = some ((r2 28), e) ∧ ∀ H : Heap, va_at G.1 vwCl ((r2 28), e) H → va_at G.1 vwCl ((r2 28), cellOf (GL G q1 q3 q5 r2 r4) s0 29 (.inr (1, 16, 0))) H := ⟨_, rfl, fun H h => h⟩
set_option maxRecDepth 100000 in
set_option maxHeartbeats 4000000 in
theorem wq_30 (G : Gx) (q1 q3 q5 : Nat) (r2 r4 : Nat → Nat) : ∃ e, (WL G q1 q3 q5 r2 r4)[30]? = some ((r2 29), e) ∧ ∀ H : Heap, va_at G.1 vwCl ((r2 29), e) H → va_at G.1 vwCl ((r2 29), cellOf (GL G q1 q3 q5 r2 r4) s0 30 (.inr (1, 16, 0))) H := ⟨_, rfl, fun H h => h⟩
set_option maxRecDepth 100000 in
set_option maxHeartbeats 4000000 in
theorem wq_31 (G : Gx) (q1 q3 q5 : Nat) (r2 r4 : Nat → Nat) : ∃ e, (WL G q1 q3 q5 r2 r4)[31]? = some ((r2 30), e) ∧ ∀ H : Heap, va_at G.1 vwCl ((r2 30), e) H → va_at G.1 vwCl ((r2 30), cellOf (GL G q1 q3 q5 r2 r4) s0 31 (.inr (3, 16, 34))) H := ⟨_, rfl, fun H h => at_R (fun j hj => match j, hj with | 0, _ => rfl | 1, _ => rfl | 2, _ => rfl | 3, _ => rfl | 4, _ => rfl | 5, _ => rfl | 6, _ => rfl | 7, _ => rfl | 8, _ => rfl | 9, _ => rfl | 10, _ => rfl | 11, _ => rfl | 12, _ => rfl | 13, _ => rfl | 14, _ => rfl | 15, _ => rfl | j + 16, h => absurd h (by omega)) h⟩
set_option maxRecDepth 100000 in
set_option maxHeartbeats 4000000 in
theorem wq_32 (G : Gx) (q1 q3 q5 : Nat) (r2 r4 : Nat → Nat) : ∃ e, (WL G q1 q3 q5 r2 r4)[48]? = some ((r2 47), e) ∧ ∀ H : Heap, va_at G.1 vwCl ((r2 47), e) H → va_at G.1 vwCl ((r2 47), cellOf (GL G q1 q3 q5 r2 r4) s0 32 (.inr (1, 8, 0))) H := ⟨_, rfl, fun H h => h⟩
set_option maxRecDepth 100000 in
set_option maxHeartbeats 4000000 in
theorem wq_33 (G : Gx) (q1 q3 q5 : Nat) (r2 r4 : Nat → Nat) : ∃ e, (WL G q1 q3 q5 r2 r4)[49]? = some ((r2 48), e) ∧ ∀ H : Heap, va_at G.1 vwCl ((r2 48), e) H → va_at G.1 vwCl ((r2 48), cellOf (GL G q1 q3 q5 r2 r4) s0 33 (.inr (1, 8, 0))) H := ⟨_, rfl, fun H h => h⟩
set_option maxRecDepth 100000 in
set_option maxHeartbeats 4000000 in
theorem wq_34 (G : Gx) (q1 q3 q5 : Nat) (r2 r4 : Nat → Nat) : ∃ e, (WL G q1 q3 q5 r2 r4)[32]? = some ((r2 31), e) ∧ ∀ H : Heap, va_at G.1 vwCl ((r2 31), e) H → va_at G.1 vwCl ((r2 31), cellOf (GL G q1 q3 q5 r2 r4) s0 34 (.inr (1, 16, 0))) H := ⟨_, rfl, fun H h => h⟩
set_option maxRecDepth 100000 in
set_option maxHeartbeats 4000000 in
theorem wq_35 (G : Gx) (q1 q3 q5 : Nat) (r2 r4 : Nat → Nat) : ∃ e, (WL G q1 q3 q5 r2 r4)[33]? = some ((r2 32), e) ∧ ∀ H : Heap, va_at G.1 vwCl ((r2 32), e) H → va_at G.1 vwCl ((r2 32), cellOf (GL G q1 q3 q5 r2 r4) s0 35 (.inr (1, 16, 0))) H := ⟨_, rfl, fun H h => h⟩
set_option maxRecDepth 100000 in
set_option maxHeartbeats 4000000 in
theorem wq_36 (G : Gx) (q1 q3 q5 : Nat) (r2 r4 : Nat → Nat) : ∃ e, (WL G q1 q3 q5 r2 r4)[34]? = some ((r2 33), e) ∧ ∀ H : Heap, va_at G.1 vwCl ((r2 33), e) H → va_at G.1 vwCl ((r2 33), cellOf (GL G q1 q3 q5 r2 r4) s0 36 (.inr (1, 16, 0))) H := ⟨_, rfl, fun H h => h⟩
set_option maxRecDepth 100000 in
set_option maxHeartbeats 4000000 in
theorem wq_37 (G : Gx) (q1 q3 q5 : Nat) (r2 r4 : Nat → Nat) : ∃ e, (WL G q1 q3 q5 r2 r4)[35]? = some ((r2 34), e) ∧ ∀ H : Heap, va_at G.1 vwCl ((r2 34), e) H → va_at G.1 vwCl ((r2 34), cellOf (GL G q1 q3 q5 r2 r4) s0 37 (.inr (1, 16, 0))) H := ⟨_, rfl, fun H h => h⟩
set_option maxRecDepth 100000 in
set_option maxHeartbeats 4000000 in
theorem wq_38 (G : Gx) (q1 q3 q5 : Nat) (r2 r4 : Nat → Nat) : ∃ e, (WL G q1 q3 q5 r2 r4)[36]? = some ((r2 35), e) ∧ ∀ H : Heap, va_at G.1 vwCl ((r2 35), e) H → va_at G.1 vwCl ((r2 35), cellOf (GL G q1 q3 q5 r2 r4) s0 38 (.inr (1, 16, 0))) H := ⟨_, rfl, fun H h => h⟩
set_option maxRecDepth 100000 in
set_option maxHeartbeats 4000000 in
theorem wq_39 (G : Gx) (q1 q3 q5 : Nat) (r2 r4 : Nat → Nat) : ∃ e, (WL G q1 q3 q5 r2 r4)[37]? = some ((r2 36), e) ∧ ∀ H : Heap, va_at G.1 vwCl ((r2 36), e) H → va_at G.1 vwCl ((r2 36), cellOf (GL G q1 q3 q5 r2 r4) s0 39 (.inr (1, 16, 0))) H := ⟨_, rfl, fun H h => h⟩
set_option maxRecDepth 100000 in
set_option maxHeartbeats 4000000 in
theorem wq_40 (G : Gx) (q1 q3 q5 : Nat) (r2 r4 : Nat → Nat) : ∃ e, (WL G q1 q3 q5 r2 r4)[38]? = some ((r2 37), e) ∧ ∀ H : Heap, va_at G.1 vwCl ((r2 37), e) H → va_at G.1 vwCl ((r2 37), cellOf (GL G q1 q3 q5 r2 r4) s0 40 (.inr (1, 16, 0))) H := ⟨_, rfl, fun H h => h⟩
set_option maxRecDepth 100000 in
set_option maxHeartbeats 4000000 in
theorem wq_41 (G : Gx) (q1 q3 q5 : Nat) (r2 r4 : Nat → Nat) : ∃ e, (WL G q1 q3 q5 r2 r4)[39]? = some ((r2 38), e) ∧ ∀ H : Heap, va_at G.1 vwCl ((r2 38), e) H → va_at G.1 vwCl ((r2 38), cellOf (GL G q1 q3 q5 r2 r4) s0 41 (.inr (1, 16, 0))) H := ⟨_, rfl, fun H h => h⟩
set_option maxRecDepth 100000 in
set_option maxHeartbeats 4000000 in
theorem wq_42 (G : Gx) (q1 q3 q5 : Nat) (r2 r4 : Nat → Nat) : ∃ e, (WL G q1 q3 q5 r2 r4)[40]? = some ((r2 39), e) ∧ ∀ H : Heap, va_at G.1 vwCl ((r2 39), e) H → va_at G.1 vwCl ((r2 39), cellOf (GL G q1 q3 q5 r2 r4) s0 42 (.inr (1, 16, 0))) H := ⟨_, rfl, fun H h => h⟩
set_option maxRecDepth 100000 in
set_option maxHeartbeats 4000000 in
theorem wq_43 (G : Gx) (q1 q3 q5 : Nat) (r2 r4 : Nat → Nat) : ∃ e, (WL G q1 q3 q5 r2 r4)[41]? = some ((r2 40), e) ∧ ∀ H : Heap, va_at G.1 vwCl ((r2 40), e) H → va_at G.1 vwCl ((r2 40), cellOf (GL G q1 q3 q5 r2 r4) s0 43 (.inr (1, 16, 0))) H := ⟨_, rfl, fun H h => h⟩
set_option maxRecDepth 100000 in
set_option maxHeartbeats 4000000 in
theorem wq_44 (G : Gx) (q1 q3 q5 : Nat) (r2 r4 : Nat → Nat) : ∃ e, (WL G q1 q3 q5 r2 r4)[42]? = some ((r2 41), e) ∧ ∀ H : Heap, va_at G.1 vwCl ((r2 41), e) H → va_at G.1 vwCl ((r2 41), cellOf (GL G q1 q3 q5 r2 r4) s0 44 (.inr (1, 16, 0))) H := ⟨_, rfl, fun H h => h⟩
set_option maxRecDepth 100000 in
set_option maxHeartbeats 4000000 in
theorem wq_45 (G : Gx) (q1 q3 q5 : Nat) (r2 r4 : Nat → Nat) : ∃ e, (WL G q1 q3 q5 r2 r4)[43]? = some ((r2 42), e) ∧ ∀ H : Heap, va_at G.1 vwCl ((r2 42), e) H → va_at G.1 vwCl ((r2 42), cellOf (GL G q1 q3 q5 r2 r4) s0 45 (.inr (1, 16, 0))) H := ⟨_, rfl, fun H h => h⟩
set_option maxRecDepth 100000 in
set_option maxHeartbeats 4000000 in
theorem wq_46 (G : Gx) (q1 q3 q5 : Nat) (r2 r4 : Nat → Nat) : ∃ e, (WL G q1 q3 q5 r2 r4)[44]? = some ((r2 43), e) ∧ ∀ H : Heap, va_at G.1 vwCl ((r2 43), e) H → va_at G.1 vwCl ((r2 43), cellOf (GL G q1 q3 q5 r2 r4) s0 46 (.inr (1, 16, 0))) H := ⟨_, rfl, fun H h => h⟩
set_option maxRecDepth 100000 in
set_option maxHeartbeats 4000000 in
theorem wq_47 (G : Gx) (q1 q3 q5 : Nat) (r2 r4 : Nat → Nat) : ∃ e, (WL G q1 q3 q5 r2 r4)[45]? = some ((r2 44), e) ∧ ∀ H : Heap, va_at G.1 vwCl ((r2 44), e) H → va_at G.1 vwCl ((r2 44), cellOf (GL G q1 q3 q5 r2 r4) s0 47 (.inr (1, 16, 0))) H := ⟨_, rfl, fun H h => h⟩
set_option maxRecDepth 100000 in
set_option maxHeartbeats 4000000 in
theorem wq_48 (G : Gx) (q1 q3 q5 : Nat) (r2 r4 : Nat → Nat) : ∃ e, (WL G q1 q3 q5 r2 r4)[46]? = some ((r2 45), e) ∧ ∀ H : Heap, va_at G.1 vwCl ((r2 45), e) H → va_at G.1 vwCl ((r2 45), cellOf (GL G q1 q3 q5 r2 r4) s0 48 (.inr (1, 16, 0))) H := ⟨_, rfl, fun H h => h⟩
set_option maxRecDepth 100000 in
set_option maxHeartbeats 4000000 in
theorem wq_49 (G : Gx) (q1 q3 q5 : Nat) (r2 r4 : Nat → Nat) : ∃ e, (WL G q1 q3 q5 r2 r4)[47]? = some ((r2 46), e) ∧ ∀ H : Heap, va_at G.1 vwCl ((r2 46), e) H → va_at G.1 vwCl ((r2 46), cellOf (GL G q1 q3 q5 r2 r4) s0 49 (.inr (1, 16, 0))) H := ⟨_, rfl, fun H h => h⟩
set_option maxRecDepth 100000 in
set_option maxHeartbeats 4000000 in
theorem wq_50 (G : Gx) (q1 q3 q5 : Nat) (r2 r4 : Nat → Nat) : ∃ e, (WL G q1 q3 q5 r2 r4)[50]? = some ((r2 49), e) ∧ ∀ H : Heap, va_at G.1 vwCl ((r2 49), e) H → va_at G.1 vwCl ((r2 49), cellOf (GL G q1 q3 q5 r2 r4) s0 50 (.inl (0, [5, 11, 0, 0]))) H := ⟨_, rfl, fun H h => by rw [cellOf_mi]; exact h⟩
set_option maxRecDepth 100000 in
set_option maxHeartbeats 4000000 in
theorem wq_51 (G : Gx) (q1 q3 q5 : Nat) (r2 r4 : Nat → Nat) : ∃ e, (WL G q1 q3 q5 r2 r4)[51]? = some ((r2 50), e) ∧ ∀ H : Heap, va_at G.1 vwCl ((r2 50), e) H → va_at G.1 vwCl ((r2 50), cellOf (GL G q1 q3 q5 r2 r4) s0 51 (.inl (2, [5, 11, 52, 54, 55, 56, 0, 0, 0, 0, 0, 1, 1]))) H := ⟨_, rfl, fun H h => by rw [cellOf_mi]; exact h⟩
set_option maxRecDepth 100000 in
set_option maxHeartbeats 4000000 in
theorem wq_52 (G : Gx) (q1 q3 q5 : Nat) (r2 r4 : Nat → Nat) : ∃ e, (WL G q1 q3 q5 r2 r4)[52]? = some ((r2 51), e) ∧ ∀ H : Heap, va_at G.1 vwCl ((r2 51), e) H → va_at G.1 vwCl ((r2 51), cellOf (GL G q1 q3 q5 r2 r4) s0 52 (.inr (1, 8, 0))) H := ⟨_, rfl, fun H h => h⟩
set_option maxRecDepth 100000 in
set_option maxHeartbeats 4000000 in
theorem wq_53 (G : Gx) (q1 q3 q5 : Nat) (r2 r4 : Nat → Nat) : ∃ e, (WL G q1 q3 q5 r2 r4)[53]? = some ((r2 52), e) ∧ ∀ H : Heap, va_at G.1 vwCl ((r2 52), e) H → va_at G.1 vwCl ((r2 52), cellOf (GL G q1 q3 q5 r2 r4) s0 53 (.inr (1, 8, 0))) H := ⟨_, rfl, fun H h => h⟩
set_option maxRecDepth 100000 in
set_option maxHeartbeats 4000000 in
theorem wq_54 (G : Gx) (q1 q3 q5 : Nat) (r2 r4 : Nat → Nat) : ∃ e, (WL G q1 q3 q5 r2 r4)[54]? = some ((r2 53), e) ∧ ∀ H : Heap, va_at G.1 vwCl ((r2 53), e) H → va_at G.1 vwCl ((r2 53), cellOf (GL G q1 q3 q5 r2 r4) s0 54 (.inr (1, 8, 0))) H := ⟨_, rfl, fun H h => h⟩
set_option maxRecDepth 100000 in
set_option maxHeartbeats 4000000 in
theorem wq_55 (G : Gx) (q1 q3 q5 : Nat) (r2 r4 : Nat → Nat) : ∃ e, (WL G q1 q3 q5 r2 r4)[55]? = some ((r2 54), e) ∧ ∀ H : Heap, va_at G.1 vwCl ((r2 54), e) H → va_at G.1 vwCl ((r2 54), cellOf (GL G q1 q3 q5 r2 r4) s0 55 (.inl (3, [11, 58, 59, 60, 61, 62, 0, 0]))) H := ⟨_, rfl, fun H h => by rw [cellOf_mi]; exact h⟩
set_option maxRecDepth 100000 in
set_option maxHeartbeats 4000000 in
theorem wq_56 (G : Gx) (q1 q3 q5 : Nat) (r2 r4 : Nat → Nat) : ∃ e, (WL G q1 q3 q5 r2 r4)[56]? = some ((r2 55), e) ∧ ∀ H : Heap, va_at G.1 vwCl ((r2 55), e) H → va_at G.1 vwCl ((r2 55), cellOf (GL G q1 q3 q5 r2 r4) s0 56 (.inr (3, 14, 61))) H := ⟨_, rfl, fun H h => at_R (fun j hj => match j, hj with | 0, _ => rfl | 1, _ => rfl | 2, _ => rfl | 3, _ => rfl | 4, _ => rfl | 5, _ => rfl | 6, _ => rfl | 7, _ => rfl | 8, _ => rfl | 9, _ => rfl | 10, _ => rfl | 11, _ => rfl | 12, _ => rfl | 13, _ => rfl | j + 14, h => absurd h (by omega)) h⟩
set_option maxRecDepth 100000 in
set_option maxHeartbeats 4000000 in
theorem wq_57 (G : Gx) (q1 q3 q5 : Nat) (r2 r4 : Nat → Nat) : ∃ e, (WL G q1 q3 q5 r2 r4)[71]? = some ((r2 70), e) ∧ ∀ H : Heap, va_at G.1 vwCl ((r2 70), e) H → va_at G.1 vwCl ((r2 70), cellOf (GL G q1 q3 q5 r2 r4) s0 57 (.inr (3, 8, 75))) H := ⟨_, rfl, fun H h => at_R (fun j hj => match j, hj with | 0, _ => rfl | 1, _ => rfl | 2, _ => rfl | 3, _ => rfl | 4, _ => rfl | 5, _ => rfl | 6, _ => rfl | 7, _ => rfl | j + 8, h => absurd h (by omega)) h⟩
set_option maxRecDepth 100000 in
set_option maxHeartbeats 4000000 in
theorem wq_58 (G : Gx) (q1 q3 q5 : Nat) (r2 r4 : Nat → Nat) : ∃ e, (WL G q1 q3 q5 r2 r4)[80]? = some ((r2 79), e) ∧ ∀ H : Heap, va_at G.1 vwCl ((r2 79), e) H → va_at G.1 vwCl ((r2 79), cellOf (GL G q1 q3 q5 r2 r4) s0 58 (.inr (1, 14, 0))) H := ⟨_, rfl, fun H h => h⟩
set_option maxRecDepth 100000 in
set_option maxHeartbeats 4000000 in
theorem wq_59 (G : Gx) (q1 q3 q5 : Nat) (r2 r4 : Nat → Nat) : ∃ e, (WL G q1 q3 q5 r2 r4)[81]? = some ((r2 80), e) ∧ ∀ H : Heap, va_at G.1 vwCl ((r2 80), e) H → va_at G.1 vwCl ((r2 80), cellOf (GL G q1 q3 q5 r2 r4) s0 59 (.inr (1, 16, 0))) H := ⟨_, rfl, fun H h => h⟩
set_option maxRecDepth 100000 in
set_option maxHeartbeats 4000000 in
theorem wq_60 (G : Gx) (q1 q3 q5 : Nat) (r2 r4 : Nat → Nat) : ∃ e, (WL G q1 q3 q5 r2 r4)[82]? = some ((r2 81), e) ∧ ∀ H : Heap, va_at G.1 vwCl ((r2 81), e) H → va_at G.1 vwCl ((r2 81), cellOf (GL G q1 q3 q5 r2 r4) s0 60 (.inr (1, 8, 0))) H := ⟨_, rfl, fun H h => h⟩
set_option maxRecDepth 100000 in
set_option maxHeartbeats 4000000 in
theorem wq_61 (G : Gx) (q1 q3 q5 : Nat) (r2 r4 : Nat → Nat) : ∃ e, (WL G q1 q3 q5 r2 r4)[57]? = some ((r2 56), e) ∧ ∀ H : Heap, va_at G.1 vwCl ((r2 56), e) H → va_at G.1 vwCl ((r2 56), cellOf (GL G q1 q3 q5 r2 r4) s0 61 (.inr (1, 8, 0))) H := ⟨_, rfl, fun H h => h⟩
set_option maxRecDepth 100000 in
set_option maxHeartbeats 4000000 in
theorem wq_62 (G : Gx) (q1 q3 q5 : Nat) (r2 r4 : Nat → Nat) : ∃ e, (WL G q1 q3 q5 r2 r4)[58]? = some ((r2 57), e) ∧ ∀ H : Heap, va_at G.1 vwCl ((r2 57), e) H → va_at G.1 vwCl ((r2 57), cellOf (GL G q1 q3 q5 r2 r4) s0 62 (.inr (1, 8, 0))) H := ⟨_, rfl, fun H h => h⟩
set_option maxRecDepth 100000 in
set_option maxHeartbeats 4000000 in
theorem wq_63 (G : Gx) (q1 q3 q5 : Nat) (r2 r4 : Nat → Nat) : ∃ e, (WL G q1 q3 q5 r2 r4)[59]? = some ((r2 58), e) ∧ ∀ H : Heap, va_at G.1 vwCl ((r2 58), e) H → va_at G.1 vwCl ((r2 58), cellOf (GL G q1 q3 q5 r2 r4) s0 63 (.inr (1, 8, 0))) H := ⟨_, rfl, fun H h => h⟩
set_option maxRecDepth 100000 in
set_option maxHeartbeats 4000000 in
theorem wq_64 (G : Gx) (q1 q3 q5 : Nat) (r2 r4 : Nat → Nat) : ∃ e, (WL G q1 q3 q5 r2 r4)[60]? = some ((r2 59), e) ∧ ∀ H : Heap, va_at G.1 vwCl ((r2 59), e) H → va_at G.1 vwCl ((r2 59), cellOf (GL G q1 q3 q5 r2 r4) s0 64 (.inr (1, 8, 0))) H := ⟨_, rfl, fun H h => h⟩
set_option maxRecDepth 100000 in
set_option maxHeartbeats 4000000 in
theorem wq_65 (G : Gx) (q1 q3 q5 : Nat) (r2 r4 : Nat → Nat) : ∃ e, (WL G q1 q3 q5 r2 r4)[61]? = some ((r2 60), e) ∧ ∀ H : Heap, va_at G.1 vwCl ((r2 60), e) H → va_at G.1 vwCl ((r2 60), cellOf (GL G q1 q3 q5 r2 r4) s0 65 (.inr (1, 8, 0))) H := ⟨_, rfl, fun H h => h⟩
set_option maxRecDepth 100000 in
set_option maxHeartbeats 4000000 in
theorem wq_66 (G : Gx) (q1 q3 q5 : Nat) (r2 r4 : Nat → Nat) : ∃ e, (WL G q1 q3 q5 r2 r4)[62]? = some ((r2 61), e) ∧ ∀ H : Heap, va_at G.1 vwCl ((r2 61), e) H → va_at G.1 vwCl ((r2 61), cellOf (GL G q1 q3 q5 r2 r4) s0 66 (.inr (1, 8, 0))) H := ⟨_, rfl, fun H h => h⟩
set_option maxRecDepth 100000 in
set_option maxHeartbeats 4000000 in
theorem wq_67 (G : Gx) (q1 q3 q5 : Nat) (r2 r4 : Nat → Nat) : ∃ e, (WL G q1 q3 q5 r2 r4)[63]? = some ((r2 62), e) ∧ ∀ H : Heap, va_at G.1 vwCl ((r2 62), e) H → va_at G.1 vwCl ((r2 62), cellOf (GL G q1 q3 q5 r2 r4) s0 67 (.inr (1, 8, 0))) H := ⟨_, rfl, fun H h => h⟩
set_option maxRecDepth 100000 in
set_option maxHeartbeats 4000000 in
theorem wq_68 (G : Gx) (q1 q3 q5 : Nat) (r2 r4 : Nat → Nat) : ∃ e, (WL G q1 q3 q5 r2 r4)[64]? = some ((r2 63), e) ∧ ∀ H : Heap, va_at G.1 vwCl ((r2 63), e) H → va_at G.1 vwCl ((r2 63), cellOf (GL G q1 q3 q5 r2 r4) s0 68 (.inr (1, 8, 0))) H := ⟨_, rfl, fun H h => h⟩
set_option maxRecDepth 100000 in
set_option maxHeartbeats 4000000 in
theorem wq_69 (G : Gx) (q1 q3 q5 : Nat) (r2 r4 : Nat → Nat) : ∃ e, (WL G q1 q3 q5 r2 r4)[65]? = some ((r2 64), e) ∧ ∀ H : Heap, va_at G.1 vwCl ((r2 64), e) H → va_at G.1 vwCl ((r2 64), cellOf (GL G q1 q3 q5 r2 r4) s0 69 (.inr (1, 8, 0))) H := ⟨_, rfl, fun H h => h⟩
set_option maxRecDepth 100000 in
set_option maxHeartbeats 4000000 in
theorem wq_70 (G : Gx) (q1 q3 q5 : Nat) (r2 r4 : Nat → Nat) : ∃ e, (WL G q1 q3 q5 r2 r4)[66]? = some ((r2 65), e) ∧ ∀ H : Heap, va_at G.1 vwCl ((r2 65), e) H → va_at G.1 vwCl ((r2 65), cellOf (GL G q1 q3 q5 r2 r4) s0 70 (.inr (1, 8, 0))) H := ⟨_, rfl, fun H h => h⟩
set_option maxRecDepth 100000 in
set_option maxHeartbeats 4000000 in
theorem wq_71 (G : Gx) (q1 q3 q5 : Nat) (r2 r4 : Nat → Nat) : ∃ e, (WL G q1 q3 q5 r2 r4)[67]? = some ((r2 66), e) ∧ ∀ H : Heap, va_at G.1 vwCl ((r2 66), e) H → va_at G.1 vwCl ((r2 66), cellOf (GL G q1 q3 q5 r2 r4) s0 71 (.inr (1, 8, 0))) H := ⟨_, rfl, fun H h => h⟩
set_option maxRecDepth 100000 in
set_option maxHeartbeats 4000000 in
theorem wq_72 (G : Gx) (q1 q3 q5 : Nat) (r2 r4 : Nat → Nat) : ∃ e, (WL G q1 q3 q5 r2 r4)[68]? = some ((r2 67), e) ∧ ∀ H : Heap, va_at G.1 vwCl ((r2 67), e) H → va_at G.1 vwCl ((r2 67), cellOf (GL G q1 q3 q5 r2 r4) s0 72 (.inr (1, 8, 0))) H := ⟨_, rfl, fun H h => h⟩
set_option maxRecDepth 100000 in
set_option maxHeartbeats 4000000 in
theorem wq_73 (G : Gx) (q1 q3 q5 : Nat) (r2 r4 : Nat → Nat) : ∃ e, (WL G q1 q3 q5 r2 r4)[69]? = some ((r2 68), e) ∧ ∀ H : Heap, va_at G.1 vwCl ((r2 68), e) H → va_at G.1 vwCl ((r2 68), cellOf (GL G q1 q3 q5 r2 r4) s0 73 (.inr (1, 8, 0))) H := ⟨_, rfl, fun H h => h⟩
set_option maxRecDepth 100000 in
set_option maxHeartbeats 4000000 in
theorem wq_74 (G : Gx) (q1 q3 q5 : Nat) (r2 r4 : Nat → Nat) : ∃ e, (WL G q1 q3 q5 r2 r4)[70]? = some ((r2 69), e) ∧ ∀ H : Heap, va_at G.1 vwCl ((r2 69), e) H → va_at G.1 vwCl ((r2 69), cellOf (GL G q1 q3 q5 r2 r4) s0 74 (.inr (1, 8, 0))) H := ⟨_, rfl, fun H h => h⟩
set_option maxRecDepth 100000 in
set_option maxHeartbeats 4000000 in
theorem wq_75 (G : Gx) (q1 q3 q5 : Nat) (r2 r4 : Nat → Nat) : ∃ e, (WL G q1 q3 q5 r2 r4)[72]? = some ((r2 71), e) ∧ ∀ H : Heap, va_at G.1 vwCl ((r2 71), e) H → va_at G.1 vwCl ((r2 71), cellOf (GL G q1 q3 q5 r2 r4) s0 75 (.inr (1, 14, 0))) H := ⟨_, rfl, fun H h => h⟩
set_option maxRecDepth 100000 in
set_option maxHeartbeats 4000000 in
theorem wq_76 (G : Gx) (q1 q3 q5 : Nat) (r2 r4 : Nat → Nat) : ∃ e, (WL G q1 q3 q5 r2 r4)[73]? = some ((r2 72), e) ∧ ∀ H : Heap, va_at G.1 vwCl ((r2 72), e) H → va_at G.1 vwCl ((r2 72), cellOf (GL G q1 q3 q5 r2 r4) s0 76 (.inr (1, 14, 0))) H := ⟨_, rfl, fun H h => h⟩
set_option maxRecDepth 100000 in
set_option maxHeartbeats 4000000 in
theorem wq_77 (G : Gx) (q1 q3 q5 : Nat) (r2 r4 : Nat → Nat) : ∃ e, (WL G q1 q3 q5 r2 r4)[74]? = some ((r2 73), e) ∧ ∀ H : Heap, va_at G.1 vwCl ((r2 73), e) H → va_at G.1 vwCl ((r2 73), cellOf (GL G q1 q3 q5 r2 r4) s0 77 (.inr (1, 14, 0))) H := ⟨_, rfl, fun H h => h⟩
set_option maxRecDepth 100000 in
set_option maxHeartbeats 4000000 in
theorem wq_78 (G : Gx) (q1 q3 q5 : Nat) (r2 r4 : Nat → Nat) : ∃ e, (WL G q1 q3 q5 r2 r4)[75]? = some ((r2 74), e) ∧ ∀ H : Heap, va_at G.1 vwCl ((r2 74), e) H → va_at G.1 vwCl ((r2 74), cellOf (GL G q1 q3 q5 r2 r4) s0 78 (.inr (1, 14, 0))) H := ⟨_, rfl, fun H h => h⟩
set_option maxRecDepth 100000 in
set_option maxHeartbeats 4000000 in
theorem wq_79 (G : Gx) (q1 q3 q5 : Nat) (r2 r4 : Nat → Nat) : ∃ e, (WL G q1 q3 q5 r2 r4)[76]? = some ((r2 75), e) ∧ ∀ H : Heap, va_at G.1 vwCl ((r2 75), e) H → va_at G.1 vwCl ((r2 75), cellOf (GL G q1 q3 q5 r2 r4) s0 79 (.inr (1, 14, 0))) H := ⟨_, rfl, fun H h => h⟩
set_option maxRecDepth 100000 in
set_option maxHeartbeats 4000000 in
theorem wq_80 (G : Gx) (q1 q3 q5 : Nat) (r2 r4 : Nat → Nat) : ∃ e, (WL G q1 q3 q5 r2 r4)[77]? = some ((r2 76), e) ∧ ∀ H : Heap, va_at G.1 vwCl ((r2 76), e) H → va_at G.1 vwCl ((r2 76), cellOf (GL G q1 q3 q5 r2 r4) s0 80 (.inr (1, 14, 0))) H := ⟨_, rfl, fun H h => h⟩
set_option maxRecDepth 100000 in
set_option maxHeartbeats 4000000 in
theorem wq_81 (G : Gx) (q1 q3 q5 : Nat) (r2 r4 : Nat → Nat) : ∃ e, (WL G q1 q3 q5 r2 r4)[78]? = some ((r2 77), e) ∧ ∀ H : Heap, va_at G.1 vwCl ((r2 77), e) H → va_at G.1 vwCl ((r2 77), cellOf (GL G q1 q3 q5 r2 r4) s0 81 (.inr (1, 14, 0))) H := ⟨_, rfl, fun H h => h⟩
set_option maxRecDepth 100000 in
set_option maxHeartbeats 4000000 in
theorem wq_82 (G : Gx) (q1 q3 q5 : Nat) (r2 r4 : Nat → Nat) : ∃ e, (WL G q1 q3 q5 r2 r4)[79]? = some ((r2 78), e) ∧ ∀ H : Heap, va_at G.1 vwCl ((r2 78), e) H → va_at G.1 vwCl ((r2 78), cellOf (GL G q1 q3 q5 r2 r4) s0 82 (.inr (1, 14, 0))) H := ⟨_, rfl, fun H h => h⟩
set_option maxRecDepth 100000 in
set_option maxHeartbeats 4000000 in
theorem wq_83 (G : Gx) (q1 q3 q5 : Nat) (r2 r4 : Nat → Nat) : ∃ e, (WL G q1 q3 q5 r2 r4)[83]? = some ((r2 82), e) ∧ ∀ H : Heap, va_at G.1 vwCl ((r2 82), e) H → va_at G.1 vwCl ((r2 82), cellOf (GL G q1 q3 q5 r2 r4) s0 83 (.inl (5, [11, 57]))) H := ⟨_, rfl, fun H h => by rw [cellOf_mi]; exact h⟩
set_option maxRecDepth 100000 in
set_option maxHeartbeats 4000000 in
theorem wq_84 (G : Gx) (q1 q3 q5 : Nat) (r2 r4 : Nat → Nat) : ∃ e, (WL G q1 q3 q5 r2 r4)[84]? = some (q3, e) ∧ ∀ H : Heap, va_at G.1 vwCl (q3, e) H → va_at G.1 vwCl (q3, cellOf (GL G q1 q3 q5 r2 r4) s0 84 (.inl (11, [0, 87, 0, 0, 0, 88, 89, 90, 0, 0, 0, 91, 92, 93, 94, 0, 95, 96, 97, 98, 99, 100, 101, 0, 102, 0, 103, 104, 105, 106, 0, 107, 108, 109, 110, 111, 0, 112, 0, 0, 113]))) H := ⟨_, rfl, fun H h => by rw [cellOf_mi]; exact h⟩
set_option maxRecDepth 100000 in
set_option maxHeartbeats 4000000 in
theorem wq_85 (G : Gx) (q1 q3 q5 : Nat) (r2 r4 : Nat → Nat) : ∃ e, (WL G q1 q3 q5 r2 r4)[85]? = some ((r4 0), e) ∧ ∀ H : Heap, va_at G.1 vwCl ((r4 0), e) H → va_at G.1 vwCl ((r4 0), cellOf (GL G q1 q3 q5 r2 r4) s0 85 (.inr (1, 1500, 0))) H := ⟨_, rfl, fun H h => h⟩
set_option maxRecDepth 100000 in
set_option maxHeartbeats 4000000 in
theorem wq_86 (G : Gx) (q1 q3 q5 : Nat) (r2 r4 : Nat → Nat) : ∃ e, (WL G q1 q3 q5 r2 r4)[86]? = some ((r4 1), e) ∧ ∀ H : Heap, va_at G.1 vwCl ((r4 1), e) H → va_at G.1 vwCl ((r4 1), cellOf (GL G q1 q3 q5 r2 r4) s0 86 (.inr (1, 1501, 0))) H := ⟨_, rfl, fun H h => h⟩
set_option maxRecDepth 100000 in
set_option maxHeartbeats 4000000 in
theorem wq_87 (G : Gx) (q1 q3 q5 : Nat) (r2 r4 : Nat → Nat) : ∃ e, (WL G q1 q3 q5 r2 r4)[87]? = some ((r4 2), e) ∧ ∀ H : Heap, va_at G.1 vwCl ((r4 2), e) H → va_at G.1 vwCl ((r4 2), cellOf (GL G q1 q3 q5 r2 r4) s0 87 (.inr (1, 1501, 0))) H := ⟨_, rfl, fun H h => h⟩
set_option maxRecDepth 100000 in
set_option maxHeartbeats 4000000 in
theorem wq_88 (G : Gx) (q1 q3 q5 : Nat) (r2 r4 : Nat → Nat) : ∃ e, (WL G q1 q3 q5 r2 r4)[88]? = some ((r4 3), e) ∧ ∀ H : Heap, va_at G.1 vwCl ((r4 3), e) H → va_at G.1 vwCl ((r4 3), cellOf (GL G q1 q3 q5 r2 r4) s0 88 (.inr (1, 1501, 0))) H := ⟨_, rfl, fun H h => h⟩
set_option maxRecDepth 100000 in
set_option maxHeartbeats 4000000 in
theorem wq_89 (G : Gx) (q1 q3 q5 : Nat) (r2 r4 : Nat → Nat) : ∃ e, (WL G q1 q3 q5 r2 r4)[89]? = some ((r4 4), e) ∧ ∀ H : Heap, va_at G.1 vwCl ((r4 4), e) H → va_at G.1 vwCl ((r4 4), cellOf (GL G q1 q3 q5 r2 r4) s0 89 (.inr (2, 16, 0))) H := ⟨_, rfl, fun H h => h⟩
set_option maxRecDepth 100000 in
set_option maxHeartbeats 4000000 in
theorem wq_90 (G : Gx) (q1 q3 q5 : Nat) (r2 r4 : Nat → Nat) : ∃ e, (WL G q1 q3 q5 r2 r4)[90]? = some ((r4 5), e) ∧ ∀ H : Heap, va_at G.1 vwCl ((r4 5), e) H → va_at G.1 vwCl ((r4 5), cellOf (GL G q1 q3 q5 r2 r4) s0 90 (.inr (1, 16, 0))) H := ⟨_, rfl, fun H h => h⟩
set_option maxRecDepth 100000 in
set_option maxHeartbeats 4000000 in
theorem wq_91 (G : Gx) (q1 q3 q5 : Nat) (r2 r4 : Nat → Nat) : ∃ e, (WL G q1 q3 q5 r2 r4)[91]? = some ((r4 6), e) ∧ ∀ H : Heap, va_at G.1 vwCl ((r4 6), e) H → va_at G.1 vwCl ((r4 6), cellOf (GL G q1 q3 q5 r2 r4) s0 91 (.inr (1, 16, 0))) H := ⟨_, rfl, fun H h => h⟩
set_option maxRecDepth 100000 in
set_option maxHeartbeats 4000000 in
theorem wq_92 (G : Gx) (q1 q3 q5 : Nat) (r2 r4 : Nat → Nat) : ∃ e, (WL G q1 q3 q5 r2 r4)[92]? = some ((r4 7), e) ∧ ∀ H : Heap, va_at G.1 vwCl ((r4 7), e) H → va_at G.1 vwCl ((r4 7), cellOf (GL G q1 q3 q5 r2 r4) s0 92 (.inr (1, 16, 0))) H := ⟨_, rfl, fun H h => h⟩
set_option maxRecDepth 100000 in
set_option maxHeartbeats 4000000 in
theorem wq_93 (G : Gx) (q1 q3 q5 : Nat) (r2 r4 : Nat → Nat) : ∃ e, (WL G q1 q3 q5 r2 r4)[93]? = some ((r4 8), e) ∧ ∀ H : Heap, va_at G.1 vwCl ((r4 8), e) H → va_at G.1 vwCl ((r4 8), cellOf (GL G q1 q3 q5 r2 r4) s0 93 (.inr (2, 16, 0))) H := ⟨_, rfl, fun H h => h⟩
set_option maxRecDepth 100000 in
set_option maxHeartbeats 4000000 in
theorem wq_94 (G : Gx) (q1 q3 q5 : Nat) (r2 r4 : Nat → Nat) : ∃ e, (WL G q1 q3 q5 r2 r4)[94]? = some ((r4 9), e) ∧ ∀ H : Heap, va_at G.1 vwCl ((r4 9), e) H → va_at G.1 vwCl ((r4 9), cellOf (GL G q1 q3 q5 r2 r4) s0 94 (.inr (1, 16, 0))) H := ⟨_, rfl, fun H h => h⟩
set_option maxRecDepth 100000 in
set_option maxHeartbeats 4000000 in
theorem wq_95 (G : Gx) (q1 q3 q5 : Nat) (r2 r4 : Nat → Nat) : ∃ e, (WL G q1 q3 q5 r2 r4)[95]? = some ((r4 10), e) ∧ ∀ H : Heap, va_at G.1 vwCl ((r4 10), e) H → va_at G.1 vwCl ((r4 10), cellOf (GL G q1 q3 q5 r2 r4) s0 95 (.inr (2, 16, 0))) H := ⟨_, rfl, fun H h => h⟩
set_option maxRecDepth 100000 in
set_option maxHeartbeats 4000000 in
theorem wq_96 (G : Gx) (q1 q3 q5 : Nat) (r2 r4 : Nat → Nat) : ∃ e, (WL G q1 q3 q5 r2 r4)[96]? = some ((r4 11), e) ∧ ∀ H : Heap, va_at G.1 vwCl ((r4 11), e) H → va_at G.1 vwCl ((r4 11), cellOf (GL G q1 q3 q5 r2 r4) s0 96 (.inr (2, 16, 0))) H := ⟨_, rfl, fun H h => h⟩
set_option maxRecDepth 100000 in
set_option maxHeartbeats 4000000 in
theorem wq_97 (G : Gx) (q1 q3 q5 : Nat) (r2 r4 : Nat → Nat) : ∃ e, (WL G q1 q3 q5 r2 r4)[97]? = some ((r4 12), e) ∧ ∀ H : Heap, va_at G.1 vwCl ((r4 12), e) H → va_at G.1 vwCl ((r4 12), cellOf (GL G q1 q3 q5 r2 r4) s0 97 (.inr (1, 16, 0))) H := ⟨_, rfl, fun H h => h⟩
set_option maxRecDepth 100000 in
set_option maxHeartbeats 4000000 in
theorem wq_98 (G : Gx) (q1 q3 q5 : Nat) (r2 r4 : Nat → Nat) : ∃ e, (WL G q1 q3 q5 r2 r4)[98]? = some ((r4 13), e) ∧ ∀ H : Heap, va_at G.1 vwCl ((r4 13), e) H → va_at G.1 vwCl ((r4 13), cellOf (GL G q1 q3 q5 r2 r4) s0 98 (.inr (1, 16, 0))) H := ⟨_, rfl, fun H h => h⟩
set_option maxRecDepth 100000 in
set_option maxHeartbeats 4000000 in
theorem wq_99 (G : Gx) (q1 q3 q5 : Nat) (r2 r4 : Nat → Nat) : ∃ e, (WL G q1 q3 q5 r2 r4)[99]? = some ((r4 14), e) ∧ ∀ H : Heap, va_at G.1 vwCl ((r4 14), e) H → va_at G.1 vwCl ((r4 14), cellOf (GL G q1 q3 q5 r2 r4) s0 99 (.inr (2, 256, 0))) H := ⟨_, rfl, fun H h => h⟩
set_option maxRecDepth 100000 in
set_option maxHeartbeats 4000000 in
theorem wq_100 (G : Gx) (q1 q3 q5 : Nat) (r2 r4 : Nat → Nat) : ∃ e, (WL G q1 q3 q5 r2 r4)[100]? = some ((r4 15), e) ∧ ∀ H : Heap, va_at G.1 vwCl ((r4 15), e) H → va_at G.1 vwCl ((r4 15), cellOf (GL G q1 q3 q5 r2 r4) s0 100 (.inr (2, 4, 0))) H := ⟨_, rfl, fun H h => h⟩
set_option maxRecDepth 100000 in
set_option maxHeartbeats 4000000 in
theorem wq_101 (G : Gx) (q1 q3 q5 : Nat) (r2 r4 : Nat → Nat) : ∃ e, (WL G q1 q3 q5 r2 r4)[101]? = some ((r4 16), e) ∧ ∀ H : Heap, va_at G.1 vwCl ((r4 16), e) H → va_at G.1 vwCl ((r4 16), cellOf (GL G q1 q3 q5 r2 r4) s0 101 (.inr (1, 8, 0))) H := ⟨_, rfl, fun H h => h⟩
set_option maxRecDepth 100000 in
set_option maxHeartbeats 4000000 in
theorem wq_102 (G : Gx) (q1 q3 q5 : Nat) (r2 r4 : Nat → Nat) : ∃ e, (WL G q1 q3 q5 r2 r4)[102]? = some ((r4 17), e) ∧ ∀ H : Heap, va_at G.1 vwCl ((r4 17), e) H → va_at G.1 vwCl ((r4 17), cellOf (GL G q1 q3 q5 r2 r4) s0 102 (.inr (1, 8, 0))) H := ⟨_, rfl, fun H h => h⟩
set_option maxRecDepth 100000 in
set_option maxHeartbeats 4000000 in
theorem wq_103 (G : Gx) (q1 q3 q5 : Nat) (r2 r4 : Nat → Nat) : ∃ e, (WL G q1 q3 q5 r2 r4)[103]? = some ((r4 18), e) ∧ ∀ H : Heap, va_at G.1 vwCl ((r4 18), e) H → va_at G.1 vwCl ((r4 18), cellOf (GL G q1 q3 q5 r2 r4) s0 103 (.inr (1, 8, 0))) H := ⟨_, rfl, fun H h => h⟩
set_option maxRecDepth 100000 in
set_option maxHeartbeats 4000000 in
theorem wq_104 (G : Gx) (q1 q3 q5 : Nat) (r2 r4 : Nat → Nat) : ∃ e, (WL G q1 q3 q5 r2 r4)[104]? = some ((r4 19), e) ∧ ∀ H : Heap, va_at G.1 vwCl ((r4 19), e) H → va_at G.1 vwCl ((r4 19), cellOf (GL G q1 q3 q5 r2 r4) s0 104 (.inr (1, 8, 0))) H := ⟨_, rfl, fun H h => h⟩
set_option maxRecDepth 100000 in
set_option maxHeartbeats 4000000 in
theorem wq_105 (G : Gx) (q1 q3 q5 : Nat) (r2 r4 : Nat → Nat) : ∃ e, (WL G q1 q3 q5 r2 r4)[105]? = some ((r4 20), e) ∧ ∀ H : Heap, va_at G.1 vwCl ((r4 20), e) H → va_at G.1 vwCl ((r4 20), cellOf (GL G q1 q3 q5 r2 r4) s0 105 (.inr (1, 8, 0))) H := ⟨_, rfl, fun H h => h⟩
set_option maxRecDepth 100000 in
set_option maxHeartbeats 4000000 in
theorem wq_106 (G : Gx) (q1 q3 q5 : Nat) (r2 r4 : Nat → Nat) : ∃ e, (WL G q1 q3 q5 r2 r4)[106]? = some ((r4 21), e) ∧ ∀ H : Heap, va_at G.1 vwCl ((r4 21), e) H → va_at G.1 vwCl ((r4 21), cellOf (GL G q1 q3 q5 r2 r4) s0 106 (.inr (1, 8, 0))) H := ⟨_, rfl, fun H h => h⟩
set_option maxRecDepth 100000 in
set_option maxHeartbeats 4000000 in
theorem wq_107 (G : Gx) (q1 q3 q5 : Nat) (r2 r4 : Nat → Nat) : ∃ e, (WL G q1 q3 q5 r2 r4)[107]? = some ((r4 22), e) ∧ ∀ H : Heap, va_at G.1 vwCl ((r4 22), e) H → va_at G.1 vwCl ((r4 22), cellOf (GL G q1 q3 q5 r2 r4) s0 107 (.inr (1, 8, 0))) H := ⟨_, rfl, fun H h => h⟩
set_option maxRecDepth 100000 in
set_option maxHeartbeats 4000000 in
theorem wq_108 (G : Gx) (q1 q3 q5 : Nat) (r2 r4 : Nat → Nat) : ∃ e, (WL G q1 q3 q5 r2 r4)[108]? = some ((r4 23), e) ∧ ∀ H : Heap, va_at G.1 vwCl ((r4 23), e) H → va_at G.1 vwCl ((r4 23), cellOf (GL G q1 q3 q5 r2 r4) s0 108 (.inr (1, 8, 0))) H := ⟨_, rfl, fun H h => h⟩
set_option maxRecDepth 100000 in
set_option maxHeartbeats 4000000 in
theorem wq_109 (G : Gx) (q1 q3 q5 : Nat) (r2 r4 : Nat → Nat) : ∃ e, (WL G q1 q3 q5 r2 r4)[109]? = some ((r4 24), e) ∧ ∀ H : Heap, va_at G.1 vwCl ((r4 24), e) H → va_at G.1 vwCl ((r4 24), cellOf (GL G q1 q3 q5 r2 r4) s0 109 (.inr (1, 8, 0))) H := ⟨_, rfl, fun H h => h⟩
set_option maxRecDepth 100000 in
set_option maxHeartbeats 4000000 in
theorem wq_110 (G : Gx) (q1 q3 q5 : Nat) (r2 r4 : Nat → Nat) : ∃ e, (WL G q1 q3 q5 r2 r4)[110]? = some ((r4 25), e) ∧ ∀ H : Heap, va_at G.1 vwCl ((r4 25), e) H → va_at G.1 vwCl ((r4 25), cellOf (GL G q1 q3 q5 r2 r4) s0 110 (.inr (2, 16, 0))) H := ⟨_, rfl, fun H h => h⟩
set_option maxRecDepth 100000 in
set_option maxHeartbeats 4000000 in
theorem wq_111 (G : Gx) (q1 q3 q5 : Nat) (r2 r4 : Nat → Nat) : ∃ e, (WL G q1 q3 q5 r2 r4)[111]? = some ((r4 26), e) ∧ ∀ H : Heap, va_at G.1 vwCl ((r4 26), e) H → va_at G.1 vwCl ((r4 26), cellOf (GL G q1 q3 q5 r2 r4) s0 111 (.inr (1, 112, 0))) H := ⟨_, rfl, fun H h => h⟩
set_option maxRecDepth 100000 in
set_option maxHeartbeats 4000000 in
theorem wq_112 (G : Gx) (q1 q3 q5 : Nat) (r2 r4 : Nat → Nat) : ∃ e, (WL G q1 q3 q5 r2 r4)[112]? = some (q5, e) ∧ ∀ H : Heap, va_at G.1 vwCl (q5, e) H → va_at G.1 vwCl (q5, cellOf (GL G q1 q3 q5 r2 r4) s0 112 (.inr (2, 1, 0))) H := ⟨_, rfl, fun H h => h⟩
set_option maxRecDepth 100000 in
set_option maxHeartbeats 4000000 in
theorem wq_all (G : Gx) (q1 q3 q5 : Nat) (r2 r4 : Nat → Nat) : ∀ k kd, lkL[k]? = some kd → ∃ e, (WL G q1 q3 q5 r2 r4)[posL.getD k 0]? = some (lay (GL G q1 q3 q5 r2 r4) k, e) ∧ ∀ H : Heap, va_at (GL G q1 q3 q5 r2 r4).1 vwCl (lay (GL G q1 q3 q5 r2 r4) k, e) H → va_at (GL G q1 q3 q5 r2 r4).1 vwCl (lay (GL G q1 q3 q5 r2 r4) k, cellOf (GL G q1 q3 q5 r2 r4) s0 k kd) H := by
  intro k kd hk
  match k, hk with
  | 0, hk => obtain rfl := Option.some.inj (lk_0.symm.trans hk); exact wq_0 G q1 q3 q5 r2 r4
  | 1, hk => obtain rfl := Option.some.inj (lk_1.symm.trans hk); exact wq_1 G q1 q3 q5 r2 r4
  | 2, hk => obtain rfl := Option.some.inj (lk_2.symm.trans hk); exact wq_2 G q1 q3 q5 r2 r4
  | 3, hk => obtain rfl := Option.some.inj (lk_3.symm.trans hk); exact wq_3 G q1 q3 q5 r2 r4
  | 4, hk => obtain rfl := Option.some.inj (lk_4.symm.trans hk); exact wq_4 G q1 q3 q5 r2 r4
  | 5, hk => obtain rfl := Option.some.inj (lk_5.symm.trans hk); exact wq_5 G q1 q3 q5 r2 r4
  | 6, hk => obtain rfl := Option.some.inj (lk_6.symm.trans hk); exact wq_6 G q1 q3 q5 r2 r4
  | 7, hk => obtain rfl := Option.some.inj (lk_7.symm.trans hk); exact wq_7 G q1 q3 q5 r2 r4
  | 8, hk => obtain rfl := Option.some.inj (lk_8.symm.trans hk); exact wq_8 G q1 q3 q5 r2 r4
  | 9, hk => obtain rfl := Option.some.inj (lk_9.symm.trans hk); exact wq_9 G q1 q3 q5 r2 r4
  | 10, hk => obtain rfl := Option.some.inj (lk_10.symm.trans hk); exact wq_10 G q1 q3 q5 r2 r4
  | 11, hk => obtain rfl := Option.some.inj (lk_11.symm.trans hk); exact wq_11 G q1 q3 q5 r2 r4
  | 12, hk => obtain rfl := Option.some.inj (lk_12.symm.trans hk); exact wq_12 G q1 q3 q5 r2 r4
  | 13, hk => obtain rfl := Option.some.inj (lk_13.symm.trans hk); exact wq_13 G q1 q3 q5 r2 r4
  | 14, hk => obtain rfl := Option.some.inj (lk_14.symm.trans hk); exact wq_14 G q1 q3 q5 r2 r4
  | 15, hk => obtain rfl := Option.some.inj (lk_15.symm.trans hk); exact wq_15 G q1 q3 q5 r2 r4
  | 16, hk => obtain rfl := Option.some.inj (lk_16.symm.trans hk); exact wq_16 G q1 q3 q5 r2 r4
  | 17, hk => obtain rfl := Option.some.inj (lk_17.symm.trans hk); exact wq_17 G q1 q3 q5 r2 r4
  | 18, hk => obtain rfl := Option.some.inj (lk_18.symm.trans hk); exact wq_18 G q1 q3 q5 r2 r4
  | 19, hk => obtain rfl := Option.some.inj (lk_19.symm.trans hk); exact wq_19 G q1 q3 q5 r2 r4
  | 20, hk => obtain rfl := Option.some.inj (lk_20.symm.trans hk); exact wq_20 G q1 q3 q5 r2 r4
  | 21, hk => obtain rfl := Option.some.inj (lk_21.symm.trans hk); exact wq_21 G q1 q3 q5 r2 r4
  | 22, hk => obtain rfl := Option.some.inj (lk_22.symm.trans hk); exact wq_22 G q1 q3 q5 r2 r4
  | 23, hk => obtain rfl := Option.some.inj (lk_23.symm.trans hk); exact wq_23 G q1 q3 q5 r2 r4
  | 24, hk => obtain rfl := Option.some.inj (lk_24.symm.trans hk); exact wq_24 G q1 q3 q5 r2 r4
  | 25, hk => obtain rfl := Option.some.inj (lk_25.symm.trans hk); exact wq_25 G q1 q3 q5 r2 r4
  | 26, hk => obtain rfl := Option.some.inj (lk_26.symm.trans hk); exact wq_26 G q1 q3 q5 r2 r4
  | 27, hk => obtain rfl := Option.some.inj (lk_27.symm.trans hk); exact wq_27 G q1 q3 q5 r2 r4
  | 28, hk => obtain rfl := Option.some.inj (lk_28.symm.trans hk); exact wq_28 G q1 q3 q5 r2 r4
  | 29, hk => obtain rfl := Option.some.inj (lk_29.symm.trans hk); exact wq_29 G q1 q3 q5 r2 r4
  | 30, hk => obtain rfl := Option.some.inj (lk_30.symm.trans hk); exact wq_30 G q1 q3 q5 r2 r4
  | 31, hk => obtain rfl := Option.some.inj (lk_31.symm.trans hk); exact wq_31 G q1 q3 q5 r2 r4
  | 32, hk => obtain rfl := Option.some.inj (lk_32.symm.trans hk); exact wq_32 G q1 q3 q5 r2 r4
  | 33, hk => obtain rfl := Option.some.inj (lk_33.symm.trans hk); exact wq_33 G q1 q3 q5 r2 r4
  | 34, hk => obtain rfl := Option.some.inj (lk_34.symm.trans hk); exact wq_34 G q1 q3 q5 r2 r4
  | 35, hk => obtain rfl := Option.some.inj (lk_35.symm.trans hk); exact wq_35 G q1 q3 q5 r2 r4
  | 36, hk => obtain rfl := Option.some.inj (lk_36.symm.trans hk); exact wq_36 G q1 q3 q5 r2 r4
  | 37, hk => obtain rfl := Option.some.inj (lk_37.symm.trans hk); exact wq_37 G q1 q3 q5 r2 r4
  | 38, hk => obtain rfl := Option.some.inj (lk_38.symm.trans hk); exact wq_38 G q1 q3 q5 r2 r4
  | 39, hk => obtain rfl := Option.some.inj (lk_39.symm.trans hk); exact wq_39 G q1 q3 q5 r2 r4
  | 40, hk => obtain rfl := Option.some.inj (lk_40.symm.trans hk); exact wq_40 G q1 q3 q5 r2 r4
  | 41, hk => obtain rfl := Option.some.inj (lk_41.symm.trans hk); exact wq_41 G q1 q3 q5 r2 r4
  | 42, hk => obtain rfl := Option.some.inj (lk_42.symm.trans hk); exact wq_42 G q1 q3 q5 r2 r4
  | 43, hk => obtain rfl := Option.some.inj (lk_43.symm.trans hk); exact wq_43 G q1 q3 q5 r2 r4
  | 44, hk => obtain rfl := Option.some.inj (lk_44.symm.trans hk); exact wq_44 G q1 q3 q5 r2 r4
  | 45, hk => obtain rfl := Option.some.inj (lk_45.symm.trans hk); exact wq_45 G q1 q3 q5 r2 r4
  | 46, hk => obtain rfl := Option.some.inj (lk_46.symm.trans hk); exact wq_46 G q1 q3 q5 r2 r4
  | 47, hk => obtain rfl := Option.some.inj (lk_47.symm.trans hk); exact wq_47 G q1 q3 q5 r2 r4
  | 48, hk => obtain rfl := Option.some.inj (lk_48.symm.trans hk); exact wq_48 G q1 q3 q5 r2 r4
  | 49, hk => obtain rfl := Option.some.inj (lk_49.symm.trans hk); exact wq_49 G q1 q3 q5 r2 r4
  | 50, hk => obtain rfl := Option.some.inj (lk_50.symm.trans hk); exact wq_50 G q1 q3 q5 r2 r4
  | 51, hk => obtain rfl := Option.some.inj (lk_51.symm.trans hk); exact wq_51 G q1 q3 q5 r2 r4
  | 52, hk => obtain rfl := Option.some.inj (lk_52.symm.trans hk); exact wq_52 G q1 q3 q5 r2 r4
  | 53, hk => obtain rfl := Option.some.inj (lk_53.symm.trans hk); exact wq_53 G q1 q3 q5 r2 r4
  | 54, hk => obtain rfl := Option.some.inj (lk_54.symm.trans hk); exact wq_54 G q1 q3 q5 r2 r4
  | 55, hk => obtain rfl := Option.some.inj (lk_55.symm.trans hk); exact wq_55 G q1 q3 q5 r2 r4
  | 56, hk => obtain rfl := Option.some.inj (lk_56.symm.trans hk); exact wq_56 G q1 q3 q5 r2 r4
  | 57, hk => obtain rfl := Option.some.inj (lk_57.symm.trans hk); exact wq_57 G q1 q3 q5 r2 r4
  | 58, hk => obtain rfl := Option.some.inj (lk_58.symm.trans hk); exact wq_58 G q1 q3 q5 r2 r4
  | 59, hk => obtain rfl := Option.some.inj (lk_59.symm.trans hk); exact wq_59 G q1 q3 q5 r2 r4
  | 60, hk => obtain rfl := Option.some.inj (lk_60.symm.trans hk); exact wq_60 G q1 q3 q5 r2 r4
  | 61, hk => obtain rfl := Option.some.inj (lk_61.symm.trans hk); exact wq_61 G q1 q3 q5 r2 r4
  | 62, hk => obtain rfl := Option.some.inj (lk_62.symm.trans hk); exact wq_62 G q1 q3 q5 r2 r4
  | 63, hk => obtain rfl := Option.some.inj (lk_63.symm.trans hk); exact wq_63 G q1 q3 q5 r2 r4
  | 64, hk => obtain rfl := Option.some.inj (lk_64.symm.trans hk); exact wq_64 G q1 q3 q5 r2 r4
  | 65, hk => obtain rfl := Option.some.inj (lk_65.symm.trans hk); exact wq_65 G q1 q3 q5 r2 r4
  | 66, hk => obtain rfl := Option.some.inj (lk_66.symm.trans hk); exact wq_66 G q1 q3 q5 r2 r4
  | 67, hk => obtain rfl := Option.some.inj (lk_67.symm.trans hk); exact wq_67 G q1 q3 q5 r2 r4
  | 68, hk => obtain rfl := Option.some.inj (lk_68.symm.trans hk); exact wq_68 G q1 q3 q5 r2 r4
  | 69, hk => obtain rfl := Option.some.inj (lk_69.symm.trans hk); exact wq_69 G q1 q3 q5 r2 r4
  | 70, hk => obtain rfl := Option.some.inj (lk_70.symm.trans hk); exact wq_70 G q1 q3 q5 r2 r4
  | 71, hk => obtain rfl := Option.some.inj (lk_71.symm.trans hk); exact wq_71 G q1 q3 q5 r2 r4
  | 72, hk => obtain rfl := Option.some.inj (lk_72.symm.trans hk); exact wq_72 G q1 q3 q5 r2 r4
  | 73, hk => obtain rfl := Option.some.inj (lk_73.symm.trans hk); exact wq_73 G q1 q3 q5 r2 r4
  | 74, hk => obtain rfl := Option.some.inj (lk_74.symm.trans hk); exact wq_74 G q1 q3 q5 r2 r4
  | 75, hk => obtain rfl := Option.some.inj (lk_75.symm.trans hk); exact wq_75 G q1 q3 q5 r2 r4
  | 76, hk => obtain rfl := Option.some.inj (lk_76.symm.trans hk); exact wq_76 G q1 q3 q5 r2 r4
  | 77, hk => obtain rfl := Option.some.inj (lk_77.symm.trans hk); exact wq_77 G q1 q3 q5 r2 r4
  | 78, hk => obtain rfl := Option.some.inj (lk_78.symm.trans hk); exact wq_78 G q1 q3 q5 r2 r4
  | 79, hk => obtain rfl := Option.some.inj (lk_79.symm.trans hk); exact wq_79 G q1 q3 q5 r2 r4
  | 80, hk => obtain rfl := Option.some.inj (lk_80.symm.trans hk); exact wq_80 G q1 q3 q5 r2 r4
  | 81, hk => obtain rfl := Option.some.inj (lk_81.symm.trans hk); exact wq_81 G q1 q3 q5 r2 r4
  | 82, hk => obtain rfl := Option.some.inj (lk_82.symm.trans hk); exact wq_82 G q1 q3 q5 r2 r4
  | 83, hk => obtain rfl := Option.some.inj (lk_83.symm.trans hk); exact wq_83 G q1 q3 q5 r2 r4
  | 84, hk => obtain rfl := Option.some.inj (lk_84.symm.trans hk); exact wq_84 G q1 q3 q5 r2 r4
  | 85, hk => obtain rfl := Option.some.inj (lk_85.symm.trans hk); exact wq_85 G q1 q3 q5 r2 r4
  | 86, hk => obtain rfl := Option.some.inj (lk_86.symm.trans hk); exact wq_86 G q1 q3 q5 r2 r4
  | 87, hk => obtain rfl := Option.some.inj (lk_87.symm.trans hk); exact wq_87 G q1 q3 q5 r2 r4
  | 88, hk => obtain rfl := Option.some.inj (lk_88.symm.trans hk); exact wq_88 G q1 q3 q5 r2 r4
  | 89, hk => obtain rfl := Option.some.inj (lk_89.symm.trans hk); exact wq_89 G q1 q3 q5 r2 r4
  | 90, hk => obtain rfl := Option.some.inj (lk_90.symm.trans hk); exact wq_90 G q1 q3 q5 r2 r4
  | 91, hk => obtain rfl := Option.some.inj (lk_91.symm.trans hk); exact wq_91 G q1 q3 q5 r2 r4
  | 92, hk => obtain rfl := Option.some.inj (lk_92.symm.trans hk); exact wq_92 G q1 q3 q5 r2 r4
  | 93, hk => obtain rfl := Option.some.inj (lk_93.symm.trans hk); exact wq_93 G q1 q3 q5 r2 r4
  | 94, hk => obtain rfl := Option.some.inj (lk_94.symm.trans hk); exact wq_94 G q1 q3 q5 r2 r4
  | 95, hk => obtain rfl := Option.some.inj (lk_95.symm.trans hk); exact wq_95 G q1 q3 q5 r2 r4
  | 96, hk => obtain rfl := Option.some.inj (lk_96.symm.trans hk); exact wq_96 G q1 q3 q5 r2 r4
  | 97, hk => obtain rfl := Option.some.inj (lk_97.symm.trans hk); exact wq_97 G q1 q3 q5 r2 r4
  | 98, hk => obtain rfl := Option.some.inj (lk_98.symm.trans hk); exact wq_98 G q1 q3 q5 r2 r4
  | 99, hk => obtain rfl := Option.some.inj (lk_99.symm.trans hk); exact wq_99 G q1 q3 q5 r2 r4
  | 100, hk => obtain rfl := Option.some.inj (lk_100.symm.trans hk); exact wq_100 G q1 q3 q5 r2 r4
  | 101, hk => obtain rfl := Option.some.inj (lk_101.symm.trans hk); exact wq_101 G q1 q3 q5 r2 r4
  | 102, hk => obtain rfl := Option.some.inj (lk_102.symm.trans hk); exact wq_102 G q1 q3 q5 r2 r4
  | 103, hk => obtain rfl := Option.some.inj (lk_103.symm.trans hk); exact wq_103 G q1 q3 q5 r2 r4
  | 104, hk => obtain rfl := Option.some.inj (lk_104.symm.trans hk); exact wq_104 G q1 q3 q5 r2 r4
  | 105, hk => obtain rfl := Option.some.inj (lk_105.symm.trans hk); exact wq_105 G q1 q3 q5 r2 r4
  | 106, hk => obtain rfl := Option.some.inj (lk_106.symm.trans hk); exact wq_106 G q1 q3 q5 r2 r4
  | 107, hk => obtain rfl := Option.some.inj (lk_107.symm.trans hk); exact wq_107 G q1 q3 q5 r2 r4
  | 108, hk => obtain rfl := Option.some.inj (lk_108.symm.trans hk); exact wq_108 G q1 q3 q5 r2 r4
  | 109, hk => obtain rfl := Option.some.inj (lk_109.symm.trans hk); exact wq_109 G q1 q3 q5 r2 r4
  | 110, hk => obtain rfl := Option.some.inj (lk_110.symm.trans hk); exact wq_110 G q1 q3 q5 r2 r4
  | 111, hk => obtain rfl := Option.some.inj (lk_111.symm.trans hk); exact wq_111 G q1 q3 q5 r2 r4
  | 112, hk => obtain rfl := Option.some.inj (lk_112.symm.trans hk); exact wq_112 G q1 q3 q5 r2 r4
  | k + 113, hk => exact absurd (List.getElem?_eq_some_iff.mp hk).1 (by rw [lk_len]; unfold NC; omega)
end S91
