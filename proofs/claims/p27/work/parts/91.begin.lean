/-! the beginning of the law: printed by program (wip/p27/gen/begin.py out of whole's) -/
section S91
variable {l : Launch} {G : Gx}
def posL : List Nat := [0, 1, 2, 3, 4, 5, 6, 7, 8, 9, 10, 11, 12, 13, 14, 15, 16, 17, 18, 19, 20, 21, 22, 23, 24, 25, 26, 27, 28, 29, 30, 31, 48, 49, 32, 33, 34, 35, 36, 37, 38, 39, 40, 41, 42, 43, 44, 45, 46, 47, 50, 51, 52, 53, 54, 55, 56, 71, 80, 81, 82, 57, 58, 59, 60, 61, 62, 63, 64, 65, 66, 67, 68, 69, 70, 72, 73, 74, 75, 76, 77, 78, 79, 83]
theorem pos_inj : ∀ i, i < 84 → ∀ j, j < 84 → posL.getD i 0 = posL.getD j 0 → i = j := by decide +kernel
/-- what the cells hold at the beginning -/
def s0 : Sg := fun k j => if k = 4 then kwZ j else if k = 0 then (if j = 8 then -1 else 0) else if k = 10 then (if j = 1 then 16 else 0) else if k = 12 then (if j = 1 then 16 else 0) else if k = 14 then (if j = 1 then 4 else 0) else if k = 16 then (if j = 1 then 16 else 0) else if k = 84 then (if j = 4 then -1 else 0) else 0
theorem kwZ_ok : ∀ i, i < 17 → kwZ i = kwv i := by decide +kernel
theorem Rel_s0 : Rel s0 s0 := by
  refine Rel_zero ⟨rfl, rfl, rfl, rfl, rfl, rfl⟩ (fun j hj => ?_) (fun i hi => kwZ_ok i hi) ⟨rfl, rfl, rfl, rfl⟩ rfl rfl (ByS_0 rfl rfl) ⟨⟨by decide, by decide⟩, fun j => ?_⟩ (fun j => ?_) ⟨by decide, by decide⟩ rfl rfl rfl
  · rcases hj with rfl | rfl | rfl | rfl | rfl | rfl | rfl <;> rfl
  · show 0 ≤ (0 : Int) ∧ (0 : Int) ≤ 255
    decide
  · show (0 ≤ (0 : Int) ∧ (0 : Int) ≤ 4) ∧ (0 ≤ (0 : Int) ∧ (0 : Int) ≤ 0 ∧ (0 : Int) ≤ 1500)
    decide
theorem at_R {D : va_G} {cl : List vw_C} {H : Heap} {a N : Nat} {c : ClassId} {f g : Nat → Option Nat} (e : ∀ j, j < N → f j = g j) (h : va_at D cl (a, .inl (c, N, .inr (.inr (.inr (.inr f))))) H) : va_at D cl (a, .inl (c, N, .inr (.inr (.inr (.inr g))))) H := by
  have h : H[a]? = some (arrV c N (fun j => va_rf (f j))) := h
  show H[a]? = some (arrV c N (fun j => va_rf (g j)))
  rw [h]
  unfold arrV
  exact congrArg (fun s => some ({ cls := c, slots := s, vm := .none } : Cell)) (congrArg Array.ofFn (funext fun j => congrArg va_rf (e j.val j.isLt)))
theorem BW_AW {G2 : Gx} {f : Fm} {o : Om} {b : Nat × Nat × Nat} {Q : State → Prop} {xs : va_W} {k n pc : Nat} {lv : List (Nat × Value)} {st : List Value} {σ σ2 : Sg} (pos : Nat → Nat) (hinj : ∀ i j, i < 84 → j < 84 → pos i = pos j → i = j) (hG : FxOk G f o b → FxOk G2 f o b) (hD0 : G.1 = G2.1) (hE : lkG G2 = lkL)
    (h : ∀ k kd, lkL[k]? = some kd → ∃ e, xs[pos k]? = some (lay G2 k, e) ∧ ∀ H : Heap, va_at G2.1 vwCl (lay G2 k, e) H → va_at G2.1 vwCl (lay G2 k, cellOf G2 σ k kd) H) (g : AW l G2 f o b Q [] k n pc lv st σ) : BW l G f o b Q xs k n pc lv st σ2 := by
  intro ok H locs ls hl hP hD hS
  have len : ∀ {k : Nat} {kd : Kd}, lkL[k]? = some kd → k < 84 := fun hk => by
    have := (List.getElem?_eq_some_iff.mp hk).1
    rw [lk_len] at this
    exact this
  refine g (hG ok) H locs ls hl (fun i q hq => ?_) ⟨fun i j p q hp hq e => ?_, fun i q hq => ?_⟩ hS
  · rw [List.append_nil] at hq
    obtain ⟨kd, h1, rfl⟩ := wld_of hq
    rw [hE] at h1
    obtain ⟨e, h2, h3⟩ := h i kd h1
    have := hP _ _ h2
    rw [hD0] at this
    exact h3 H this
  · rw [List.append_nil] at hp hq
    obtain ⟨kd, h1, rfl⟩ := wld_of hp
    rw [hE] at h1
    obtain ⟨kd', h1', rfl⟩ := wld_of hq
    rw [hE] at h1'
    obtain ⟨e1, h2, -⟩ := h i kd h1
    obtain ⟨e2, h2', -⟩ := h j kd' h1'
    exact hinj i j (len h1) (len h1') (hD.1 _ _ _ _ h2 h2' e)
  · rw [List.append_nil] at hq
    obtain ⟨kd, h1, rfl⟩ := wld_of hq
    rw [hE] at h1
    obtain ⟨e1, h2, -⟩ := h i kd h1
    exact hD.2 _ (lay G2 i, e1) h2
/-- a list with its places, by recursion -/
def mi {α β : Type} (f : Nat → α → β) : Nat → List α → List β
  | _, [] => []
  | i, a :: l => f i a :: mi f (i + 1) l
theorem mi_at {α β : Type} (f : Nat → α → β) : ∀ (l : List α) (i j : Nat), (mi f i l)[j]? = l[j]?.map (f (i + j))
  | [], i, j => by simp [mi]
  | a :: l, i, 0 => by simp [mi]
  | a :: l, i, j + 1 => by
    simp only [mi, List.getElem?_cons_succ]
    rw [mi_at f l (i + 1) j, Nat.add_right_comm, Nat.add_assoc]
theorem mapIdx_mi {α β : Type} (f : Nat → α → β) (l : List α) : l.mapIdx f = mi f 0 l := by
  apply List.ext_getElem?
  intro j
  rw [mi_at, List.getElem?_mapIdx, Nat.zero_add]
theorem cellOf_mi {G : Gx} {σ : Sg} {k ci : Nat} {cs : List Nat} : cellOf G σ k (.inl (ci, cs)) = .inr (ci, mi (fun j c => fv G σ k j c) 0 cs) := by
  show (.inr (ci, cs.mapIdx (fun j c => fv G σ k j c)) : va_E) = _
  rw [mapIdx_mi]
def WL (G : Gx) (q1 : Nat) (r2 : Nat → Nat) : va_W := [eO q1 10 [.ref (r2 0), .ref (r2 2), .ref (r2 7), .ref (r2 8), .ref (r2 49), .ref (r2 50), .ref (r2 54), .ref (r2 82), .int (I32 (-1)), .int (I32 0)], eO (r2 0) 8 [.ref (r2 1), .int (I32 0)], eB G (r2 1) 1500, eO (r2 2) 9 [.ref (r2 3), .ref (r2 4), .ref (r2 5), .ref (r2 6), .int (I32 0)], kwE G (r2 3), eI G (r2 4) 1501, eI G (r2 5) 1501, eL G (r2 6) 1501, eO (r2 7) 1 [.ref (r2 2), .int (I32 0), .int (I32 0)], eO (r2 8) 6 [.ref (r2 9), .ref (r2 11), .ref (r2 13), .ref (r2 15), .ref (r2 17), .ref (r2 22), .ref (r2 23), .ref (r2 24), .ref (r2 25), .ref (r2 26), .ref (r2 27), .ref (r2 28), .ref (r2 29), .ref (r2 30), .ref (r2 47), .ref (r2 48), .int (I32 0)], eO (r2 9) 4 [.ref (r2 10), .int (I32 16), .int (I32 0)], eL G (r2 10) 16, eO (r2 11) 4 [.ref (r2 12), .int (I32 16), .int (I32 0)], eL G (r2 12) 16, eO (r2 13) 4 [.ref (r2 14), .int (I32 4), .int (I32 0)], eL G (r2 14) 16, eO (r2 15) 4 [.ref (r2 16), .int (I32 16), .int (I32 0)], eL G (r2 16) 16, eO (r2 17) 7 [.ref (r2 18), .ref (r2 19), .ref (r2 20), .ref (r2 21), .int (I32 0)], eI G (r2 18) 8, eI G (r2 19) 8, eI G (r2 20) 8, eI G (r2 21) 8, eI G (r2 22) 16, eI G (r2 23) 16, eI G (r2 24) 16, eI G (r2 25) 16, eI G (r2 26) 16, eI G (r2 27) 16, eI G (r2 28) 16, eI G (r2 29) 16, eR G (r2 30) 16 (fun i => ([(r2 31), (r2 32), (r2 33), (r2 34), (r2 35), (r2 36), (r2 37), (r2 38), (r2 39), (r2 40), (r2 41), (r2 42), (r2 43), (r2 44), (r2 45), (r2 46)] : List Nat).getD i 0), eI G (r2 31) 16, eI G (r2 32) 16, eI G (r2 33) 16, eI G (r2 34) 16, eI G (r2 35) 16, eI G (r2 36) 16, eI G (r2 37) 16, eI G (r2 38) 16, eI G (r2 39) 16, eI G (r2 40) 16, eI G (r2 41) 16, eI G (r2 42) 16, eI G (r2 43) 16, eI G (r2 44) 16, eI G (r2 45) 16, eI G (r2 46) 16, eI G (r2 47) 8, eI G (r2 48) 8, eO (r2 49) 0 [.ref (r2 2), .ref (r2 8), .int (I32 0), .int (I32 0)], eO (r2 50) 2 [.ref (r2 2), .ref (r2 8), .ref (r2 49), .ref (r2 51), .ref (r2 52), .ref (r2 53), .int (I32 0), .int (I32 0), .int (I32 0), .int (I32 0), .int (I32 0), .long (I64 0), .long (I64 0)], eI G (r2 51) 8, eI G (r2 52) 8, eI G (r2 53) 8, eO (r2 54) 3 [.ref (r2 8), .ref (r2 55), .ref (r2 70), .ref (r2 79), .ref (r2 80), .ref (r2 81), .int (I32 0), .int (I32 0)], eR G (r2 55) 14 (fun i => ([(r2 56), (r2 57), (r2 58), (r2 59), (r2 60), (r2 61), (r2 62), (r2 63), (r2 64), (r2 65), (r2 66), (r2 67), (r2 68), (r2 69)] : List Nat).getD i 0), eI G (r2 56) 8, eI G (r2 57) 8, eI G (r2 58) 8, eI G (r2 59) 8, eI G (r2 60) 8, eI G (r2 61) 8, eI G (r2 62) 8, eI G (r2 63) 8, eI G (r2 64) 8, eI G (r2 65) 8, eI G (r2 66) 8, eI G (r2 67) 8, eI G (r2 68) 8, eI G (r2 69) 8, eR G (r2 70) 8 (fun i => ([(r2 71), (r2 72), (r2 73), (r2 74), (r2 75), (r2 76), (r2 77), (r2 78)] : List Nat).getD i 0), eI G (r2 71) 14, eI G (r2 72) 14, eI G (r2 73) 14, eI G (r2 74) 14, eI G (r2 75) 14, eI G (r2 76) 14, eI G (r2 77) 14, eI G (r2 78) 14, eI G (r2 79) 14, eI G (r2 80) 16, eI G (r2 81) 8, eO (r2 82) 5 [.ref (r2 8), .ref (r2 54)]]
def LY (q1 : Nat) (r2 : Nat → Nat) : Nat → Nat := fun k => ([q1, (r2 0), (r2 1), (r2 2), (r2 3), (r2 4), (r2 5), (r2 6), (r2 7), (r2 8), (r2 9), (r2 10), (r2 11), (r2 12), (r2 13), (r2 14), (r2 15), (r2 16), (r2 17), (r2 18), (r2 19), (r2 20), (r2 21), (r2 22), (r2 23), (r2 24), (r2 25), (r2 26), (r2 27), (r2 28), (r2 29), (r2 30), (r2 47), (r2 48), (r2 31), (r2 32), (r2 33), (r2 34), (r2 35), (r2 36), (r2 37), (r2 38), (r2 39), (r2 40), (r2 41), (r2 42), (r2 43), (r2 44), (r2 45), (r2 46), (r2 49), (r2 50), (r2 51), (r2 52), (r2 53), (r2 54), (r2 55), (r2 70), (r2 79), (r2 80), (r2 81), (r2 56), (r2 57), (r2 58), (r2 59), (r2 60), (r2 61), (r2 62), (r2 63), (r2 64), (r2 65), (r2 66), (r2 67), (r2 68), (r2 69), (r2 71), (r2 72), (r2 73), (r2 74), (r2 75), (r2 76), (r2 77), (r2 78), (r2 82)] : List Nat).getD k 0
def GX1 (G : Gx) (q1 : Nat) (r2 : Nat → Nat) : Gx := (G.1, G.2.1, LY q1 r2, G.2.2.2.1, G.2.2.2.2.1, [], G.2.2.2.2.2.2)
set_option maxRecDepth 100000 in
set_option maxHeartbeats 4000000 in
theorem wq_0 (G : Gx) (q1 : Nat) (r2 : Nat → Nat) : ∃ e, (WL G q1 r2)[0]? = some (q1, e) ∧ ∀ H : Heap, va_at G.1 vwCl (q1, e) H → va_at G.1 vwCl (q1, cellOf (GX1 G q1 r2) s0 0 (.inl (10, [3, 5, 10, 11, 52, 53, 57, 85, 0, 0]))) H := ⟨_, rfl, fun H h => by rw [cellOf_mi]; exact h⟩
set_option maxRecDepth 100000 in
set_option maxHeartbeats 4000000 in
theorem wq_1 (G : Gx) (q1 : Nat) (r2 : Nat → Nat) : ∃ e, (WL G q1 r2)[1]? = some ((r2 0), e) ∧ ∀ H : Heap, va_at G.1 vwCl ((r2 0), e) H → va_at G.1 vwCl ((r2 0), cellOf (GX1 G q1 r2) s0 1 (.inl (8, [4, 0]))) H := ⟨_, rfl, fun H h => by rw [cellOf_mi]; exact h⟩
set_option maxRecDepth 100000 in
set_option maxHeartbeats 4000000 in
theorem wq_2 (G : Gx) (q1 : Nat) (r2 : Nat → Nat) : ∃ e, (WL G q1 r2)[2]? = some ((r2 1), e) ∧ ∀ H : Heap, va_at G.1 vwCl ((r2 1), e) H → va_at G.1 vwCl ((r2 1), cellOf (GX1 G q1 r2) s0 2 (.inr (0, 1500, 0))) H := ⟨_, rfl, fun H h => h⟩
set_option maxRecDepth 100000 in
set_option maxHeartbeats 4000000 in
theorem wq_3 (G : Gx) (q1 : Nat) (r2 : Nat → Nat) : ∃ e, (WL G q1 r2)[3]? = some ((r2 2), e) ∧ ∀ H : Heap, va_at G.1 vwCl ((r2 2), e) H → va_at G.1 vwCl ((r2 2), cellOf (GX1 G q1 r2) s0 3 (.inl (9, [6, 7, 8, 9, 0]))) H := ⟨_, rfl, fun H h => by rw [cellOf_mi]; exact h⟩
set_option maxRecDepth 100000 in
set_option maxHeartbeats 4000000 in
theorem wq_4 (G : Gx) (q1 : Nat) (r2 : Nat → Nat) : ∃ e, (WL G q1 r2)[4]? = some ((r2 3), e) ∧ ∀ H : Heap, va_at G.1 vwCl ((r2 3), e) H → va_at G.1 vwCl ((r2 3), cellOf (GX1 G q1 r2) s0 4 (.inr (2, 17, 0))) H := ⟨_, rfl, fun H h => h⟩
set_option maxRecDepth 100000 in
set_option maxHeartbeats 4000000 in
theorem wq_5 (G : Gx) (q1 : Nat) (r2 : Nat → Nat) : ∃ e, (WL G q1 r2)[5]? = some ((r2 4), e) ∧ ∀ H : Heap, va_at G.1 vwCl ((r2 4), e) H → va_at G.1 vwCl ((r2 4), cellOf (GX1 G q1 r2) s0 5 (.inr (1, 1501, 0))) H := ⟨_, rfl, fun H h => h⟩
set_option maxRecDepth 100000 in
set_option maxHeartbeats 4000000 in
theorem wq_6 (G : Gx) (q1 : Nat) (r2 : Nat → Nat) : ∃ e, (WL G q1 r2)[6]? = some ((r2 5), e) ∧ ∀ H : Heap, va_at G.1 vwCl ((r2 5), e) H → va_at G.1 vwCl ((r2 5), cellOf (GX1 G q1 r2) s0 6 (.inr (1, 1501, 0))) H := ⟨_, rfl, fun H h => h⟩
set_option maxRecDepth 100000 in
set_option maxHeartbeats 4000000 in
theorem wq_7 (G : Gx) (q1 : Nat) (r2 : Nat → Nat) : ∃ e, (WL G q1 r2)[7]? = some ((r2 6), e) ∧ ∀ H : Heap, va_at G.1 vwCl ((r2 6), e) H → va_at G.1 vwCl ((r2 6), cellOf (GX1 G q1 r2) s0 7 (.inr (2, 1501, 0))) H := ⟨_, rfl, fun H h => h⟩
set_option maxRecDepth 100000 in
set_option maxHeartbeats 4000000 in
theorem wq_8 (G : Gx) (q1 : Nat) (r2 : Nat → Nat) : ∃ e, (WL G q1 r2)[8]? = some ((r2 7), e) ∧ ∀ H : Heap, va_at G.1 vwCl ((r2 7), e) H → va_at G.1 vwCl ((r2 7), cellOf (GX1 G q1 r2) s0 8 (.inl (1, [5, 0, 0]))) H := ⟨_, rfl, fun H h => by rw [cellOf_mi]; exact h⟩
set_option maxRecDepth 100000 in
set_option maxHeartbeats 4000000 in
theorem wq_9 (G : Gx) (q1 : Nat) (r2 : Nat → Nat) : ∃ e, (WL G q1 r2)[9]? = some ((r2 8), e) ∧ ∀ H : Heap, va_at G.1 vwCl ((r2 8), e) H → va_at G.1 vwCl ((r2 8), cellOf (GX1 G q1 r2) s0 9 (.inl (6, [12, 14, 16, 18, 20, 25, 26, 27, 28, 29, 30, 31, 32, 33, 34, 35, 0]))) H := ⟨_, rfl, fun H h => by rw [cellOf_mi]; exact h⟩
set_option maxRecDepth 100000 in
set_option maxHeartbeats 4000000 in
theorem wq_10 (G : Gx) (q1 : Nat) (r2 : Nat → Nat) : ∃ e, (WL G q1 r2)[10]? = some ((r2 9), e) ∧ ∀ H : Heap, va_at G.1 vwCl ((r2 9), e) H → va_at G.1 vwCl ((r2 9), cellOf (GX1 G q1 r2) s0 10 (.inl (4, [13, 0, 0]))) H := ⟨_, rfl, fun H h => by rw [cellOf_mi]; exact h⟩
set_option maxRecDepth 100000 in
set_option maxHeartbeats 4000000 in
theorem wq_11 (G : Gx) (q1 : Nat) (r2 : Nat → Nat) : ∃ e, (WL G q1 r2)[11]? = some ((r2 10), e) ∧ ∀ H : Heap, va_at G.1 vwCl ((r2 10), e) H → va_at G.1 vwCl ((r2 10), cellOf (GX1 G q1 r2) s0 11 (.inr (2, 16, 0))) H := ⟨_, rfl, fun H h => h⟩
set_option maxRecDepth 100000 in
set_option maxHeartbeats 4000000 in
theorem wq_12 (G : Gx) (q1 : Nat) (r2 : Nat → Nat) : ∃ e, (WL G q1 r2)[12]? = some ((r2 11), e) ∧ ∀ H : Heap, va_at G.1 vwCl ((r2 11), e) H → va_at G.1 vwCl ((r2 11), cellOf (GX1 G q1 r2) s0 12 (.inl (4, [15, 0, 0]))) H := ⟨_, rfl, fun H h => by rw [cellOf_mi]; exact h⟩
set_option maxRecDepth 100000 in
set_option maxHeartbeats 4000000 in
theorem wq_13 (G : Gx) (q1 : Nat) (r2 : Nat → Nat) : ∃ e, (WL G q1 r2)[13]? = some ((r2 12), e) ∧ ∀ H : Heap, va_at G.1 vwCl ((r2 12), e) H → va_at G.1 vwCl ((r2 12), cellOf (GX1 G q1 r2) s0 13 (.inr (2, 16, 0))) H := ⟨_, rfl, fun H h => h⟩
set_option maxRecDepth 100000 in
set_option maxHeartbeats 4000000 in
theorem wq_14 (G : Gx) (q1 : Nat) (r2 : Nat → Nat) : ∃ e, (WL G q1 r2)[14]? = some ((r2 13), e) ∧ ∀ H : Heap, va_at G.1 vwCl ((r2 13), e) H → va_at G.1 vwCl ((r2 13), cellOf (GX1 G q1 r2) s0 14 (.inl (4, [17, 0, 0]))) H := ⟨_, rfl, fun H h => by rw [cellOf_mi]; exact h⟩
set_option maxRecDepth 100000 in
set_option maxHeartbeats 4000000 in
theorem wq_15 (G : Gx) (q1 : Nat) (r2 : Nat → Nat) : ∃ e, (WL G q1 r2)[15]? = some ((r2 14), e) ∧ ∀ H : Heap, va_at G.1 vwCl ((r2 14), e) H → va_at G.1 vwCl ((r2 14), cellOf (GX1 G q1 r2) s0 15 (.inr (2, 16, 0))) H := ⟨_, rfl, fun H h => h⟩
set_option maxRecDepth 100000 in
set_option maxHeartbeats 4000000 in
theorem wq_16 (G : Gx) (q1 : Nat) (r2 : Nat → Nat) : ∃ e, (WL G q1 r2)[16]? = some ((r2 15), e) ∧ ∀ H : Heap, va_at G.1 vwCl ((r2 15), e) H → va_at G.1 vwCl ((r2 15), cellOf (GX1 G q1 r2) s0 16 (.inl (4, [19, 0, 0]))) H := ⟨_, rfl, fun H h => by rw [cellOf_mi]; exact h⟩
set_option maxRecDepth 100000 in
set_option maxHeartbeats 4000000 in
theorem wq_17 (G : Gx) (q1 : Nat) (r2 : Nat → Nat) : ∃ e, (WL G q1 r2)[17]? = some ((r2 16), e) ∧ ∀ H : Heap, va_at G.1 vwCl ((r2 16), e) H → va_at G.1 vwCl ((r2 16), cellOf (GX1 G q1 r2) s0 17 (.inr (2, 16, 0))) H := ⟨_, rfl, fun H h => h⟩
set_option maxRecDepth 100000 in
set_option maxHeartbeats 4000000 in
theorem wq_18 (G : Gx) (q1 : Nat) (r2 : Nat → Nat) : ∃ e, (WL G q1 r2)[18]? = some ((r2 17), e) ∧ ∀ H : Heap, va_at G.1 vwCl ((r2 17), e) H → va_at G.1 vwCl ((r2 17), cellOf (GX1 G q1 r2) s0 18 (.inl (7, [21, 22, 23, 24, 0]))) H := ⟨_, rfl, fun H h => by rw [cellOf_mi]; exact h⟩
set_option maxRecDepth 100000 in
set_option maxHeartbeats 4000000 in
theorem wq_19 (G : Gx) (q1 : Nat) (r2 : Nat → Nat) : ∃ e, (WL G q1 r2)[19]? = some ((r2 18), e) ∧ ∀ H : Heap, va_at G.1 vwCl ((r2 18), e) H → va_at G.1 vwCl ((r2 18), cellOf (GX1 G q1 r2) s0 19 (.inr (1, 8, 0))) H := ⟨_, rfl, fun H h => h⟩
set_option maxRecDepth 100000 in
set_option maxHeartbeats 4000000 in
theorem wq_20 (G : Gx) (q1 : Nat) (r2 : Nat → Nat) : ∃ e, (WL G q1 r2)[20]? = some ((r2 19), e) ∧ ∀ H : Heap, va_at G.1 vwCl ((r2 19), e) H → va_at G.1 vwCl ((r2 19), cellOf (GX1 G q1 r2) s0 20 (.inr (1, 8, 0))) H := ⟨_, rfl, fun H h => h⟩
set_option maxRecDepth 100000 in
set_option maxHeartbeats 4000000 in
theorem wq_21 (G : Gx) (q1 : Nat) (r2 : Nat → Nat) : ∃ e, (WL G q1 r2)[21]? = some ((r2 20), e) ∧ ∀ H : Heap, va_at G.1 vwCl ((r2 20), e) H → va_at G.1 vwCl ((r2 20), cellOf (GX1 G q1 r2) s0 21 (.inr (1, 8, 0))) H := ⟨_, rfl, fun H h => h⟩
set_option maxRecDepth 100000 in
set_option maxHeartbeats 4000000 in
theorem wq_22 (G : Gx) (q1 : Nat) (r2 : Nat → Nat) : ∃ e, (WL G q1 r2)[22]? = some ((r2 21), e) ∧ ∀ H : Heap, va_at G.1 vwCl ((r2 21), e) H → va_at G.1 vwCl ((r2 21), cellOf (GX1 G q1 r2) s0 22 (.inr (1, 8, 0))) H := ⟨_, rfl, fun H h => h⟩
set_option maxRecDepth 100000 in
set_option maxHeartbeats 4000000 in
theorem wq_23 (G : Gx) (q1 : Nat) (r2 : Nat → Nat) : ∃ e, (WL G q1 r2)[23]? = some ((r2 22), e) ∧ ∀ H : Heap, va_at G.1 vwCl ((r2 22), e) H → va_at G.1 vwCl ((r2 22), cellOf (GX1 G q1 r2) s0 23 (.inr (1, 16, 0))) H := ⟨_, rfl, fun H h => h⟩
set_option maxRecDepth 100000 in
set_option maxHeartbeats 4000000 in
theorem wq_24 (G : Gx) (q1 : Nat) (r2 : Nat → Nat) : ∃ e, (WL G q1 r2)[24]? = some ((r2 23), e) ∧ ∀ H : Heap, va_at G.1 vwCl ((r2 23), e) H → va_at G.1 vwCl ((r2 23), cellOf (GX1 G q1 r2) s0 24 (.inr (1, 16, 0))) H := ⟨_, rfl, fun H h => h⟩
set_option maxRecDepth 100000 in
set_option maxHeartbeats 4000000 in
theorem wq_25 (G : Gx) (q1 : Nat) (r2 : Nat → Nat) : ∃ e, (WL G q1 r2)[25]? = some ((r2 24), e) ∧ ∀ H : Heap, va_at G.1 vwCl ((r2 24), e) H → va_at G.1 vwCl ((r2 24), cellOf (GX1 G q1 r2) s0 25 (.inr (1, 16, 0))) H := ⟨_, rfl, fun H h => h⟩
set_option maxRecDepth 100000 in
set_option maxHeartbeats 4000000 in
theorem wq_26 (G : Gx) (q1 : Nat) (r2 : Nat → Nat) : ∃ e, (WL G q1 r2)[26]? = some ((r2 25), e) ∧ ∀ H : Heap, va_at G.1 vwCl ((r2 25), e) H → va_at G.1 vwCl ((r2 25), cellOf (GX1 G q1 r2) s0 26 (.inr (1, 16, 0))) H := ⟨_, rfl, fun H h => h⟩
set_option maxRecDepth 100000 in
set_option maxHeartbeats 4000000 in
theorem wq_27 (G : Gx) (q1 : Nat) (r2 : Nat → Nat) : ∃ e, (WL G q1 r2)[27]? = some ((r2 26), e) ∧ ∀ H : Heap, va_at G.1 vwCl ((r2 26), e) H → va_at G.1 vwCl ((r2 26), cellOf (GX1 G q1 r2) s0 27 (.inr (1, 16, 0))) H := ⟨_, rfl, fun H h => h⟩
set_option maxRecDepth 100000 in
set_option maxHeartbeats 4000000 in
theorem wq_28 (G : Gx) (q1 : Nat) (r2 : Nat → Nat) : ∃ e, (WL G q1 r2)[28]? = some ((r2 27), e) ∧ ∀ H : Heap, va_at G.1 vwCl ((r2 27), e) H → va_at G.1 vwCl ((r2 27), cellOf (GX1 G q1 r2) s0 28 (.inr (1, 16, 0))) H := ⟨_, rfl, fun H h => h⟩
set_option maxRecDepth 100000 in
set_option maxHeartbeats 4000000 in
theorem wq_29 (G : Gx) (q1 : Nat) (r2 : Nat → Nat) : ∃ e, (WL G q1 r2)[29]? = some ((r2 28), e) ∧ ∀ H : Heap, va_at G.1 vwCl ((r2 28), e) H → va_at G.1 vwCl ((r2 28), cellOf (GX1 G q1 r2) s0 29 (.inr (1, 16, 0))) H := ⟨_, rfl, fun H h => h⟩
set_option maxRecDepth 100000 in
set_option maxHeartbeats 4000000 in
theorem wq_30 (G : Gx) (q1 : Nat) (r2 : Nat → Nat) : ∃ e, (WL G q1 r2)[30]? = some ((r2 29), e) ∧ ∀ H : Heap, va_at G.1 vwCl ((r2 29), e) H → va_at G.1 vwCl ((r2 29), cellOf (GX1 G q1 r2) s0 30 (.inr (1, 16, 0))) H := ⟨_, rfl, fun H h => h⟩
set_option maxRecDepth 100000 in
set_option maxHeartbeats 4000000 in
theorem wq_31 (G : Gx) (q1 : Nat) (r2 : Nat → Nat) : ∃ e, (WL G q1 r2)[31]? = some ((r2 30), e) ∧ ∀ H : Heap, va_at G.1 vwCl ((r2 30), e) H → va_at G.1 vwCl ((r2 30), cellOf (GX1 G q1 r2) s0 31 (.inr (3, 16, 34))) H := ⟨_, rfl, fun H h => at_R (fun j hj => match j, hj with | 0, _ => rfl | 1, _ => rfl | 2, _ => rfl | 3, _ => rfl | 4, _ => rfl | 5, _ => rfl | 6, _ => rfl | 7, _ => rfl | 8, _ => rfl | 9, _ => rfl | 10, _ => rfl | 11, _ => rfl | 12, _ => rfl | 13, _ => rfl | 14, _ => rfl | 15, _ => rfl | j + 16, h => absurd h (by omega)) h⟩
set_option maxRecDepth 100000 in
set_option maxHeartbeats 4000000 in
theorem wq_32 (G : Gx) (q1 : Nat) (r2 : Nat → Nat) : ∃ e, (WL G q1 r2)[48]? = some ((r2 47), e) ∧ ∀ H : Heap, va_at G.1 vwCl ((r2 47), e) H → va_at G.1 vwCl ((r2 47), cellOf (GX1 G q1 r2) s0 32 (.inr (1, 8, 0))) H := ⟨_, rfl, fun H h => h⟩
set_option maxRecDepth 100000 in
set_option maxHeartbeats 4000000 in
theorem wq_33 (G : Gx) (q1 : Nat) (r2 : Nat → Nat) : ∃ e, (WL G q1 r2)[49]? = some ((r2 48), e) ∧ ∀ H : Heap, va_at G.1 vwCl ((r2 48), e) H → va_at G.1 vwCl ((r2 48), cellOf (GX1 G q1 r2) s0 33 (.inr (1, 8, 0))) H := ⟨_, rfl, fun H h => h⟩
set_option maxRecDepth 100000 in
set_option maxHeartbeats 4000000 in
theorem wq_34 (G : Gx) (q1 : Nat) (r2 : Nat → Nat) : ∃ e, (WL G q1 r2)[32]? = some ((r2 31), e) ∧ ∀ H : Heap, va_at G.1 vwCl ((r2 31), e) H → va_at G.1 vwCl ((r2 31), cellOf (GX1 G q1 r2) s0 34 (.inr (1, 16, 0))) H := ⟨_, rfl, fun H h => h⟩
set_option maxRecDepth 100000 in
set_option maxHeartbeats 4000000 in
theorem wq_35 (G : Gx) (q1 : Nat) (r2 : Nat → Nat) : ∃ e, (WL G q1 r2)[33]? = some ((r2 32), e) ∧ ∀ H : Heap, va_at G.1 vwCl ((r2 32), e) H → va_at G.1 vwCl ((r2 32), cellOf (GX1 G q1 r2) s0 35 (.inr (1, 16, 0))) H := ⟨_, rfl, fun H h => h⟩
set_option maxRecDepth 100000 in
set_option maxHeartbeats 4000000 in
theorem wq_36 (G : Gx) (q1 : Nat) (r2 : Nat → Nat) : ∃ e, (WL G q1 r2)[34]? = some ((r2 33), e) ∧ ∀ H : Heap, va_at G.1 vwCl ((r2 33), e) H → va_at G.1 vwCl ((r2 33), cellOf (GX1 G q1 r2) s0 36 (.inr (1, 16, 0))) H := ⟨_, rfl, fun H h => h⟩
set_option maxRecDepth 100000 in
set_option maxHeartbeats 4000000 in
theorem wq_37 (G : Gx) (q1 : Nat) (r2 : Nat → Nat) : ∃ e, (WL G q1 r2)[35]? = some ((r2 34), e) ∧ ∀ H : Heap, va_at G.1 vwCl ((r2 34), e) H → va_at G.1 vwCl ((r2 34), cellOf (GX1 G q1 r2) s0 37 (.inr (1, 16, 0))) H := ⟨_, rfl, fun H h => h⟩
set_option maxRecDepth 100000 in
set_option maxHeartbeats 4000000 in
theorem wq_38 (G : Gx) (q1 : Nat) (r2 : Nat → Nat) : ∃ e, (WL G q1 r2)[36]? = some ((r2 35), e) ∧ ∀ H : Heap, va_at G.1 vwCl ((r2 35), e) H → va_at G.1 vwCl ((r2 35), cellOf (GX1 G q1 r2) s0 38 (.inr (1, 16, 0))) H := ⟨_, rfl, fun H h => h⟩
set_option maxRecDepth 100000 in
set_option maxHeartbeats 4000000 in
theorem wq_39 (G : Gx) (q1 : Nat) (r2 : Nat → Nat) : ∃ e, (WL G q1 r2)[37]? = some ((r2 36), e) ∧ ∀ H : Heap, va_at G.1 vwCl ((r2 36), e) H → va_at G.1 vwCl ((r2 36), cellOf (GX1 G q1 r2) s0 39 (.inr (1, 16, 0))) H := ⟨_, rfl, fun H h => h⟩
set_option maxRecDepth 100000 in
set_option maxHeartbeats 4000000 in
theorem wq_40 (G : Gx) (q1 : Nat) (r2 : Nat → Nat) : ∃ e, (WL G q1 r2)[38]? = some ((r2 37), e) ∧ ∀ H : Heap, va_at G.1 vwCl ((r2 37), e) H → va_at G.1 vwCl ((r2 37), cellOf (GX1 G q1 r2) s0 40 (.inr (1, 16, 0))) H := ⟨_, rfl, fun H h => h⟩
set_option maxRecDepth 100000 in
set_option maxHeartbeats 4000000 in
theorem wq_41 (G : Gx) (q1 : Nat) (r2 : Nat → Nat) : ∃ e, (WL G q1 r2)[39]? = some ((r2 38), e) ∧ ∀ H : Heap, va_at G.1 vwCl ((r2 38), e) H → va_at G.1 vwCl ((r2 38), cellOf (GX1 G q1 r2) s0 41 (.inr (1, 16, 0))) H := ⟨_, rfl, fun H h => h⟩
set_option maxRecDepth 100000 in
set_option maxHeartbeats 4000000 in
theorem wq_42 (G : Gx) (q1 : Nat) (r2 : Nat → Nat) : ∃ e, (WL G q1 r2)[40]? = some ((r2 39), e) ∧ ∀ H : Heap, va_at G.1 vwCl ((r2 39), e) H → va_at G.1 vwCl ((r2 39), cellOf (GX1 G q1 r2) s0 42 (.inr (1, 16, 0))) H := ⟨_, rfl, fun H h => h⟩
set_option maxRecDepth 100000 in
set_option maxHeartbeats 4000000 in
theorem wq_43 (G : Gx) (q1 : Nat) (r2 : Nat → Nat) : ∃ e, (WL G q1 r2)[41]? = some ((r2 40), e) ∧ ∀ H : Heap, va_at G.1 vwCl ((r2 40), e) H → va_at G.1 vwCl ((r2 40), cellOf (GX1 G q1 r2) s0 43 (.inr (1, 16, 0))) H := ⟨_, rfl, fun H h => h⟩
set_option maxRecDepth 100000 in
set_option maxHeartbeats 4000000 in
theorem wq_44 (G : Gx) (q1 : Nat) (r2 : Nat → Nat) : ∃ e, (WL G q1 r2)[42]? = some ((r2 41), e) ∧ ∀ H : Heap, va_at G.1 vwCl ((r2 41), e) H → va_at G.1 vwCl ((r2 41), cellOf (GX1 G q1 r2) s0 44 (.inr (1, 16, 0))) H := ⟨_, rfl, fun H h => h⟩
set_option maxRecDepth 100000 in
set_option maxHeartbeats 4000000 in
theorem wq_45 (G : Gx) (q1 : Nat) (r2 : Nat → Nat) : ∃ e, (WL G q1 r2)[43]? = some ((r2 42), e) ∧ ∀ H : Heap, va_at G.1 vwCl ((r2 42), e) H → va_at G.1 vwCl ((r2 42), cellOf (GX1 G q1 r2) s0 45 (.inr (1, 16, 0))) H := ⟨_, rfl, fun H h => h⟩
set_option maxRecDepth 100000 in
set_option maxHeartbeats 4000000 in
theorem wq_46 (G : Gx) (q1 : Nat) (r2 : Nat → Nat) : ∃ e, (WL G q1 r2)[44]? = some ((r2 43), e) ∧ ∀ H : Heap, va_at G.1 vwCl ((r2 43), e) H → va_at G.1 vwCl ((r2 43), cellOf (GX1 G q1 r2) s0 46 (.inr (1, 16, 0))) H := ⟨_, rfl, fun H h => h⟩
set_option maxRecDepth 100000 in
set_option maxHeartbeats 4000000 in
theorem wq_47 (G : Gx) (q1 : Nat) (r2 : Nat → Nat) : ∃ e, (WL G q1 r2)[45]? = some ((r2 44), e) ∧ ∀ H : Heap, va_at G.1 vwCl ((r2 44), e) H → va_at G.1 vwCl ((r2 44), cellOf (GX1 G q1 r2) s0 47 (.inr (1, 16, 0))) H := ⟨_, rfl, fun H h => h⟩
set_option maxRecDepth 100000 in
set_option maxHeartbeats 4000000 in
theorem wq_48 (G : Gx) (q1 : Nat) (r2 : Nat → Nat) : ∃ e, (WL G q1 r2)[46]? = some ((r2 45), e) ∧ ∀ H : Heap, va_at G.1 vwCl ((r2 45), e) H → va_at G.1 vwCl ((r2 45), cellOf (GX1 G q1 r2) s0 48 (.inr (1, 16, 0))) H := ⟨_, rfl, fun H h => h⟩
set_option maxRecDepth 100000 in
set_option maxHeartbeats 4000000 in
theorem wq_49 (G : Gx) (q1 : Nat) (r2 : Nat → Nat) : ∃ e, (WL G q1 r2)[47]? = some ((r2 46), e) ∧ ∀ H : Heap, va_at G.1 vwCl ((r2 46), e) H → va_at G.1 vwCl ((r2 46), cellOf (GX1 G q1 r2) s0 49 (.inr (1, 16, 0))) H := ⟨_, rfl, fun H h => h⟩
set_option maxRecDepth 100000 in
set_option maxHeartbeats 4000000 in
theorem wq_50 (G : Gx) (q1 : Nat) (r2 : Nat → Nat) : ∃ e, (WL G q1 r2)[50]? = some ((r2 49), e) ∧ ∀ H : Heap, va_at G.1 vwCl ((r2 49), e) H → va_at G.1 vwCl ((r2 49), cellOf (GX1 G q1 r2) s0 50 (.inl (0, [5, 11, 0, 0]))) H := ⟨_, rfl, fun H h => by rw [cellOf_mi]; exact h⟩
set_option maxRecDepth 100000 in
set_option maxHeartbeats 4000000 in
theorem wq_51 (G : Gx) (q1 : Nat) (r2 : Nat → Nat) : ∃ e, (WL G q1 r2)[51]? = some ((r2 50), e) ∧ ∀ H : Heap, va_at G.1 vwCl ((r2 50), e) H → va_at G.1 vwCl ((r2 50), cellOf (GX1 G q1 r2) s0 51 (.inl (2, [5, 11, 52, 54, 55, 56, 0, 0, 0, 0, 0, 1, 1]))) H := ⟨_, rfl, fun H h => by rw [cellOf_mi]; exact h⟩
set_option maxRecDepth 100000 in
set_option maxHeartbeats 4000000 in
theorem wq_52 (G : Gx) (q1 : Nat) (r2 : Nat → Nat) : ∃ e, (WL G q1 r2)[52]? = some ((r2 51), e) ∧ ∀ H : Heap, va_at G.1 vwCl ((r2 51), e) H → va_at G.1 vwCl ((r2 51), cellOf (GX1 G q1 r2) s0 52 (.inr (1, 8, 0))) H := ⟨_, rfl, fun H h => h⟩
set_option maxRecDepth 100000 in
set_option maxHeartbeats 4000000 in
theorem wq_53 (G : Gx) (q1 : Nat) (r2 : Nat → Nat) : ∃ e, (WL G q1 r2)[53]? = some ((r2 52), e) ∧ ∀ H : Heap, va_at G.1 vwCl ((r2 52), e) H → va_at G.1 vwCl ((r2 52), cellOf (GX1 G q1 r2) s0 53 (.inr (1, 8, 0))) H := ⟨_, rfl, fun H h => h⟩
set_option maxRecDepth 100000 in
set_option maxHeartbeats 4000000 in
theorem wq_54 (G : Gx) (q1 : Nat) (r2 : Nat → Nat) : ∃ e, (WL G q1 r2)[54]? = some ((r2 53), e) ∧ ∀ H : Heap, va_at G.1 vwCl ((r2 53), e) H → va_at G.1 vwCl ((r2 53), cellOf (GX1 G q1 r2) s0 54 (.inr (1, 8, 0))) H := ⟨_, rfl, fun H h => h⟩
set_option maxRecDepth 100000 in
set_option maxHeartbeats 4000000 in
theorem wq_55 (G : Gx) (q1 : Nat) (r2 : Nat → Nat) : ∃ e, (WL G q1 r2)[55]? = some ((r2 54), e) ∧ ∀ H : Heap, va_at G.1 vwCl ((r2 54), e) H → va_at G.1 vwCl ((r2 54), cellOf (GX1 G q1 r2) s0 55 (.inl (3, [11, 58, 59, 60, 61, 62, 0, 0]))) H := ⟨_, rfl, fun H h => by rw [cellOf_mi]; exact h⟩
set_option maxRecDepth 100000 in
set_option maxHeartbeats 4000000 in
theorem wq_56 (G : Gx) (q1 : Nat) (r2 : Nat → Nat) : ∃ e, (WL G q1 r2)[56]? = some ((r2 55), e) ∧ ∀ H : Heap, va_at G.1 vwCl ((r2 55), e) H → va_at G.1 vwCl ((r2 55), cellOf (GX1 G q1 r2) s0 56 (.inr (3, 14, 61))) H := ⟨_, rfl, fun H h => at_R (fun j hj => match j, hj with | 0, _ => rfl | 1, _ => rfl | 2, _ => rfl | 3, _ => rfl | 4, _ => rfl | 5, _ => rfl | 6, _ => rfl | 7, _ => rfl | 8, _ => rfl | 9, _ => rfl | 10, _ => rfl | 11, _ => rfl | 12, _ => rfl | 13, _ => rfl | j + 14, h => absurd h (by omega)) h⟩
set_option maxRecDepth 100000 in
set_option maxHeartbeats 4000000 in
theorem wq_57 (G : Gx) (q1 : Nat) (r2 : Nat → Nat) : ∃ e, (WL G q1 r2)[71]? = some ((r2 70), e) ∧ ∀ H : Heap, va_at G.1 vwCl ((r2 70), e) H → va_at G.1 vwCl ((r2 70), cellOf (GX1 G q1 r2) s0 57 (.inr (3, 8, 75))) H := ⟨_, rfl, fun H h => at_R (fun j hj => match j, hj with | 0, _ => rfl | 1, _ => rfl | 2, _ => rfl | 3, _ => rfl | 4, _ => rfl | 5, _ => rfl | 6, _ => rfl | 7, _ => rfl | j + 8, h => absurd h (by omega)) h⟩
set_option maxRecDepth 100000 in
set_option maxHeartbeats 4000000 in
theorem wq_58 (G : Gx) (q1 : Nat) (r2 : Nat → Nat) : ∃ e, (WL G q1 r2)[80]? = some ((r2 79), e) ∧ ∀ H : Heap, va_at G.1 vwCl ((r2 79), e) H → va_at G.1 vwCl ((r2 79), cellOf (GX1 G q1 r2) s0 58 (.inr (1, 14, 0))) H := ⟨_, rfl, fun H h => h⟩
set_option maxRecDepth 100000 in
set_option maxHeartbeats 4000000 in
theorem wq_59 (G : Gx) (q1 : Nat) (r2 : Nat → Nat) : ∃ e, (WL G q1 r2)[81]? = some ((r2 80), e) ∧ ∀ H : Heap, va_at G.1 vwCl ((r2 80), e) H → va_at G.1 vwCl ((r2 80), cellOf (GX1 G q1 r2) s0 59 (.inr (1, 16, 0))) H := ⟨_, rfl, fun H h => h⟩
set_option maxRecDepth 100000 in
set_option maxHeartbeats 4000000 in
theorem wq_60 (G : Gx) (q1 : Nat) (r2 : Nat → Nat) : ∃ e, (WL G q1 r2)[82]? = some ((r2 81), e) ∧ ∀ H : Heap, va_at G.1 vwCl ((r2 81), e) H → va_at G.1 vwCl ((r2 81), cellOf (GX1 G q1 r2) s0 60 (.inr (1, 8, 0))) H := ⟨_, rfl, fun H h => h⟩
set_option maxRecDepth 100000 in
set_option maxHeartbeats 4000000 in
theorem wq_61 (G : Gx) (q1 : Nat) (r2 : Nat → Nat) : ∃ e, (WL G q1 r2)[57]? = some ((r2 56), e) ∧ ∀ H : Heap, va_at G.1 vwCl ((r2 56), e) H → va_at G.1 vwCl ((r2 56), cellOf (GX1 G q1 r2) s0 61 (.inr (1, 8, 0))) H := ⟨_, rfl, fun H h => h⟩
set_option maxRecDepth 100000 in
set_option maxHeartbeats 4000000 in
theorem wq_62 (G : Gx) (q1 : Nat) (r2 : Nat → Nat) : ∃ e, (WL G q1 r2)[58]? = some ((r2 57), e) ∧ ∀ H : Heap, va_at G.1 vwCl ((r2 57), e) H → va_at G.1 vwCl ((r2 57), cellOf (GX1 G q1 r2) s0 62 (.inr (1, 8, 0))) H := ⟨_, rfl, fun H h => h⟩
set_option maxRecDepth 100000 in
set_option maxHeartbeats 4000000 in
theorem wq_63 (G : Gx) (q1 : Nat) (r2 : Nat → Nat) : ∃ e, (WL G q1 r2)[59]? = some ((r2 58), e) ∧ ∀ H : Heap, va_at G.1 vwCl ((r2 58), e) H → va_at G.1 vwCl ((r2 58), cellOf (GX1 G q1 r2) s0 63 (.inr (1, 8, 0))) H := ⟨_, rfl, fun H h => h⟩
set_option maxRecDepth 100000 in
set_option maxHeartbeats 4000000 in
theorem wq_64 (G : Gx) (q1 : Nat) (r2 : Nat → Nat) : ∃ e, (WL G q1 r2)[60]? = some ((r2 59), e) ∧ ∀ H : Heap, va_at G.1 vwCl ((r2 59), e) H → va_at G.1 vwCl ((r2 59), cellOf (GX1 G q1 r2) s0 64 (.inr (1, 8, 0))) H := ⟨_, rfl, fun H h => h⟩
set_option maxRecDepth 100000 in
set_option maxHeartbeats 4000000 in
theorem wq_65 (G : Gx) (q1 : Nat) (r2 : Nat → Nat) : ∃ e, (WL G q1 r2)[61]? = some ((r2 60), e) ∧ ∀ H : Heap, va_at G.1 vwCl ((r2 60), e) H → va_at G.1 vwCl ((r2 60), cellOf (GX1 G q1 r2) s0 65 (.inr (1, 8, 0))) H := ⟨_, rfl, fun H h => h⟩
set_option maxRecDepth 100000 in
set_option maxHeartbeats 4000000 in
theorem wq_66 (G : Gx) (q1 : Nat) (r2 : Nat → Nat) : ∃ e, (WL G q1 r2)[62]? = some ((r2 61), e) ∧ ∀ H : Heap, va_at G.1 vwCl ((r2 61), e) H → va_at G.1 vwCl ((r2 61), cellOf (GX1 G q1 r2) s0 66 (.inr (1, 8, 0))) H := ⟨_, rfl, fun H h => h⟩
set_option maxRecDepth 100000 in
set_option maxHeartbeats 4000000 in
theorem wq_67 (G : Gx) (q1 : Nat) (r2 : Nat → Nat) : ∃ e, (WL G q1 r2)[63]? = some ((r2 62), e) ∧ ∀ H : Heap, va_at G.1 vwCl ((r2 62), e) H → va_at G.1 vwCl ((r2 62), cellOf (GX1 G q1 r2) s0 67 (.inr (1, 8, 0))) H := ⟨_, rfl, fun H h => h⟩
set_option maxRecDepth 100000 in
set_option maxHeartbeats 4000000 in
theorem wq_68 (G : Gx) (q1 : Nat) (r2 : Nat → Nat) : ∃ e, (WL G q1 r2)[64]? = some ((r2 63), e) ∧ ∀ H : Heap, va_at G.1 vwCl ((r2 63), e) H → va_at G.1 vwCl ((r2 63), cellOf (GX1 G q1 r2) s0 68 (.inr (1, 8, 0))) H := ⟨_, rfl, fun H h => h⟩
set_option maxRecDepth 100000 in
set_option maxHeartbeats 4000000 in
theorem wq_69 (G : Gx) (q1 : Nat) (r2 : Nat → Nat) : ∃ e, (WL G q1 r2)[65]? = some ((r2 64), e) ∧ ∀ H : Heap, va_at G.1 vwCl ((r2 64), e) H → va_at G.1 vwCl ((r2 64), cellOf (GX1 G q1 r2) s0 69 (.inr (1, 8, 0))) H := ⟨_, rfl, fun H h => h⟩
set_option maxRecDepth 100000 in
set_option maxHeartbeats 4000000 in
theorem wq_70 (G : Gx) (q1 : Nat) (r2 : Nat → Nat) : ∃ e, (WL G q1 r2)[66]? = some ((r2 65), e) ∧ ∀ H : Heap, va_at G.1 vwCl ((r2 65), e) H → va_at G.1 vwCl ((r2 65), cellOf (GX1 G q1 r2) s0 70 (.inr (1, 8, 0))) H := ⟨_, rfl, fun H h => h⟩
set_option maxRecDepth 100000 in
set_option maxHeartbeats 4000000 in
theorem wq_71 (G : Gx) (q1 : Nat) (r2 : Nat → Nat) : ∃ e, (WL G q1 r2)[67]? = some ((r2 66), e) ∧ ∀ H : Heap, va_at G.1 vwCl ((r2 66), e) H → va_at G.1 vwCl ((r2 66), cellOf (GX1 G q1 r2) s0 71 (.inr (1, 8, 0))) H := ⟨_, rfl, fun H h => h⟩
set_option maxRecDepth 100000 in
set_option maxHeartbeats 4000000 in
theorem wq_72 (G : Gx) (q1 : Nat) (r2 : Nat → Nat) : ∃ e, (WL G q1 r2)[68]? = some ((r2 67), e) ∧ ∀ H : Heap, va_at G.1 vwCl ((r2 67), e) H → va_at G.1 vwCl ((r2 67), cellOf (GX1 G q1 r2) s0 72 (.inr (1, 8, 0))) H := ⟨_, rfl, fun H h => h⟩
set_option maxRecDepth 100000 in
set_option maxHeartbeats 4000000 in
theorem wq_73 (G : Gx) (q1 : Nat) (r2 : Nat → Nat) : ∃ e, (WL G q1 r2)[69]? = some ((r2 68), e) ∧ ∀ H : Heap, va_at G.1 vwCl ((r2 68), e) H → va_at G.1 vwCl ((r2 68), cellOf (GX1 G q1 r2) s0 73 (.inr (1, 8, 0))) H := ⟨_, rfl, fun H h => h⟩
set_option maxRecDepth 100000 in
set_option maxHeartbeats 4000000 in
theorem wq_74 (G : Gx) (q1 : Nat) (r2 : Nat → Nat) : ∃ e, (WL G q1 r2)[70]? = some ((r2 69), e) ∧ ∀ H : Heap, va_at G.1 vwCl ((r2 69), e) H → va_at G.1 vwCl ((r2 69), cellOf (GX1 G q1 r2) s0 74 (.inr (1, 8, 0))) H := ⟨_, rfl, fun H h => h⟩
set_option maxRecDepth 100000 in
set_option maxHeartbeats 4000000 in
theorem wq_75 (G : Gx) (q1 : Nat) (r2 : Nat → Nat) : ∃ e, (WL G q1 r2)[72]? = some ((r2 71), e) ∧ ∀ H : Heap, va_at G.1 vwCl ((r2 71), e) H → va_at G.1 vwCl ((r2 71), cellOf (GX1 G q1 r2) s0 75 (.inr (1, 14, 0))) H := ⟨_, rfl, fun H h => h⟩
set_option maxRecDepth 100000 in
set_option maxHeartbeats 4000000 in
theorem wq_76 (G : Gx) (q1 : Nat) (r2 : Nat → Nat) : ∃ e, (WL G q1 r2)[73]? = some ((r2 72), e) ∧ ∀ H : Heap, va_at G.1 vwCl ((r2 72), e) H → va_at G.1 vwCl ((r2 72), cellOf (GX1 G q1 r2) s0 76 (.inr (1, 14, 0))) H := ⟨_, rfl, fun H h => h⟩
set_option maxRecDepth 100000 in
set_option maxHeartbeats 4000000 in
theorem wq_77 (G : Gx) (q1 : Nat) (r2 : Nat → Nat) : ∃ e, (WL G q1 r2)[74]? = some ((r2 73), e) ∧ ∀ H : Heap, va_at G.1 vwCl ((r2 73), e) H → va_at G.1 vwCl ((r2 73), cellOf (GX1 G q1 r2) s0 77 (.inr (1, 14, 0))) H := ⟨_, rfl, fun H h => h⟩
set_option maxRecDepth 100000 in
set_option maxHeartbeats 4000000 in
theorem wq_78 (G : Gx) (q1 : Nat) (r2 : Nat → Nat) : ∃ e, (WL G q1 r2)[75]? = some ((r2 74), e) ∧ ∀ H : Heap, va_at G.1 vwCl ((r2 74), e) H → va_at G.1 vwCl ((r2 74), cellOf (GX1 G q1 r2) s0 78 (.inr (1, 14, 0))) H := ⟨_, rfl, fun H h => h⟩
set_option maxRecDepth 100000 in
set_option maxHeartbeats 4000000 in
theorem wq_79 (G : Gx) (q1 : Nat) (r2 : Nat → Nat) : ∃ e, (WL G q1 r2)[76]? = some ((r2 75), e) ∧ ∀ H : Heap, va_at G.1 vwCl ((r2 75), e) H → va_at G.1 vwCl ((r2 75), cellOf (GX1 G q1 r2) s0 79 (.inr (1, 14, 0))) H := ⟨_, rfl, fun H h => h⟩
set_option maxRecDepth 100000 in
set_option maxHeartbeats 4000000 in
theorem wq_80 (G : Gx) (q1 : Nat) (r2 : Nat → Nat) : ∃ e, (WL G q1 r2)[77]? = some ((r2 76), e) ∧ ∀ H : Heap, va_at G.1 vwCl ((r2 76), e) H → va_at G.1 vwCl ((r2 76), cellOf (GX1 G q1 r2) s0 80 (.inr (1, 14, 0))) H := ⟨_, rfl, fun H h => h⟩
set_option maxRecDepth 100000 in
set_option maxHeartbeats 4000000 in
theorem wq_81 (G : Gx) (q1 : Nat) (r2 : Nat → Nat) : ∃ e, (WL G q1 r2)[78]? = some ((r2 77), e) ∧ ∀ H : Heap, va_at G.1 vwCl ((r2 77), e) H → va_at G.1 vwCl ((r2 77), cellOf (GX1 G q1 r2) s0 81 (.inr (1, 14, 0))) H := ⟨_, rfl, fun H h => h⟩
set_option maxRecDepth 100000 in
set_option maxHeartbeats 4000000 in
theorem wq_82 (G : Gx) (q1 : Nat) (r2 : Nat → Nat) : ∃ e, (WL G q1 r2)[79]? = some ((r2 78), e) ∧ ∀ H : Heap, va_at G.1 vwCl ((r2 78), e) H → va_at G.1 vwCl ((r2 78), cellOf (GX1 G q1 r2) s0 82 (.inr (1, 14, 0))) H := ⟨_, rfl, fun H h => h⟩
set_option maxRecDepth 100000 in
set_option maxHeartbeats 4000000 in
theorem wq_83 (G : Gx) (q1 : Nat) (r2 : Nat → Nat) : ∃ e, (WL G q1 r2)[83]? = some ((r2 82), e) ∧ ∀ H : Heap, va_at G.1 vwCl ((r2 82), e) H → va_at G.1 vwCl ((r2 82), cellOf (GX1 G q1 r2) s0 83 (.inl (5, [11, 57]))) H := ⟨_, rfl, fun H h => by rw [cellOf_mi]; exact h⟩
set_option maxRecDepth 100000 in
set_option maxHeartbeats 4000000 in
theorem wq_all (G : Gx) (q1 : Nat) (r2 : Nat → Nat) : ∀ k kd, lkL[k]? = some kd → ∃ e, (WL G q1 r2)[posL.getD k 0]? = some (lay (GX1 G q1 r2) k, e) ∧ ∀ H : Heap, va_at (GX1 G q1 r2).1 vwCl (lay (GX1 G q1 r2) k, e) H → va_at (GX1 G q1 r2).1 vwCl (lay (GX1 G q1 r2) k, cellOf (GX1 G q1 r2) s0 k kd) H := by
  intro k kd hk
  match k, hk with
  | 0, hk => obtain rfl := Option.some.inj ((show lkL[0]? = some (.inl (10, [3, 5, 10, 11, 52, 53, 57, 85, 0, 0])) from rfl).symm.trans hk); exact wq_0 G q1 r2
  | 1, hk => obtain rfl := Option.some.inj ((show lkL[1]? = some (.inl (8, [4, 0])) from rfl).symm.trans hk); exact wq_1 G q1 r2
  | 2, hk => obtain rfl := Option.some.inj ((show lkL[2]? = some (.inr (0, 1500, 0)) from rfl).symm.trans hk); exact wq_2 G q1 r2
  | 3, hk => obtain rfl := Option.some.inj ((show lkL[3]? = some (.inl (9, [6, 7, 8, 9, 0])) from rfl).symm.trans hk); exact wq_3 G q1 r2
  | 4, hk => obtain rfl := Option.some.inj ((show lkL[4]? = some (.inr (2, 17, 0)) from rfl).symm.trans hk); exact wq_4 G q1 r2
  | 5, hk => obtain rfl := Option.some.inj ((show lkL[5]? = some (.inr (1, 1501, 0)) from rfl).symm.trans hk); exact wq_5 G q1 r2
  | 6, hk => obtain rfl := Option.some.inj ((show lkL[6]? = some (.inr (1, 1501, 0)) from rfl).symm.trans hk); exact wq_6 G q1 r2
  | 7, hk => obtain rfl := Option.some.inj ((show lkL[7]? = some (.inr (2, 1501, 0)) from rfl).symm.trans hk); exact wq_7 G q1 r2
  | 8, hk => obtain rfl := Option.some.inj ((show lkL[8]? = some (.inl (1, [5, 0, 0])) from rfl).symm.trans hk); exact wq_8 G q1 r2
  | 9, hk => obtain rfl := Option.some.inj ((show lkL[9]? = some (.inl (6, [12, 14, 16, 18, 20, 25, 26, 27, 28, 29, 30, 31, 32, 33, 34, 35, 0])) from rfl).symm.trans hk); exact wq_9 G q1 r2
  | 10, hk => obtain rfl := Option.some.inj ((show lkL[10]? = some (.inl (4, [13, 0, 0])) from rfl).symm.trans hk); exact wq_10 G q1 r2
  | 11, hk => obtain rfl := Option.some.inj ((show lkL[11]? = some (.inr (2, 16, 0)) from rfl).symm.trans hk); exact wq_11 G q1 r2
  | 12, hk => obtain rfl := Option.some.inj ((show lkL[12]? = some (.inl (4, [15, 0, 0])) from rfl).symm.trans hk); exact wq_12 G q1 r2
  | 13, hk => obtain rfl := Option.some.inj ((show lkL[13]? = some (.inr (2, 16, 0)) from rfl).symm.trans hk); exact wq_13 G q1 r2
  | 14, hk => obtain rfl := Option.some.inj ((show lkL[14]? = some (.inl (4, [17, 0, 0])) from rfl).symm.trans hk); exact wq_14 G q1 r2
  | 15, hk => obtain rfl := Option.some.inj ((show lkL[15]? = some (.inr (2, 16, 0)) from rfl).symm.trans hk); exact wq_15 G q1 r2
  | 16, hk => obtain rfl := Option.some.inj ((show lkL[16]? = some (.inl (4, [19, 0, 0])) from rfl).symm.trans hk); exact wq_16 G q1 r2
  | 17, hk => obtain rfl := Option.some.inj ((show lkL[17]? = some (.inr (2, 16, 0)) from rfl).symm.trans hk); exact wq_17 G q1 r2
  | 18, hk => obtain rfl := Option.some.inj ((show lkL[18]? = some (.inl (7, [21, 22, 23, 24, 0])) from rfl).symm.trans hk); exact wq_18 G q1 r2
  | 19, hk => obtain rfl := Option.some.inj ((show lkL[19]? = some (.inr (1, 8, 0)) from rfl).symm.trans hk); exact wq_19 G q1 r2
  | 20, hk => obtain rfl := Option.some.inj ((show lkL[20]? = some (.inr (1, 8, 0)) from rfl).symm.trans hk); exact wq_20 G q1 r2
  | 21, hk => obtain rfl := Option.some.inj ((show lkL[21]? = some (.inr (1, 8, 0)) from rfl).symm.trans hk); exact wq_21 G q1 r2
  | 22, hk => obtain rfl := Option.some.inj ((show lkL[22]? = some (.inr (1, 8, 0)) from rfl).symm.trans hk); exact wq_22 G q1 r2
  | 23, hk => obtain rfl := Option.some.inj ((show lkL[23]? = some (.inr (1, 16, 0)) from rfl).symm.trans hk); exact wq_23 G q1 r2
  | 24, hk => obtain rfl := Option.some.inj ((show lkL[24]? = some (.inr (1, 16, 0)) from rfl).symm.trans hk); exact wq_24 G q1 r2
  | 25, hk => obtain rfl := Option.some.inj ((show lkL[25]? = some (.inr (1, 16, 0)) from rfl).symm.trans hk); exact wq_25 G q1 r2
  | 26, hk => obtain rfl := Option.some.inj ((show lkL[26]? = some (.inr (1, 16, 0)) from rfl).symm.trans hk); exact wq_26 G q1 r2
  | 27, hk => obtain rfl := Option.some.inj ((show lkL[27]? = some (.inr (1, 16, 0)) from rfl).symm.trans hk); exact wq_27 G q1 r2
  | 28, hk => obtain rfl := Option.some.inj ((show lkL[28]? = some (.inr (1, 16, 0)) from rfl).symm.trans hk); exact wq_28 G q1 r2
  | 29, hk => obtain rfl := Option.some.inj ((show lkL[29]? = some (.inr (1, 16, 0)) from rfl).symm.trans hk); exact wq_29 G q1 r2
  | 30, hk => obtain rfl := Option.some.inj ((show lkL[30]? = some (.inr (1, 16, 0)) from rfl).symm.trans hk); exact wq_30 G q1 r2
  | 31, hk => obtain rfl := Option.some.inj ((show lkL[31]? = some (.inr (3, 16, 34)) from rfl).symm.trans hk); exact wq_31 G q1 r2
  | 32, hk => obtain rfl := Option.some.inj ((show lkL[32]? = some (.inr (1, 8, 0)) from rfl).symm.trans hk); exact wq_32 G q1 r2
  | 33, hk => obtain rfl := Option.some.inj ((show lkL[33]? = some (.inr (1, 8, 0)) from rfl).symm.trans hk); exact wq_33 G q1 r2
  | 34, hk => obtain rfl := Option.some.inj ((show lkL[34]? = some (.inr (1, 16, 0)) from rfl).symm.trans hk); exact wq_34 G q1 r2
  | 35, hk => obtain rfl := Option.some.inj ((show lkL[35]? = some (.inr (1, 16, 0)) from rfl).symm.trans hk); exact wq_35 G q1 r2
  | 36, hk => obtain rfl := Option.some.inj ((show lkL[36]? = some (.inr (1, 16, 0)) from rfl).symm.trans hk); exact wq_36 G q1 r2
  | 37, hk => obtain rfl := Option.some.inj ((show lkL[37]? = some (.inr (1, 16, 0)) from rfl).symm.trans hk); exact wq_37 G q1 r2
  | 38, hk => obtain rfl := Option.some.inj ((show lkL[38]? = some (.inr (1, 16, 0)) from rfl).symm.trans hk); exact wq_38 G q1 r2
  | 39, hk => obtain rfl := Option.some.inj ((show lkL[39]? = some (.inr (1, 16, 0)) from rfl).symm.trans hk); exact wq_39 G q1 r2
  | 40, hk => obtain rfl := Option.some.inj ((show lkL[40]? = some (.inr (1, 16, 0)) from rfl).symm.trans hk); exact wq_40 G q1 r2
  | 41, hk => obtain rfl := Option.some.inj ((show lkL[41]? = some (.inr (1, 16, 0)) from rfl).symm.trans hk); exact wq_41 G q1 r2
  | 42, hk => obtain rfl := Option.some.inj ((show lkL[42]? = some (.inr (1, 16, 0)) from rfl).symm.trans hk); exact wq_42 G q1 r2
  | 43, hk => obtain rfl := Option.some.inj ((show lkL[43]? = some (.inr (1, 16, 0)) from rfl).symm.trans hk); exact wq_43 G q1 r2
  | 44, hk => obtain rfl := Option.some.inj ((show lkL[44]? = some (.inr (1, 16, 0)) from rfl).symm.trans hk); exact wq_44 G q1 r2
  | 45, hk => obtain rfl := Option.some.inj ((show lkL[45]? = some (.inr (1, 16, 0)) from rfl).symm.trans hk); exact wq_45 G q1 r2
  | 46, hk => obtain rfl := Option.some.inj ((show lkL[46]? = some (.inr (1, 16, 0)) from rfl).symm.trans hk); exact wq_46 G q1 r2
  | 47, hk => obtain rfl := Option.some.inj ((show lkL[47]? = some (.inr (1, 16, 0)) from rfl).symm.trans hk); exact wq_47 G q1 r2
  | 48, hk => obtain rfl := Option.some.inj ((show lkL[48]? = some (.inr (1, 16, 0)) from rfl).symm.trans hk); exact wq_48 G q1 r2
  | 49, hk => obtain rfl := Option.some.inj ((show lkL[49]? = some (.inr (1, 16, 0)) from rfl).symm.trans hk); exact wq_49 G q1 r2
  | 50, hk => obtain rfl := Option.some.inj ((show lkL[50]? = some (.inl (0, [5, 11, 0, 0])) from rfl).symm.trans hk); exact wq_50 G q1 r2
  | 51, hk => obtain rfl := Option.some.inj ((show lkL[51]? = some (.inl (2, [5, 11, 52, 54, 55, 56, 0, 0, 0, 0, 0, 1, 1])) from rfl).symm.trans hk); exact wq_51 G q1 r2
  | 52, hk => obtain rfl := Option.some.inj ((show lkL[52]? = some (.inr (1, 8, 0)) from rfl).symm.trans hk); exact wq_52 G q1 r2
  | 53, hk => obtain rfl := Option.some.inj ((show lkL[53]? = some (.inr (1, 8, 0)) from rfl).symm.trans hk); exact wq_53 G q1 r2
  | 54, hk => obtain rfl := Option.some.inj ((show lkL[54]? = some (.inr (1, 8, 0)) from rfl).symm.trans hk); exact wq_54 G q1 r2
  | 55, hk => obtain rfl := Option.some.inj ((show lkL[55]? = some (.inl (3, [11, 58, 59, 60, 61, 62, 0, 0])) from rfl).symm.trans hk); exact wq_55 G q1 r2
  | 56, hk => obtain rfl := Option.some.inj ((show lkL[56]? = some (.inr (3, 14, 61)) from rfl).symm.trans hk); exact wq_56 G q1 r2
  | 57, hk => obtain rfl := Option.some.inj ((show lkL[57]? = some (.inr (3, 8, 75)) from rfl).symm.trans hk); exact wq_57 G q1 r2
  | 58, hk => obtain rfl := Option.some.inj ((show lkL[58]? = some (.inr (1, 14, 0)) from rfl).symm.trans hk); exact wq_58 G q1 r2
  | 59, hk => obtain rfl := Option.some.inj ((show lkL[59]? = some (.inr (1, 16, 0)) from rfl).symm.trans hk); exact wq_59 G q1 r2
  | 60, hk => obtain rfl := Option.some.inj ((show lkL[60]? = some (.inr (1, 8, 0)) from rfl).symm.trans hk); exact wq_60 G q1 r2
  | 61, hk => obtain rfl := Option.some.inj ((show lkL[61]? = some (.inr (1, 8, 0)) from rfl).symm.trans hk); exact wq_61 G q1 r2
  | 62, hk => obtain rfl := Option.some.inj ((show lkL[62]? = some (.inr (1, 8, 0)) from rfl).symm.trans hk); exact wq_62 G q1 r2
  | 63, hk => obtain rfl := Option.some.inj ((show lkL[63]? = some (.inr (1, 8, 0)) from rfl).symm.trans hk); exact wq_63 G q1 r2
  | 64, hk => obtain rfl := Option.some.inj ((show lkL[64]? = some (.inr (1, 8, 0)) from rfl).symm.trans hk); exact wq_64 G q1 r2
  | 65, hk => obtain rfl := Option.some.inj ((show lkL[65]? = some (.inr (1, 8, 0)) from rfl).symm.trans hk); exact wq_65 G q1 r2
  | 66, hk => obtain rfl := Option.some.inj ((show lkL[66]? = some (.inr (1, 8, 0)) from rfl).symm.trans hk); exact wq_66 G q1 r2
  | 67, hk => obtain rfl := Option.some.inj ((show lkL[67]? = some (.inr (1, 8, 0)) from rfl).symm.trans hk); exact wq_67 G q1 r2
  | 68, hk => obtain rfl := Option.some.inj ((show lkL[68]? = some (.inr (1, 8, 0)) from rfl).symm.trans hk); exact wq_68 G q1 r2
  | 69, hk => obtain rfl := Option.some.inj ((show lkL[69]? = some (.inr (1, 8, 0)) from rfl).symm.trans hk); exact wq_69 G q1 r2
  | 70, hk => obtain rfl := Option.some.inj ((show lkL[70]? = some (.inr (1, 8, 0)) from rfl).symm.trans hk); exact wq_70 G q1 r2
  | 71, hk => obtain rfl := Option.some.inj ((show lkL[71]? = some (.inr (1, 8, 0)) from rfl).symm.trans hk); exact wq_71 G q1 r2
  | 72, hk => obtain rfl := Option.some.inj ((show lkL[72]? = some (.inr (1, 8, 0)) from rfl).symm.trans hk); exact wq_72 G q1 r2
  | 73, hk => obtain rfl := Option.some.inj ((show lkL[73]? = some (.inr (1, 8, 0)) from rfl).symm.trans hk); exact wq_73 G q1 r2
  | 74, hk => obtain rfl := Option.some.inj ((show lkL[74]? = some (.inr (1, 8, 0)) from rfl).symm.trans hk); exact wq_74 G q1 r2
  | 75, hk => obtain rfl := Option.some.inj ((show lkL[75]? = some (.inr (1, 14, 0)) from rfl).symm.trans hk); exact wq_75 G q1 r2
  | 76, hk => obtain rfl := Option.some.inj ((show lkL[76]? = some (.inr (1, 14, 0)) from rfl).symm.trans hk); exact wq_76 G q1 r2
  | 77, hk => obtain rfl := Option.some.inj ((show lkL[77]? = some (.inr (1, 14, 0)) from rfl).symm.trans hk); exact wq_77 G q1 r2
  | 78, hk => obtain rfl := Option.some.inj ((show lkL[78]? = some (.inr (1, 14, 0)) from rfl).symm.trans hk); exact wq_78 G q1 r2
  | 79, hk => obtain rfl := Option.some.inj ((show lkL[79]? = some (.inr (1, 14, 0)) from rfl).symm.trans hk); exact wq_79 G q1 r2
  | 80, hk => obtain rfl := Option.some.inj ((show lkL[80]? = some (.inr (1, 14, 0)) from rfl).symm.trans hk); exact wq_80 G q1 r2
  | 81, hk => obtain rfl := Option.some.inj ((show lkL[81]? = some (.inr (1, 14, 0)) from rfl).symm.trans hk); exact wq_81 G q1 r2
  | 82, hk => obtain rfl := Option.some.inj ((show lkL[82]? = some (.inr (1, 14, 0)) from rfl).symm.trans hk); exact wq_82 G q1 r2
  | 83, hk => obtain rfl := Option.some.inj ((show lkL[83]? = some (.inl (5, [11, 57])) from rfl).symm.trans hk); exact wq_83 G q1 r2
  | k + 84, hk => exact absurd (List.getElem?_eq_some_iff.mp hk).1 (by rw [lk_len]; unfold NC; omega)
end S91
