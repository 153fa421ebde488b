/-! the law's program: its words, its form, its meaning -/
section S97
variable {σ : Sg}
/-- the digits of a number -/
def dsF : Nat → Int → List Int
  | 0, _ => []
  | f + 1, n => (if 9 < n then dsF f (n / 10) else []) ++ [48 + n % 10]
def ds (n : Int) : List Int := dsF 4 n
theorem dsv_ok {n : Int} (h : 0 ≤ n ∧ n ≤ 9999) : okx (2, ds n) ∧ dv (ds n) 0 = n := by
  have key : ∀ l : List Int, ds n = l → (1 ≤ l.length ∧ l.length ≤ 4) → (∀ b ∈ l, 48 ≤ b ∧ b ≤ 57) → dv l 0 = n → okx (2, ds n) ∧ dv (ds n) 0 = n := by
    intro l hl h1 h2 h3
    rw [hl]
    exact ⟨Or.inr (Or.inr (Or.inl ⟨rfl, h1, h2, by rw [h3]; exact h⟩)), h3⟩
  by_cases c1 : 9 < n
  · by_cases c2 : 9 < n / 10
    · by_cases c3 : 9 < n / 10 / 10
      · refine key [48 + n / 10 / 10 / 10 % 10, 48 + n / 10 / 10 % 10, 48 + n / 10 % 10, 48 + n % 10] ?_ ⟨Nat.le_of_ble_eq_true rfl, Nat.le_of_ble_eq_true rfl⟩ ?_ ?_
        · unfold ds; simp only [dsF]; rw [if_pos c1, if_pos c2, if_pos c3, if_neg (by omega)]; rfl
        · intro b hb
          simp only [List.mem_cons, List.not_mem_nil, or_false] at hb
          omega
        · show ((((0 * 10 + (48 + n / 10 / 10 / 10 % 10 - 48)) * 10 + (48 + n / 10 / 10 % 10 - 48)) * 10 + (48 + n / 10 % 10 - 48)) * 10 + (48 + n % 10 - 48)) = n
          omega
      · refine key [48 + n / 10 / 10 % 10, 48 + n / 10 % 10, 48 + n % 10] ?_ ⟨Nat.le_of_ble_eq_true rfl, Nat.le_of_ble_eq_true rfl⟩ ?_ ?_
        · unfold ds; simp only [dsF]; rw [if_pos c1, if_pos c2, if_neg c3]; rfl
        · intro b hb
          simp only [List.mem_cons, List.not_mem_nil, or_false] at hb
          omega
        · show (((0 * 10 + (48 + n / 10 / 10 % 10 - 48)) * 10 + (48 + n / 10 % 10 - 48)) * 10 + (48 + n % 10 - 48)) = n
          omega
    · refine key [48 + n / 10 % 10, 48 + n % 10] ?_ ⟨Nat.le_of_ble_eq_true rfl, Nat.le_of_ble_eq_true rfl⟩ ?_ ?_
      · unfold ds; simp only [dsF]; rw [if_pos c1, if_neg c2]; rfl
      · intro b hb
        simp only [List.mem_cons, List.not_mem_nil, or_false] at hb
        omega
      · show ((0 * 10 + (48 + n / 10 % 10 - 48)) * 10 + (48 + n % 10 - 48)) = n
        omega
  · refine key [48 + n % 10] ?_ ⟨Nat.le_of_ble_eq_true rfl, Nat.le_of_ble_eq_true rfl⟩ ?_ ?_
    · unfold ds; simp only [dsF]; rw [if_neg c1]; rfl
    · intro b hb
      simp only [List.mem_cons, List.not_mem_nil, or_false] at hb
      omega
    · show (0 * 10 + (48 + n % 10 - 48)) = n
      omega
/-! the items' words -/
def sp : Lx := (0, [32])
def sc : Lx := (3, [59])
def wFood : Lx := (1, [102, 111, 111, 100])
def wDish : Lx := (1, [100, 105, 115, 104])
def wF (k : Nat) : Lx := (1, [102, 97 + k])
def wD (k : Nat) : Lx := (1, [100, 97 + k])
def wT : Lx := (1, [116])
def nu (n : Int) : Lx := (2, ds n)
def foodL (k : Nat) (e : Int) : List Lx := [wFood, sp, wF k, sp, nu e, sc]
def dishL (k : Nat) (t : Bool) : List Lx := [sp, wDish, sp, wD k, sp, (1, [102, 111, 114]), sp, (2, [49]), (3, [58]), sp, (2, [49, 48, 48]), sp, wF k] ++ (if t = true then [sp, (1, [105, 115]), sp, wT, sc] else [sc])
def mealL : List Lx := [(1, [109, 101, 97, 108]), sp, (1, [109]), (3, [58]), sp, wT, sp, (1, [111, 114]), sp, (1, [110, 111, 116]), sp, wT, (3, [44]), sp, (1, [110, 111, 116]), sp, wD 0, sc]
def wRule : Lx := (1, [114, 117, 108, 101])
/-- a rule: its sort, its numbers, its name (none: the tag t) -/
abbrev Rl : Type := Nat × Int × Int × Option Nat
def nmL (o : Option Nat) : Lx := match o with
  | none => wT
  | some j => wD j
def ruleL (R : Rl) : List Lx :=
  if R.1 = 0 then [wRule, sp, (1, [97, 112, 97, 114, 116]), sp, nu R.2.1, sp, nmL R.2.2.2, sc]
  else if R.1 = 1 then [wRule, sp, (1, [109, 111, 115, 116]), sp, nu R.2.1, sp, nmL R.2.2.2, sp, (1, [105, 110]), sp, nu R.2.2.1, sc]
  else if R.1 = 2 then [wRule, sp, (1, [108, 101, 97, 115, 116]), sp, nu R.2.1, sp, nmL R.2.2.2, sp, (1, [105, 110]), sp, nu R.2.2.1, sc]
  else [wRule, sp, (1, [101, 110, 101, 114, 103, 121]), sp, nu R.2.1, sp, (1, [116, 111]), sp, nu R.2.2.1, sc]
/-- what the law's numbers are -/
def RlOk (D : Nat) (R : Rl) : Prop := R.1 < 4 ∧ (R.1 = 0 → 1 ≤ R.2.1 ∧ R.2.1 ≤ 9) ∧ (R.1 = 1 → 0 ≤ R.2.1 ∧ R.2.1 ≤ 9) ∧ (R.1 = 2 → 1 ≤ R.2.1 ∧ R.2.1 ≤ 9) ∧ (R.1 = 3 → 0 ≤ R.2.1 ∧ R.2.1 ≤ 9999) ∧ (R.1 = 1 ∨ R.1 = 2 → 1 ≤ R.2.2.1 ∧ R.2.2.1 ≤ 14) ∧ (R.1 = 3 → R.2.1 ≤ R.2.2.1 ∧ R.2.2.1 ≤ 9999) ∧ (∀ j, R.2.2.2 = some j → j < D)
/-! an item's words end with a sign -/
def endS : List Lx → Prop
  | [] => False
  | [x] => x.1 = 3
  | _ :: y :: r => endS (y :: r)
def ItW (l : List Lx) (ts : List (Int × Int)) : Prop := WfL l ∧ endS l ∧ tkL l = ts
theorem wf_app : ∀ (a b : List Lx), WfL a → (a = [] ∨ endS a) → WfL b → WfL (a ++ b)
  | [], b, _, _, hb => hb
  | [x], b, ha, he, hb => by
    have he : x.1 = 3 := he.resolve_left (by intro z; cases z)
    exact ⟨ha.1, fun z => by omega, hb⟩
  | x :: y :: r, b, ha, he, hb => by
    have he : endS (y :: r) := he.resolve_left (by intro z; cases z)
    exact ⟨ha.1, fun z => ha.2.1 z, wf_app (y :: r) b ha.2.2 (Or.inr he) hb⟩
theorem tk_app : ∀ (a b : List Lx), tkL (a ++ b) = tkL a ++ tkL b
  | [], _ => rfl
  | x :: a, b => by
    show (if x.1 = 0 then tkL (a ++ b) else tk1 x :: tkL (a ++ b)) = (if x.1 = 0 then tkL a else tk1 x :: tkL a) ++ tkL b
    rw [tk_app a b]
    split <;> rfl
theorem by_app : ∀ (a b : List Lx), byL (a ++ b) = byL a ++ byL b
  | [], _ => rfl
  | x :: a, b => by
    show x.2 ++ byL (a ++ b) = (x.2 ++ byL a) ++ byL b
    rw [by_app a b, List.append_assoc]
theorem fl_app {α : Type} : ∀ (a b : List (List α)), flat (a ++ b) = flat a ++ flat b
  | [], _ => rfl
  | x :: a, b => by
    show x ++ flat (a ++ b) = (x ++ flat a) ++ flat b
    rw [fl_app a b, List.append_assoc]
/-! the items' tokens -/
theorem wf_w (w : List Int) (h : (decide (1 ≤ w.length ∧ w.length ≤ 10) && w.all (fun b => decide (97 ≤ b ∧ b ≤ 122)) && decide (0 ≤ wv w 0 ∧ wv w 0 < 205891132094649)) = true) : okx (1, w) := by
  simp only [Bool.and_eq_true, decide_eq_true_eq, List.all_eq_true] at h
  exact Or.inr (Or.inl ⟨rfl, h.1.1, h.1.2, h.2⟩)
theorem wf_n (w : List Int) (h : (decide (1 ≤ w.length ∧ w.length ≤ 4) && w.all (fun b => decide (48 ≤ b ∧ b ≤ 57)) && decide (0 ≤ dv w 0 ∧ dv w 0 ≤ 9999)) = true) : okx (2, w) := by
  simp only [Bool.and_eq_true, decide_eq_true_eq, List.all_eq_true] at h
  exact Or.inr (Or.inr (Or.inl ⟨rfl, h.1.1, h.1.2, h.2⟩))
theorem wf_sp : okx sp := Or.inl ⟨rfl, rfl⟩
theorem wf_sc : okx sc := Or.inr (Or.inr (Or.inr ⟨rfl, Or.inl rfl⟩))
theorem wf_co : okx (3, [58]) := Or.inr (Or.inr (Or.inr ⟨rfl, Or.inr (Or.inl rfl)⟩))
theorem wf_cm : okx (3, [44]) := Or.inr (Or.inr (Or.inr ⟨rfl, Or.inr (Or.inr rfl)⟩))
theorem wf_F {k : Nat} (h : k < 6) : okx (wF k) ∧ tk1 (wF k) = (22, (163 : Int) + k) := by
  have : ∀ k, k < 6 → ((decide (1 ≤ (wF k).2.length ∧ (wF k).2.length ≤ 10) && (wF k).2.all (fun b => decide (97 ≤ b ∧ b ≤ 122)) && decide (0 ≤ wv (wF k).2 0 ∧ wv (wF k).2 0 < 205891132094649)) = true) ∧ tk1 (wF k) = (22, (163 : Int) + k) := by decide +kernel
  exact ⟨wf_w _ (this k h).1, (this k h).2⟩
theorem wf_D {k : Nat} (h : k < 6) : okx (wD k) ∧ tk1 (wD k) = (22, (109 : Int) + k) := by
  have : ∀ k, k < 6 → ((decide (1 ≤ (wD k).2.length ∧ (wD k).2.length ≤ 10) && (wD k).2.all (fun b => decide (97 ≤ b ∧ b ≤ 122)) && decide (0 ≤ wv (wD k).2 0 ∧ wv (wD k).2 0 < 205891132094649)) = true) ∧ tk1 (wD k) = (22, (109 : Int) + k) := by decide +kernel
  exact ⟨wf_w _ (this k h).1, (this k h).2⟩
theorem tk_T : tk1 wT = (22, 20) := by decide +kernel
theorem tk_nu {n : Int} (h : 0 ≤ n ∧ n ≤ 9999) : tk1 (nu n) = (23, n) := by
  show (if (2 : Nat) = 1 then _ else if (2 : Nat) = 2 then (23, dv (ds n) 0) else _) = _
  rw [if_neg (by decide), if_pos rfl, (dsv_ok h).2]
theorem it_food {k : Nat} {e : Int} (hk : k < 6) (he : 0 ≤ e ∧ e ≤ 9999) : ItW (foodL k e) [(0, 129442), (22, 163 + k), (23, e), (17, 0)] := by
  refine ⟨⟨wf_w _ (by decide +kernel), fun _ => Or.inl rfl, wf_sp, fun z => by rcases z with z | z <;> exact absurd z (by decide), (wf_F hk).1, fun _ => Or.inl rfl, wf_sp, fun z => by rcases z with z | z <;> exact absurd z (by decide), (dsv_ok he).1, fun _ => Or.inr rfl, wf_sc, fun z => by rcases z with z | z <;> exact absurd z (by decide), trivial⟩, rfl, ?_⟩
  show [tk1 wFood, tk1 (wF k), tk1 (nu e), tk1 sc] = _
  rw [(wf_F hk).2, tk_nu he, show tk1 wFood = (0, 129442) from by decide +kernel, show tk1 sc = (17, 0) from by decide +kernel]
theorem it_dish {k : Nat} {t : Bool} (hk : k < 6) : ItW (dishL k t) (([(1, 85814), (22, 109 + k), (2, 4797), (23, 1), (18, 0), (23, 100), (22, 163 + k)] : List (Int × Int)) ++ (if t = true then ([(3, 262), (22, 20), (17, 0)] : List (Int × Int)) else [(17, 0)])) := by
  have no : ∀ {x : Lx} {P : Prop}, x.1 = 0 ∨ x.1 = 3 → (x.1 = 1 ∨ x.1 = 2 → P) := fun h z => by omega
  have e1 : tk1 wDish = (1, 85814) := by decide +kernel
  have e2 : tk1 (1, [102, 111, 114]) = (2, 4797) := by decide +kernel
  have e3 : tk1 (2, [49]) = (23, 1) := by decide +kernel
  have e4 : tk1 (3, [58]) = (18, 0) := by decide +kernel
  have e5 : tk1 (2, [49, 48, 48]) = (23, 100) := by decide +kernel
  have e6 : tk1 sc = (17, 0) := by decide +kernel
  have e7 : tk1 (1, [105, 115]) = (3, 262) := by decide +kernel
  cases t with
  | true =>
    refine ⟨⟨wf_sp, no (Or.inl rfl), wf_w _ (by decide +kernel), fun _ => Or.inl rfl, wf_sp, no (Or.inl rfl), (wf_D hk).1, fun _ => Or.inl rfl, wf_sp, no (Or.inl rfl), wf_w _ (by decide +kernel), fun _ => Or.inl rfl, wf_sp, no (Or.inl rfl), wf_n _ (by decide +kernel), fun _ => Or.inr rfl, wf_co, no (Or.inr rfl), wf_sp, no (Or.inl rfl), wf_n _ (by decide +kernel), fun _ => Or.inl rfl, wf_sp, no (Or.inl rfl), (wf_F hk).1, fun _ => Or.inl rfl, wf_sp, no (Or.inl rfl), wf_w _ (by decide +kernel), fun _ => Or.inl rfl, wf_sp, no (Or.inl rfl), wf_w _ (by decide +kernel), fun _ => Or.inr rfl, wf_sc, no (Or.inr rfl), trivial⟩, rfl, ?_⟩
    show [tk1 wDish, tk1 (wD k), tk1 (1, [102, 111, 114]), tk1 (2, [49]), tk1 (3, [58]), tk1 (2, [49, 48, 48]), tk1 (wF k), tk1 (1, [105, 115]), tk1 wT, tk1 sc] = _
    rw [e1, e2, e3, e4, e5, e6, e7, (wf_D hk).2, (wf_F hk).2, tk_T]
    rfl
  | false =>
    refine ⟨⟨wf_sp, no (Or.inl rfl), wf_w _ (by decide +kernel), fun _ => Or.inl rfl, wf_sp, no (Or.inl rfl), (wf_D hk).1, fun _ => Or.inl rfl, wf_sp, no (Or.inl rfl), wf_w _ (by decide +kernel), fun _ => Or.inl rfl, wf_sp, no (Or.inl rfl), wf_n _ (by decide +kernel), fun _ => Or.inr rfl, wf_co, no (Or.inr rfl), wf_sp, no (Or.inl rfl), wf_n _ (by decide +kernel), fun _ => Or.inl rfl, wf_sp, no (Or.inl rfl), (wf_F hk).1, fun _ => Or.inr rfl, wf_sc, no (Or.inr rfl), trivial⟩, rfl, ?_⟩
    show [tk1 wDish, tk1 (wD k), tk1 (1, [102, 111, 114]), tk1 (2, [49]), tk1 (3, [58]), tk1 (2, [49, 48, 48]), tk1 (wF k), tk1 sc] = _
    rw [e1, e2, e3, e4, e5, e6, (wf_D hk).2, (wf_F hk).2]
    rfl
theorem it_meal : ItW mealL [(5, 259563), (22, 13), (18, 0), (22, 20), (14, 423), (15, 10631), (22, 20), (19, 0), (15, 10631), (22, 109), (17, 0)] := by
  have no : ∀ {x : Lx} {P : Prop}, x.1 = 0 ∨ x.1 = 3 → (x.1 = 1 ∨ x.1 = 2 → P) := fun h z => by omega
  exact ⟨⟨wf_w _ (by decide +kernel), fun _ => Or.inl rfl, wf_sp, no (Or.inl rfl), wf_w _ (by decide +kernel), fun _ => Or.inr rfl, wf_co, no (Or.inr rfl), wf_sp, no (Or.inl rfl), wf_w _ (by decide +kernel), fun _ => Or.inl rfl, wf_sp, no (Or.inl rfl), wf_w _ (by decide +kernel), fun _ => Or.inl rfl, wf_sp, no (Or.inl rfl), wf_w _ (by decide +kernel), fun _ => Or.inl rfl, wf_sp, no (Or.inl rfl), wf_w _ (by decide +kernel), fun _ => Or.inr rfl, wf_cm, no (Or.inr rfl), wf_sp, no (Or.inl rfl), wf_w _ (by decide +kernel), fun _ => Or.inl rfl, wf_sp, no (Or.inl rfl), (wf_D (k := 0) (by decide)).1, fun _ => Or.inr rfl, wf_sc, no (Or.inr rfl), trivial⟩, rfl, by decide +kernel⟩
def nmV2 (o : Option Nat) : Int := match o with
  | none => 20
  | some j => 109 + j
theorem wf_nm {D : Nat} {o : Option Nat} (hD : D ≤ 6) (h : ∀ j, o = some j → j < D) : okx (nmL o) ∧ tk1 (nmL o) = (22, nmV2 o) ∧ (nmL o).1 = 1 := by
  cases o with
  | none => exact ⟨wf_w _ (by decide +kernel), tk_T, rfl⟩
  | some j => exact ⟨(wf_D (by have := h j rfl; omega)).1, (wf_D (by have := h j rfl; omega)).2, rfl⟩
def ruT (R : Rl) : List (Int × Int) :=
  if R.1 = 0 then [(6, 369932), (7, 847604), (23, R.2.1), (22, nmV2 R.2.2.2), (17, 0)]
  else if R.1 = 1 then [(6, 369932), (8, 267347), (23, R.2.1), (22, nmV2 R.2.2.2), (10, 257), (23, R.2.2.1), (17, 0)]
  else if R.1 = 2 then [(6, 369932), (9, 6476969), (23, R.2.1), (22, nmV2 R.2.2.2), (10, 257), (23, R.2.2.1), (17, 0)]
  else [(6, 369932), (11, 79296460), (23, R.2.1), (12, 555), (23, R.2.2.1), (17, 0)]
theorem it_rule {D : Nat} {R : Rl} (hD : D ≤ 6) (h : RlOk D R) : ItW (ruleL R) (ruT R) := by
  have no : ∀ {x : Lx} {P : Prop}, x.1 = 0 ∨ x.1 = 3 → (x.1 = 1 ∨ x.1 = 2 → P) := fun h z => by omega
  obtain ⟨s, v1, v3, o⟩ := R
  obtain ⟨h0, h1, h2, h3, h4, h5, h6, h7⟩ := h
  dsimp only at h0 h1 h2 h3 h4 h5 h6 h7
  obtain ⟨n1, n2, n3⟩ := wf_nm hD h7
  have e1 : tk1 wRule = (6, 369932) := by decide +kernel
  have e6 : tk1 sc = (17, 0) := by decide +kernel
  have ein : tk1 (1, [105, 110]) = (10, 257) := by decide +kernel
  have eto : tk1 (1, [116, 111]) = (12, 555) := by decide +kernel
  have nn : ¬ (nmL o).1 = 0 := by rw [n3]; decide
  have cs : s = 0 ∨ s = 1 ∨ s = 2 ∨ s = 3 := by omega
  rcases cs with rfl | rfl | rfl | rfl
  · have a1 := h1 rfl
    have ek : tk1 (1, [97, 112, 97, 114, 116]) = (7, 847604) := by decide +kernel
    show ItW [wRule, sp, (1, [97, 112, 97, 114, 116]), sp, nu v1, sp, nmL o, sc] [(6, 369932), (7, 847604), (23, v1), (22, nmV2 o), (17, 0)]
    refine ⟨⟨wf_w _ (by decide +kernel), fun _ => Or.inl rfl, wf_sp, no (Or.inl rfl), wf_w _ (by decide +kernel), fun _ => Or.inl rfl, wf_sp, no (Or.inl rfl), (dsv_ok (by omega)).1, fun _ => Or.inl rfl, wf_sp, no (Or.inl rfl), n1, fun _ => Or.inr rfl, wf_sc, no (Or.inr rfl), trivial⟩, rfl, ?_⟩
    show tk1 wRule :: tk1 (1, [97, 112, 97, 114, 116]) :: tk1 (nu v1) :: (if (nmL o).1 = 0 then [tk1 sc] else [tk1 (nmL o), tk1 sc]) = _
    rw [if_neg nn, e1, ek, tk_nu (by omega), n2, e6]
  · have a1 := h2 rfl
    have a3 := h5 (Or.inl rfl)
    have ek : tk1 (1, [109, 111, 115, 116]) = (8, 267347) := by decide +kernel
    show ItW [wRule, sp, (1, [109, 111, 115, 116]), sp, nu v1, sp, nmL o, sp, (1, [105, 110]), sp, nu v3, sc] [(6, 369932), (8, 267347), (23, v1), (22, nmV2 o), (10, 257), (23, v3), (17, 0)]
    refine ⟨⟨wf_w _ (by decide +kernel), fun _ => Or.inl rfl, wf_sp, no (Or.inl rfl), wf_w _ (by decide +kernel), fun _ => Or.inl rfl, wf_sp, no (Or.inl rfl), (dsv_ok (by omega)).1, fun _ => Or.inl rfl, wf_sp, no (Or.inl rfl), n1, fun _ => Or.inl rfl, wf_sp, no (Or.inl rfl), wf_w _ (by decide +kernel), fun _ => Or.inl rfl, wf_sp, no (Or.inl rfl), (dsv_ok (by omega)).1, fun _ => Or.inr rfl, wf_sc, no (Or.inr rfl), trivial⟩, rfl, ?_⟩
    show tk1 wRule :: tk1 (1, [109, 111, 115, 116]) :: tk1 (nu v1) :: (if (nmL o).1 = 0 then [tk1 (1, [105, 110]), tk1 (nu v3), tk1 sc] else [tk1 (nmL o), tk1 (1, [105, 110]), tk1 (nu v3), tk1 sc]) = _
    rw [if_neg nn, e1, ek, tk_nu (by omega), tk_nu (by omega), n2, e6, ein]
  · have a1 := h3 rfl
    have a3 := h5 (Or.inr rfl)
    have ek : tk1 (1, [108, 101, 97, 115, 116]) = (9, 6476969) := by decide +kernel
    show ItW [wRule, sp, (1, [108, 101, 97, 115, 116]), sp, nu v1, sp, nmL o, sp, (1, [105, 110]), sp, nu v3, sc] [(6, 369932), (9, 6476969), (23, v1), (22, nmV2 o), (10, 257), (23, v3), (17, 0)]
    refine ⟨⟨wf_w _ (by decide +kernel), fun _ => Or.inl rfl, wf_sp, no (Or.inl rfl), wf_w _ (by decide +kernel), fun _ => Or.inl rfl, wf_sp, no (Or.inl rfl), (dsv_ok (by omega)).1, fun _ => Or.inl rfl, wf_sp, no (Or.inl rfl), n1, fun _ => Or.inl rfl, wf_sp, no (Or.inl rfl), wf_w _ (by decide +kernel), fun _ => Or.inl rfl, wf_sp, no (Or.inl rfl), (dsv_ok (by omega)).1, fun _ => Or.inr rfl, wf_sc, no (Or.inr rfl), trivial⟩, rfl, ?_⟩
    show tk1 wRule :: tk1 (1, [108, 101, 97, 115, 116]) :: tk1 (nu v1) :: (if (nmL o).1 = 0 then [tk1 (1, [105, 110]), tk1 (nu v3), tk1 sc] else [tk1 (nmL o), tk1 (1, [105, 110]), tk1 (nu v3), tk1 sc]) = _
    rw [if_neg nn, e1, ek, tk_nu (by omega), tk_nu (by omega), n2, e6, ein]
  · have a1 := h4 rfl
    have a3 := h6 rfl
    have ek : tk1 (1, [101, 110, 101, 114, 103, 121]) = (11, 79296460) := by decide +kernel
    show ItW [wRule, sp, (1, [101, 110, 101, 114, 103, 121]), sp, nu v1, sp, (1, [116, 111]), sp, nu v3, sc] [(6, 369932), (11, 79296460), (23, v1), (12, 555), (23, v3), (17, 0)]
    refine ⟨⟨wf_w _ (by decide +kernel), fun _ => Or.inl rfl, wf_sp, no (Or.inl rfl), wf_w _ (by decide +kernel), fun _ => Or.inl rfl, wf_sp, no (Or.inl rfl), (dsv_ok (by omega)).1, fun _ => Or.inl rfl, wf_sp, no (Or.inl rfl), wf_w _ (by decide +kernel), fun _ => Or.inl rfl, wf_sp, no (Or.inl rfl), (dsv_ok (by omega)).1, fun _ => Or.inr rfl, wf_sc, no (Or.inr rfl), trivial⟩, rfl, ?_⟩
    show tk1 wRule :: tk1 (1, [101, 110, 101, 114, 103, 121]) :: tk1 (nu v1) :: tk1 (1, [116, 111]) :: tk1 (nu v3) :: [tk1 sc] = _
    rw [e1, ek, tk_nu (by omega), tk_nu (by omega), e6, eto]
/-! the whole program -/
def fdR (e : Nat → Int) (t : Nat → Bool) : Nat → Nat → List (List Lx)
  | _, 0 => []
  | k, m + 1 => foodL k (e k) :: dishL k (t k) :: fdR e t (k + 1) m
theorem fdR_s (e : Nat → Int) (t : Nat → Bool) : ∀ (m k : Nat), fdR e t k (m + 1) = fdR e t k m ++ [foodL (k + m) (e (k + m)), dishL (k + m) (t (k + m))]
  | 0, k => rfl
  | m + 1, k => by
    show foodL k (e k) :: dishL k (t k) :: fdR e t (k + 1) (m + 1) = _
    rw [fdR_s e t m (k + 1), show k + 1 + m = k + (m + 1) from by omega]
    rfl
def prog (D : Nat) (e : Nat → Int) (t : Nat → Bool) (Rs : List Rl) : List (List Lx) := fdR e t 0 D ++ mealL :: Rs.map ruleL
def PgOk (D : Nat) (e : Nat → Int) (t : Nat → Bool) (Rs : List Rl) : Prop := (2 ≤ D ∧ D ≤ 6) ∧ (∀ k, k < D → 0 ≤ e k ∧ e k ≤ 900) ∧ t 0 = true ∧ Rs.length ≤ 5 ∧ ∀ R ∈ Rs, RlOk D R
/-- the kinds of an item are read whole -/
def ItF (l : List Lx) : Prop := WfL l ∧ endS l ∧ ItK ((tkL l).map Prod.fst) ∧ l.length ≤ 20 ∧ ∀ x ∈ tkL l, (0 ≤ x.1 ∧ x.1 ≤ 25) ∧ 0 ≤ x.2 ∧ x.2 < 205891132094649
theorem if_food {k : Nat} {e : Int} (hk : k < 6) (he : 0 ≤ e ∧ e ≤ 900) : ItF (foodL k e) := by
  obtain ⟨h1, h2, h3⟩ := it_food (k := k) (e := e) hk (by omega)
  refine ⟨h1, h2, by rw [h3]; exact iFood, by show 6 ≤ 20; decide, fun x hx => ?_⟩
  rw [h3] at hx
  simp only [List.mem_cons, List.not_mem_nil, or_false] at hx
  rcases hx with rfl | rfl | rfl | rfl <;> dsimp only <;> omega
theorem if_dish {k : Nat} {t : Bool} (hk : k < 6) : ItF (dishL k t) := by
  obtain ⟨h1, h2, h3⟩ := it_dish (k := k) (t := t) hk
  cases t with
  | true =>
    refine ⟨h1, h2, by rw [h3]; exact iDishT, by show 18 ≤ 20; decide, fun x hx => ?_⟩
    rw [h3] at hx
    simp only [if_true, List.cons_append, List.nil_append, List.mem_cons, List.not_mem_nil, or_false] at hx
    rcases hx with rfl | rfl | rfl | rfl | rfl | rfl | rfl | rfl | rfl | rfl <;> dsimp only <;> omega
  | false =>
    refine ⟨h1, h2, by rw [h3]; exact iDish, by show 14 ≤ 20; decide, fun x hx => ?_⟩
    rw [h3, if_neg (by decide)] at hx
    simp only [List.cons_append, List.nil_append, List.mem_cons, List.not_mem_nil, or_false] at hx
    rcases hx with rfl | rfl | rfl | rfl | rfl | rfl | rfl | rfl <;> dsimp only <;> omega
theorem if_meal : ItF mealL := by
  obtain ⟨h1, h2, h3⟩ := it_meal
  refine ⟨h1, h2, by rw [h3]; exact iMeal, by show 18 ≤ 20; decide, fun x hx => ?_⟩
  rw [h3] at hx
  simp only [List.mem_cons, List.not_mem_nil, or_false] at hx
  rcases hx with rfl | rfl | rfl | rfl | rfl | rfl | rfl | rfl | rfl | rfl | rfl <;> dsimp only <;> omega
theorem nmV2_bd {D : Nat} {o : Option Nat} (hD : D ≤ 6) (h : ∀ j, o = some j → j < D) : 0 ≤ nmV2 o ∧ nmV2 o ≤ 200 := by
  cases o with
  | none => exact ⟨by decide, by decide⟩
  | some j =>
    have := h j rfl
    show 0 ≤ (109 : Int) + j ∧ (109 : Int) + j ≤ 200
    omega
theorem if_rule {D : Nat} {R : Rl} (hD : D ≤ 6) (h : RlOk D R) : ItF (ruleL R) := by
  obtain ⟨g1, g2, g3⟩ := it_rule hD h
  obtain ⟨s, v1, v3, o⟩ := R
  obtain ⟨h0, h1, h2, h3, h4, h5, h6, h7⟩ := h
  dsimp only at h0 h1 h2 h3 h4 h5 h6 h7
  have hb := nmV2_bd hD h7
  have cs : s = 0 ∨ s = 1 ∨ s = 2 ∨ s = 3 := by omega
  refine ⟨g1, g2, ?_, ?_, ?_⟩ <;> rw [g3] at *
  · rcases cs with rfl | rfl | rfl | rfl
    · exact iRule0
    · exact iRule1
    · exact iRule2
    · exact iRule3
  · rcases cs with rfl | rfl | rfl | rfl
    · show 8 ≤ 20; decide
    · show 12 ≤ 20; decide
    · show 12 ≤ 20; decide
    · show 10 ≤ 20; decide
  · intro x hx
    rcases cs with rfl | rfl | rfl | rfl
    · have a1 := h1 rfl
      have hx : x ∈ [((6 : Int), (369932 : Int)), (7, 847604), (23, v1), (22, nmV2 o), (17, 0)] := hx
      simp only [List.mem_cons, List.not_mem_nil, or_false] at hx
      rcases hx with rfl | rfl | rfl | rfl | rfl <;> dsimp only <;> omega
    · have a1 := h2 rfl
      have a3 := h5 (Or.inl rfl)
      have hx : x ∈ [((6 : Int), (369932 : Int)), (8, 267347), (23, v1), (22, nmV2 o), (10, 257), (23, v3), (17, 0)] := hx
      simp only [List.mem_cons, List.not_mem_nil, or_false] at hx
      rcases hx with rfl | rfl | rfl | rfl | rfl | rfl | rfl <;> dsimp only <;> omega
    · have a1 := h3 rfl
      have a3 := h5 (Or.inr rfl)
      have hx : x ∈ [((6 : Int), (369932 : Int)), (9, 6476969), (23, v1), (22, nmV2 o), (10, 257), (23, v3), (17, 0)] := hx
      simp only [List.mem_cons, List.not_mem_nil, or_false] at hx
      rcases hx with rfl | rfl | rfl | rfl | rfl | rfl | rfl <;> dsimp only <;> omega
    · have a1 := h4 rfl
      have a3 := h6 rfl
      have hx : x ∈ [((6 : Int), (369932 : Int)), (11, 79296460), (23, v1), (12, 555), (23, v3), (17, 0)] := hx
      simp only [List.mem_cons, List.not_mem_nil, or_false] at hx
      rcases hx with rfl | rfl | rfl | rfl | rfl | rfl <;> dsimp only <;> omega
theorem fdR_if {e : Nat → Int} {t : Nat → Bool} : ∀ (m k : Nat), k + m ≤ 6 → (∀ j, j < k + m → 0 ≤ e j ∧ e j ≤ 900) → (∀ l ∈ fdR e t k m, ItF l) ∧ (fdR e t k m).length = 2 * m
  | 0, k, _, _ => ⟨fun l hl => (by cases hl), rfl⟩
  | m + 1, k, h, he => by
    obtain ⟨h1, h2⟩ := fdR_if (e := e) (t := t) m (k + 1) (by omega) (fun j hj => he j (by omega))
    refine ⟨fun l hl => ?_, ?_⟩
    · have hl : l ∈ foodL k (e k) :: dishL k (t k) :: fdR e t (k + 1) m := hl
      simp only [List.mem_cons] at hl
      rcases hl with rfl | rfl | hl
      · exact if_food (by omega) (he k (by omega))
      · exact if_dish (by omega)
      · exact h1 l hl
    · show (fdR e t (k + 1) m).length + 1 + 1 = _
      omega
theorem pg_if {D : Nat} {e : Nat → Int} {t : Nat → Bool} {Rs : List Rl} (h : PgOk D e t Rs) : (∀ l ∈ prog D e t Rs, ItF l) ∧ (prog D e t Rs).length ≤ 18 := by
  obtain ⟨hD, he, ht, hn, hR⟩ := h
  obtain ⟨h1, h2⟩ := fdR_if (e := e) (t := t) D 0 (by omega) (fun j hj => he j (by omega))
  refine ⟨fun l hl => ?_, ?_⟩
  · unfold prog at hl
    rcases List.mem_append.mp hl with hl | hl
    · exact h1 l hl
    · rcases List.mem_cons.mp hl with rfl | hl
      · exact if_meal
      · obtain ⟨R, hR1, rfl⟩ := List.mem_map.mp hl
        exact if_rule hD.2 (hR R hR1)
  · unfold prog
    rw [List.length_append, List.length_cons, List.length_map, h2]; omega
/-- what holds of each item holds of the text -/
theorem flt_ok {is : List (List Lx)} (h : ∀ l ∈ is, ItF l) : WfL (flat is) ∧ (flat is = [] ∨ endS (flat is)) ∧ (flat is).length ≤ 20 * is.length ∧ (tkL (flat is)).map Prod.fst = flat (is.map (fun l => (tkL l).map Prod.fst)) ∧ ∀ x ∈ tkL (flat is), (0 ≤ x.1 ∧ x.1 ≤ 25) ∧ 0 ≤ x.2 ∧ x.2 < 205891132094649 := by
  induction is with
  | nil => exact ⟨trivial, Or.inl rfl, Nat.le_refl _, rfl, fun x hx => by cases hx⟩
  | cons l is ih =>
    obtain ⟨g1, g2, g3, g4, g5⟩ := h l List.mem_cons_self
    obtain ⟨i1, i2, i3, i4, i5⟩ := ih (fun x hx => h x (List.mem_cons_of_mem _ hx))
    have e : flat (l :: is) = l ++ flat is := rfl
    refine ⟨wf_app l _ g1 (Or.inr g2) i1, Or.inr ?_, ?_, ?_, ?_⟩
    · rw [e]
      rcases i2 with z | z
      · rw [z, List.append_nil]; exact g2
      · have key : ∀ a b : List Lx, endS b → endS (a ++ b) := by
          intro a
          induction a with
          | nil => intro b hb; exact hb
          | cons x a ih =>
            intro b hb
            have := ih b hb
            cases hab : a ++ b with
            | nil => rw [hab] at this; exact absurd this (by intro z; exact z)
            | cons y r =>
              show endS (x :: (a ++ b))
              rw [hab] at this ⊢
              exact this
        exact key l _ z
    · rw [e, List.length_append, List.length_cons]; omega
    · rw [e, tk_app, List.map_append, i4]; rfl
    · intro x hx
      rw [e, tk_app] at hx
      rcases List.mem_append.mp hx with hx | hx
      · exact g5 x hx
      · exact i5 x hx
end S97
