/-! the reference: words, numbers, bytes -/
section S32
variable {l : Launch} {G : Gx}
def isF (σ : Sg) (t i : Nat) : Nat → Int → Bool
  | 0, _ => true
  | n + 1, k => if σ 85 (σ 87 t + k).toNat = kb i k.toNat then isF σ t i n (k + 1) else false
def isR (σ : Sg) (t i : Nat) : Bool := decide ((σ 86 t = 1 ∨ σ 86 t = 3) ∧ σ 88 t - σ 87 t = kl i) && isF σ t i (kl i).toNat 0
def nmF (σ : Sg) (t : Nat) : Nat → Int → Bool
  | 0, _ => true
  | n + 1, i => !(isR σ t i.toNat) && nmF σ t n (i + 1)
def nmR (σ : Sg) (t : Nat) : Bool := decide (σ 86 t = 1) && nmF σ t 17 0
def nmG (σ : Sg) (k a : Int) : Int := 27 * a + σ 85 k.toNat - 96
def nmV (σ : Sg) (t : Nat) : Int := fW (σ 88 t) (nmG σ) 1500 (σ 87 t) 0
def nuG (σ : Sg) (k a : Int) : Int := 10 * a + σ 85 k.toNat - 48
def nuV (σ : Sg) (t : Nat) : Int := fW (σ 88 t) (nuG σ) 1500 (σ 87 t) 0
def fnG (σ : Sg) (ka : Nat) (v k a : Int) : Int := if I64 (σ ka k.toNat) = I64 v then k else a
def fnC (σ : Sg) (ka : Nat) (many v : Int) : Int := fW many (fnG σ ka v) 16 0 (-1)
theorem fW_inv {α : Type} {sz : Int} {g : Int → α → α} (P : α → Prop) (h : ∀ i a, 0 ≤ i → i < sz → P a → P (g i a)) : ∀ (n : Nat) (i : Int) (a : α), 0 ≤ i → P a → P (fW sz g n i a)
  | 0, _, _, _, h0 => h0
  | n + 1, i, a, hi, h0 => by
    rw [fW_s]
    split
    · exact fW_inv P h n (i + 1) _ (by omega) (h i a hi (by assumption) h0)
    · exact h0
theorem fnC_in {σ : Sg} {ka : Nat} {many v : Int} (h : 0 ≤ many ∧ many ≤ 16) : -1 ≤ fnC σ ka many v ∧ fnC σ ka many v < many := by
  have := fW_inv (sz := many) (g := fnG σ ka v) (fun a => -1 ≤ a ∧ a < many) (fun i a h0 h1 h2 => by unfold fnG; split <;> omega) 16 0 (-1) (by omega) (by omega)
  exact this
theorem fnC_i32 {σ : Sg} {ka : Nat} {many v : Int} (h : 0 ≤ many ∧ many ≤ 16) : i32 (fnC σ ka many v) = fnC σ ka many v := i32_n _ (by have := fnC_in (σ := σ) (ka := ka) (v := v) h; omega)
def tknR (σ : Sg) (v : Int) : Bool := decide (¬ fnC σ 89 (σ 84 10) v = -1 ∨ ¬ fnC σ 93 (σ 84 15) v = -1 ∨ ¬ fnC σ 100 (σ 84 23) v = -1)
set_option maxRecDepth 100000 in
set_option maxHeartbeats 4000000 in
theorem w_X11_is {f : Fm} (σ : Sg) (hb : Rb σ) (ht : Rt σ) (t : Int) (i : Nat) (h : 0 ≤ t ∧ t ≤ 1500) (hi : i < 24) : ∀ (n : Nat) (k : Int) (p : Bool) (r : Option Value), 0 ≤ k → k + n = kl i → (p = true → σ 88 t.toNat - σ 87 t.toNat = kl i) → r = some (.int (I32 (b2i (p && isF σ t.toNat i n k)))) → AW l G f (RX11, cX11_is, 5, (some .boolean)) (4, 0, 0) (QT G f 0 0 r σ) [] 0 0 49 [(4, .int (I32 k)), (3, .int (I32 (b2i p))), (0, .ref (lay G 84)), (1, .int (I32 t)), (2, .ref (G.2.2.2.1 i))] [] σ := by
  intro n
  induction n using Nat.strongRecOn with | _ n ih =>
  intro k p r h0 hn hp hr
  have hz0 := kl_0 i hi
  have ht1 := ht t.toNat
  have hb4 := hb.2 (σ 87 t.toNat + k).toNat
  have hkk : i32 k = k := i32_n k (by omega)
  refine A_iload dX11_is_49 0 rfl ?_
  refine A_aload_n dX11_is_51 rfl 4 rfl ?_
  refine A_Ka0 hi mv_X11_123 rfl (c_J0_length_8abf5 _ _ (by first | assumption | decide | omega)) (Nat.le_of_ble_eq_true rfl) (by omega) (by omega) dX11_is_52 ?_
  refine J_icmp_ge (tgt := 97) dX11_is_55 (by decide) (by first | exact kl_i32 _ (by assumption) | exact i32_eq (by assumption) | exact i32_eq ⟨by omega, by omega⟩ | with_reducible exact i32_i32 _ | with_reducible exact i32_eq (b2i_inr _) | rfl) (by first | exact kl_i32 _ (by assumption) | exact i32_eq (by assumption) | exact i32_eq ⟨by omega, by omega⟩ | with_reducible exact i32_i32 _ | with_reducible exact i32_eq (b2i_inr _) | rfl) (fun h55 => ?_) (fun h55 => ?_)
  · refine A_iload_n dX11_is_97 rfl 1 rfl ?_
    exact A_zret dX11_is_98 (by rw [hr]; clear ih; first | (rw [h59]; rfl) | (have hn0 : n = 0 := (by omega); subst hn0; simp only [isF, Bool.and_true])) (by rfl)
  · refine A_iload_n dX11_is_58 rfl 1 rfl ?_
    refine A_ifeq_b (tgt := 97) dX11_is_59 (by decide) (fun h59 => ?_) (fun h59 => ?_)
    · refine A_iload_n dX11_is_97 rfl 1 rfl ?_
      exact A_zret dX11_is_98 (by rw [hr]; clear ih; first | (rw [h59]; rfl) | (have hn0 : n = 0 := (by omega); subst hn0; simp only [isF, Bool.and_true])) (by rfl)
    · have hpl := hp h59
      refine A_aload_n dX11_is_62 rfl 2 rfl ?_
      refine A_getr fl_X11_9 lk_84 rfl dX11_is_63 ?_
      refine A_aload_n dX11_is_66 rfl 2 rfl ?_
      refine A_getr fl_X11_20 lk_84 rfl dX11_is_67 ?_
      refine A_iload_n dX11_is_70 rfl 3 rfl ?_
      refine J_iald lk_87 (by first | exact kl_i32 _ (by assumption) | exact i32_eq (by assumption) | exact i32_eq ⟨by omega, by omega⟩ | with_reducible exact i32_i32 _ | with_reducible exact i32_eq (b2i_inr _) | rfl) (by omega) (by omega) (by decide) dX11_is_71 ?_
      try simp (disch := omega) only [up_k, up_j, up_s]
      refine A_iload dX11_is_72 0 rfl ?_
      refine A_iadd dX11_is_74 ?_
      refine J_iald lk_85 (by first | exact kl_i32 _ (by assumption) | exact i32_eq (by assumption) | exact i32_eq ⟨by omega, by omega⟩ | with_reducible exact i32_i32 _ | with_reducible exact i32_eq (b2i_inr _) | rfl) (by omega) (by omega) (by decide) dX11_is_75 ?_
      try simp (disch := omega) only [up_k, up_j, up_s]
      refine A_aload_n dX11_is_76 rfl 4 rfl ?_
      refine A_iload dX11_is_77 0 rfl ?_
      refine A_Ka1 hi mv_X11_128 rfl (c_J0_charAt_5068e _ i _ hi (by rw [hkk]; omega)) (Nat.le_of_ble_eq_true rfl) (by omega) (by omega) dX11_is_79 ?_
      rw [hkk]
      have hkb := kb_nar (i := i) (z := k) hi ⟨by omega, by omega⟩
      refine J_icmp_ne (tgt := 89) dX11_is_82 (by decide) (by first | exact kl_i32 _ (by assumption) | exact i32_eq (by assumption) | exact i32_eq ⟨by omega, by omega⟩ | with_reducible exact i32_i32 _ | with_reducible exact i32_eq (b2i_inr _) | rfl) (by first | exact kl_i32 _ (by assumption) | exact i32_eq (by assumption) | exact i32_eq ⟨by omega, by omega⟩ | with_reducible exact i32_i32 _ | with_reducible exact i32_eq (b2i_inr _) | rfl) (fun h82 => ?_) (fun h82 => ?_)
      · refine A_iconst dX11_is_89 ?_
        refine A_istore_n (lv2 := [(3, _), (4, _), (0, _), (1, _), (2, _)]) dX11_is_90 rfl (by decide) rfl ?_
        refine A_iinc (lv2 := [(4, _), (3, _), (0, _), (1, _), (2, _)]) dX11_is_91 1 rfl (by decide) rfl ?_
        refine A_goto (tgt := 49) dX11_is_94 (by decide) ?_
        refine A_lv [0, 1, 2, 3, 4] rfl ?_
        exact ih (n - 1) (by omega) (k + 1) false r (by omega) (by omega) (fun z => absurd z (by decide)) (by rw [hr, h59]; clear ih; obtain ⟨n, rfl⟩ : ∃ q, n = q + 1 := ⟨n - 1, by omega⟩; simp only [Bool.true_and, Bool.false_and, isF, Nat.add_sub_cancel]; rw [if_neg (by omega)])
      · refine A_iconst dX11_is_85 ?_
        refine A_goto (tgt := 90) dX11_is_86 (by decide) ?_
        refine A_istore_n (lv2 := [(3, _), (4, _), (0, _), (1, _), (2, _)]) dX11_is_90 rfl (by decide) rfl ?_
        refine A_iinc (lv2 := [(4, _), (3, _), (0, _), (1, _), (2, _)]) dX11_is_91 1 rfl (by decide) rfl ?_
        refine A_goto (tgt := 49) dX11_is_94 (by decide) ?_
        refine A_lv [0, 1, 2, 3, 4] rfl ?_
        exact ih (n - 1) (by omega) (k + 1) true r (by omega) (by omega) (fun _ => hpl) (by rw [hr, h59]; clear ih; obtain ⟨n, rfl⟩ : ∃ q, n = q + 1 := ⟨n - 1, by omega⟩; simp only [Bool.true_and, Bool.false_and, isF, Nat.add_sub_cancel]; rw [if_pos (by omega)])
set_option maxRecDepth 100000 in
set_option maxHeartbeats 4000000 in
theorem c_X11_is (σ : Sg) (t : Int) (i : Nat) (hb : Rb σ) (ht : Rt σ) (h : 0 ≤ t ∧ t ≤ 1500) (hi : i < 24) : Ct l G yX11_is cX11_is 5 (some .boolean) 4 0 0 [.ref (lay G 84), .int (I32 t), .ref (G.2.2.2.1 i)] σ (some (.int (I32 (b2i (isR σ t.toNat i))))) (σ) := by
  have ht1 := ht t.toNat
  refine Ct.of (by decide +kernel) (Nat.le_of_ble_eq_true rfl) (fun f => ?_)
  show AW _ _ _ _ _ _ _ _ _ _ [(0, _), (1, _), (2, _)] _ _
  refine A_aload_n dX11_is_0 rfl 0 rfl ?_
  refine A_getr fl_X11_17 lk_84 rfl dX11_is_1 ?_
  refine A_iload_n dX11_is_4 rfl 1 rfl ?_
  refine J_iald lk_86 (by first | exact kl_i32 _ (by assumption) | exact i32_eq (by assumption) | exact i32_eq ⟨by omega, by omega⟩ | with_reducible exact i32_i32 _ | with_reducible exact i32_eq (b2i_inr _) | rfl) (by omega) (by omega) (by decide) dX11_is_5 ?_
  refine A_iconst dX11_is_6 ?_
  refine J_icmp_eq (tgt := 20) dX11_is_7 (by decide) (by first | exact kl_i32 _ (by assumption) | exact i32_eq (by assumption) | exact i32_eq ⟨by omega, by omega⟩ | with_reducible exact i32_i32 _ | with_reducible exact i32_eq (b2i_inr _) | rfl) (by first | exact kl_i32 _ (by assumption) | exact i32_eq (by assumption) | exact i32_eq ⟨by omega, by omega⟩ | with_reducible exact i32_i32 _ | with_reducible exact i32_eq (b2i_inr _) | rfl) (fun h7 => ?_) (fun h7 => ?_)
  · refine A_aload_n dX11_is_20 rfl 0 rfl ?_
    refine A_getr fl_X11_23 lk_84 rfl dX11_is_21 ?_
    refine A_iload_n dX11_is_24 rfl 1 rfl ?_
    refine J_iald lk_88 (by first | exact kl_i32 _ (by assumption) | exact i32_eq (by assumption) | exact i32_eq ⟨by omega, by omega⟩ | with_reducible exact i32_i32 _ | with_reducible exact i32_eq (b2i_inr _) | rfl) (by omega) (by omega) (by decide) dX11_is_25 ?_
    refine A_aload_n dX11_is_26 rfl 0 rfl ?_
    refine A_getr fl_X11_20 lk_84 rfl dX11_is_27 ?_
    refine A_iload_n dX11_is_30 rfl 1 rfl ?_
    refine J_iald lk_87 (by first | exact kl_i32 _ (by assumption) | exact i32_eq (by assumption) | exact i32_eq ⟨by omega, by omega⟩ | with_reducible exact i32_i32 _ | with_reducible exact i32_eq (b2i_inr _) | rfl) (by omega) (by omega) (by decide) dX11_is_31 ?_
    refine A_isub dX11_is_32 ?_
    refine A_aload_n dX11_is_33 rfl 2 rfl ?_
    refine A_Ka0 hi mv_X11_123 rfl (c_J0_length_8abf5 _ _ (by first | assumption | decide | omega)) (Nat.le_of_ble_eq_true rfl) (by omega) (by omega) dX11_is_34 ?_
    refine J_icmp_ne (tgt := 44) dX11_is_37 (by decide) (by first | exact kl_i32 _ (by assumption) | exact i32_eq (by assumption) | exact i32_eq ⟨by omega, by omega⟩ | with_reducible exact i32_i32 _ | with_reducible exact i32_eq (b2i_inr _) | rfl) (by first | exact kl_i32 _ (by assumption) | exact i32_eq (by assumption) | exact i32_eq ⟨by omega, by omega⟩ | with_reducible exact i32_i32 _ | with_reducible exact i32_eq (b2i_inr _) | rfl) (fun h37 => ?_) (fun h37 => ?_)
    · refine A_iconst dX11_is_44 ?_
      refine A_istore_n (lv2 := [(3, _), (0, _), (1, _), (2, _)]) dX11_is_45 rfl (by decide) rfl ?_
      refine A_iconst dX11_is_46 ?_
      refine A_istore (lv2 := [(4, _), (3, _), (0, _), (1, _), (2, _)]) dX11_is_47 (by decide) rfl ?_
      refine A_lv [0, 1, 2, 3, 4] rfl ?_
      exact w_X11_is σ hb ht t i h hi (kl i).toNat 0 false _ (by omega) (by have := kl_0 i hi; omega) (fun z => absurd z (by decide)) (by unfold isR; rw [decide_eq_false (by omega)])
    · refine A_iconst dX11_is_40 ?_
      refine A_goto (tgt := 45) dX11_is_41 (by decide) ?_
      refine A_istore_n (lv2 := [(3, _), (0, _), (1, _), (2, _)]) dX11_is_45 rfl (by decide) rfl ?_
      refine A_iconst dX11_is_46 ?_
      refine A_istore (lv2 := [(4, _), (3, _), (0, _), (1, _), (2, _)]) dX11_is_47 (by decide) rfl ?_
      refine A_lv [0, 1, 2, 3, 4] rfl ?_
      exact w_X11_is σ hb ht t i h hi (kl i).toNat 0 true _ (by omega) (by have := kl_0 i hi; omega) (fun _ => by omega) (by unfold isR; rw [decide_eq_true (by omega)])
  · refine A_aload_n dX11_is_10 rfl 0 rfl ?_
    refine A_getr fl_X11_17 lk_84 rfl dX11_is_11 ?_
    refine A_iload_n dX11_is_14 rfl 1 rfl ?_
    refine J_iald lk_86 (by first | exact kl_i32 _ (by assumption) | exact i32_eq (by assumption) | exact i32_eq ⟨by omega, by omega⟩ | with_reducible exact i32_i32 _ | with_reducible exact i32_eq (b2i_inr _) | rfl) (by omega) (by omega) (by decide) dX11_is_15 ?_
    refine A_iconst dX11_is_16 ?_
    refine J_icmp_ne (tgt := 44) dX11_is_17 (by decide) (by first | exact kl_i32 _ (by assumption) | exact i32_eq (by assumption) | exact i32_eq ⟨by omega, by omega⟩ | with_reducible exact i32_i32 _ | with_reducible exact i32_eq (b2i_inr _) | rfl) (by first | exact kl_i32 _ (by assumption) | exact i32_eq (by assumption) | exact i32_eq ⟨by omega, by omega⟩ | with_reducible exact i32_i32 _ | with_reducible exact i32_eq (b2i_inr _) | rfl) (fun h17 => ?_) (fun h17 => ?_)
    · refine A_iconst dX11_is_44 ?_
      refine A_istore_n (lv2 := [(3, _), (0, _), (1, _), (2, _)]) dX11_is_45 rfl (by decide) rfl ?_
      refine A_iconst dX11_is_46 ?_
      refine A_istore (lv2 := [(4, _), (3, _), (0, _), (1, _), (2, _)]) dX11_is_47 (by decide) rfl ?_
      refine A_lv [0, 1, 2, 3, 4] rfl ?_
      exact w_X11_is σ hb ht t i h hi (kl i).toNat 0 false _ (by omega) (by have := kl_0 i hi; omega) (fun z => absurd z (by decide)) (by unfold isR; rw [decide_eq_false (by omega)])
    · refine A_aload_n dX11_is_20 rfl 0 rfl ?_
      refine A_getr fl_X11_23 lk_84 rfl dX11_is_21 ?_
      refine A_iload_n dX11_is_24 rfl 1 rfl ?_
      refine J_iald lk_88 (by first | exact kl_i32 _ (by assumption) | exact i32_eq (by assumption) | exact i32_eq ⟨by omega, by omega⟩ | with_reducible exact i32_i32 _ | with_reducible exact i32_eq (b2i_inr _) | rfl) (by omega) (by omega) (by decide) dX11_is_25 ?_
      refine A_aload_n dX11_is_26 rfl 0 rfl ?_
      refine A_getr fl_X11_20 lk_84 rfl dX11_is_27 ?_
      refine A_iload_n dX11_is_30 rfl 1 rfl ?_
      refine J_iald lk_87 (by first | exact kl_i32 _ (by assumption) | exact i32_eq (by assumption) | exact i32_eq ⟨by omega, by omega⟩ | with_reducible exact i32_i32 _ | with_reducible exact i32_eq (b2i_inr _) | rfl) (by omega) (by omega) (by decide) dX11_is_31 ?_
      refine A_isub dX11_is_32 ?_
      refine A_aload_n dX11_is_33 rfl 2 rfl ?_
      refine A_Ka0 hi mv_X11_123 rfl (c_J0_length_8abf5 _ _ (by first | assumption | decide | omega)) (Nat.le_of_ble_eq_true rfl) (by omega) (by omega) dX11_is_34 ?_
      refine J_icmp_ne (tgt := 44) dX11_is_37 (by decide) (by first | exact kl_i32 _ (by assumption) | exact i32_eq (by assumption) | exact i32_eq ⟨by omega, by omega⟩ | with_reducible exact i32_i32 _ | with_reducible exact i32_eq (b2i_inr _) | rfl) (by first | exact kl_i32 _ (by assumption) | exact i32_eq (by assumption) | exact i32_eq ⟨by omega, by omega⟩ | with_reducible exact i32_i32 _ | with_reducible exact i32_eq (b2i_inr _) | rfl) (fun h37 => ?_) (fun h37 => ?_)
      · refine A_iconst dX11_is_44 ?_
        refine A_istore_n (lv2 := [(3, _), (0, _), (1, _), (2, _)]) dX11_is_45 rfl (by decide) rfl ?_
        refine A_iconst dX11_is_46 ?_
        refine A_istore (lv2 := [(4, _), (3, _), (0, _), (1, _), (2, _)]) dX11_is_47 (by decide) rfl ?_
        refine A_lv [0, 1, 2, 3, 4] rfl ?_
        exact w_X11_is σ hb ht t i h hi (kl i).toNat 0 false _ (by omega) (by have := kl_0 i hi; omega) (fun z => absurd z (by decide)) (by unfold isR; rw [decide_eq_false (by omega)])
      · refine A_iconst dX11_is_40 ?_
        refine A_goto (tgt := 45) dX11_is_41 (by decide) ?_
        refine A_istore_n (lv2 := [(3, _), (0, _), (1, _), (2, _)]) dX11_is_45 rfl (by decide) rfl ?_
        refine A_iconst dX11_is_46 ?_
        refine A_istore (lv2 := [(4, _), (3, _), (0, _), (1, _), (2, _)]) dX11_is_47 (by decide) rfl ?_
        refine A_lv [0, 1, 2, 3, 4] rfl ?_
        exact w_X11_is σ hb ht t i h hi (kl i).toNat 0 true _ (by omega) (by have := kl_0 i hi; omega) (fun _ => by omega) (by unfold isR; rw [decide_eq_true (by omega)])
set_option maxRecDepth 100000 in
set_option maxHeartbeats 4000000 in
theorem w_X11_isName {f : Fm} (σ : Sg) (hb : Rb σ) (ht : Rt σ) (t : Int) (h : 0 ≤ t ∧ t ≤ 1500) (tk : Nat) (hTK : TK G f tk) : ∀ (n : Nat) (i : Int) (p : Bool) (r : Option Value), 0 ≤ i → i + n = 17 → r = some (.int (I32 (b2i (p && nmF σ t.toNat n i)))) → AW l G f (RX11, cX11_isName, 7, (some .boolean)) (5, 0, 0) (QT G f 0 0 r σ) [] 0 0 27 [(5, .int (I32 i)), (2, .int (I32 (b2i p))), (0, .ref (lay G 84)), (1, .int (I32 t)), (3, .ref tk), (4, .int (I32 17))] [] σ := by
  intro n
  induction n using Nat.strongRecOn with | _ n ih =>
  intro i p r h0 hn hr
  refine A_iload dX11_isName_27 0 rfl ?_
  refine A_iload dX11_isName_29 5 rfl ?_
  refine J_icmp_ge (tgt := 66) dX11_isName_31 (by decide) (by first | exact i32_eq (by assumption) | exact i32_eq ⟨by omega, by omega⟩ | with_reducible exact i32_i32 _ | with_reducible exact i32_eq (b2i_inr _) | rfl) (by first | exact i32_eq (by assumption) | exact i32_eq ⟨by omega, by omega⟩ | with_reducible exact i32_i32 _ | with_reducible exact i32_eq (b2i_inr _) | rfl) (fun h31 => ?_) (fun h31 => ?_)
  · refine A_iload_n dX11_isName_66 rfl 1 rfl ?_
    exact A_zret dX11_isName_67 (by rw [hr]; clear ih; have hn0 : n = 0 := (by omega); subst hn0; simp only [nmF, Bool.and_true]) (by rfl)
  · refine A_aload_n dX11_isName_34 rfl 4 rfl ?_
    refine A_iload dX11_isName_35 0 rfl ?_
    refine A_kaald hTK (by first | exact i32_eq (by assumption) | exact i32_eq ⟨by omega, by omega⟩ | with_reducible exact i32_i32 _ | with_reducible exact i32_eq (b2i_inr _) | rfl) (by omega) (by omega) dX11_isName_37 ?_
    refine A_astore (lv2 := [(6, _), (5, _), (2, _), (0, _), (1, _), (3, _), (4, _)]) dX11_isName_38 (by decide) rfl ?_
    refine A_iload_n dX11_isName_40 rfl 2 rfl ?_
    refine A_ifeq_b (tgt := 58) dX11_isName_41 (by decide) (fun h41 => ?_) (fun h41 => ?_)
    · refine A_iconst dX11_isName_58 ?_
      refine A_istore_n (lv2 := [(2, _), (6, _), (5, _), (0, _), (1, _), (3, _), (4, _)]) dX11_isName_59 rfl (by decide) rfl ?_
      refine A_iinc (lv2 := [(5, _), (2, _), (6, _), (0, _), (1, _), (3, _), (4, _)]) dX11_isName_60 2 rfl (by decide) rfl ?_
      refine A_goto (tgt := 27) dX11_isName_63 (by decide) ?_
      refine A_lv [0, 1, 3, 4, 5, 6] rfl ?_
      exact ih (n - 1) (by omega) (i + 1) false r (by omega) (by omega) (by rw [hr]; clear ih; obtain ⟨n, rfl⟩ : ∃ q, n = q + 1 := ⟨n - 1, by omega⟩; simp only [nmF, Nat.add_sub_cancel, Bool.false_and]; first | (rw [h41]; rfl) | (rw [h51]; simp))
    · refine A_aload_n dX11_isName_44 rfl 3 rfl ?_
      refine A_iload_n dX11_isName_45 rfl 4 rfl ?_
      refine A_aload dX11_isName_46 0 rfl ?_
      refine A_Va2 mv_X11_136 lk_84 rfl rfl (c_X11_is σ t i.toNat hb ht h (by omega)) (Nat.le_of_ble_eq_true rfl) (by omega) (by omega) dX11_isName_48 ?_
      refine A_ifne_b (tgt := 58) dX11_isName_51 (by decide) (fun h51 => ?_) (fun h51 => ?_)
      · refine A_iconst dX11_isName_58 ?_
        refine A_istore_n (lv2 := [(2, _), (6, _), (5, _), (0, _), (1, _), (3, _), (4, _)]) dX11_isName_59 rfl (by decide) rfl ?_
        refine A_iinc (lv2 := [(5, _), (2, _), (6, _), (0, _), (1, _), (3, _), (4, _)]) dX11_isName_60 2 rfl (by decide) rfl ?_
        refine A_goto (tgt := 27) dX11_isName_63 (by decide) ?_
        refine A_lv [0, 1, 3, 4, 5, 6] rfl ?_
        exact ih (n - 1) (by omega) (i + 1) false r (by omega) (by omega) (by rw [hr]; clear ih; obtain ⟨n, rfl⟩ : ∃ q, n = q + 1 := ⟨n - 1, by omega⟩; simp only [nmF, Nat.add_sub_cancel, Bool.false_and]; first | (rw [h41]; rfl) | (rw [h51]; simp))
      · refine A_iconst dX11_isName_54 ?_
        refine A_goto (tgt := 59) dX11_isName_55 (by decide) ?_
        refine A_istore_n (lv2 := [(2, _), (6, _), (5, _), (0, _), (1, _), (3, _), (4, _)]) dX11_isName_59 rfl (by decide) rfl ?_
        refine A_iinc (lv2 := [(5, _), (2, _), (6, _), (0, _), (1, _), (3, _), (4, _)]) dX11_isName_60 2 rfl (by decide) rfl ?_
        refine A_goto (tgt := 27) dX11_isName_63 (by decide) ?_
        refine A_lv [0, 1, 3, 4, 5, 6] rfl ?_
        exact ih (n - 1) (by omega) (i + 1) true r (by omega) (by omega) (by rw [hr, h41]; clear ih; obtain ⟨n, rfl⟩ : ∃ q, n = q + 1 := ⟨n - 1, by omega⟩; simp only [nmF, Nat.add_sub_cancel, Bool.true_and]; rw [h51]; rfl)
set_option maxRecDepth 100000 in
set_option maxHeartbeats 4000000 in
theorem c_X11_isName (σ : Sg) (t : Int) (hb : Rb σ) (ht : Rt σ) (h : 0 ≤ t ∧ t ≤ 1500) : Ct l G yX11_isName cX11_isName 7 (some .boolean) 5 0 0 [.ref (lay G 84), .int (I32 t)] σ (some (.int (I32 (b2i (nmR σ t.toNat))))) (σ) := by
  have ht1 := ht t.toNat
  refine Ct.of (by decide +kernel) (Nat.le_of_ble_eq_true rfl) (fun f => ?_)
  show AW _ _ _ _ _ _ _ _ _ _ [(0, _), (1, _)] _ _
  refine A_aload_n dX11_isName_0 rfl 0 rfl ?_
  refine A_getr fl_X11_17 lk_84 rfl dX11_isName_1 ?_
  refine A_iload_n dX11_isName_4 rfl 1 rfl ?_
  refine J_iald lk_86 (by first | exact i32_eq (by assumption) | exact i32_eq ⟨by omega, by omega⟩ | with_reducible exact i32_i32 _ | with_reducible exact i32_eq (b2i_inr _) | rfl) (by omega) (by omega) (by decide) dX11_isName_5 ?_
  refine A_iconst dX11_isName_6 ?_
  refine J_icmp_ne (tgt := 14) dX11_isName_7 (by decide) (by first | exact i32_eq (by assumption) | exact i32_eq ⟨by omega, by omega⟩ | with_reducible exact i32_i32 _ | with_reducible exact i32_eq (b2i_inr _) | rfl) (by first | exact i32_eq (by assumption) | exact i32_eq ⟨by omega, by omega⟩ | with_reducible exact i32_i32 _ | with_reducible exact i32_eq (b2i_inr _) | rfl) (fun h7 => ?_) (fun h7 => ?_)
  · refine A_iconst dX11_isName_14 ?_
    refine A_istore_n (lv2 := [(2, _), (0, _), (1, _)]) dX11_isName_15 rfl (by decide) rfl ?_
    refine A_gsk fk_X11_132 dX11_isName_16 (fun tk hTK => ?_)
    refine A_astore_n (lv2 := [(3, _), (2, _), (0, _), (1, _)]) dX11_isName_19 rfl (by decide) rfl ?_
    refine A_aload_n dX11_isName_20 rfl 0 rfl ?_
    refine A_kalen hTK dX11_isName_21 ?_
    refine A_istore (lv2 := [(4, _), (3, _), (2, _), (0, _), (1, _)]) dX11_isName_22 (by decide) rfl ?_
    refine A_iconst dX11_isName_24 ?_
    refine A_istore (lv2 := [(5, _), (4, _), (3, _), (2, _), (0, _), (1, _)]) dX11_isName_25 (by decide) rfl ?_
    refine A_lv [0, 3, 4, 5, 2, 1] rfl ?_
    exact w_X11_isName σ hb ht t h tk hTK 17 0 false _ (by omega) (by omega) (by unfold nmR; rw [decide_eq_false (by omega)])
  · refine A_iconst dX11_isName_10 ?_
    refine A_goto (tgt := 15) dX11_isName_11 (by decide) ?_
    refine A_istore_n (lv2 := [(2, _), (0, _), (1, _)]) dX11_isName_15 rfl (by decide) rfl ?_
    refine A_gsk fk_X11_132 dX11_isName_16 (fun tk hTK => ?_)
    refine A_astore_n (lv2 := [(3, _), (2, _), (0, _), (1, _)]) dX11_isName_19 rfl (by decide) rfl ?_
    refine A_aload_n dX11_isName_20 rfl 0 rfl ?_
    refine A_kalen hTK dX11_isName_21 ?_
    refine A_istore (lv2 := [(4, _), (3, _), (2, _), (0, _), (1, _)]) dX11_isName_22 (by decide) rfl ?_
    refine A_iconst dX11_isName_24 ?_
    refine A_istore (lv2 := [(5, _), (4, _), (3, _), (2, _), (0, _), (1, _)]) dX11_isName_25 (by decide) rfl ?_
    refine A_lv [0, 3, 4, 5, 2, 1] rfl ?_
    exact w_X11_isName σ hb ht t h tk hTK 17 0 true _ (by omega) (by omega) (by unfold nmR; rw [decide_eq_true (by omega)])
set_option maxRecDepth 100000 in
set_option maxHeartbeats 4000000 in
theorem w_X11_nameOf {f : Fm} {Q : State → Prop} {xs : va_W} {kk nn rc rs : Nat} (σ : Sg) (t : Int) (hb : Rb σ) (ht : Rt σ) (h : 0 ≤ t ∧ t ≤ 1500) (hm : kk ≤ rc ∧ nn ≤ rs) : ∀ (n : Nat) (i : Int) (s : Int), 0 ≤ i → inr i → σ 88 t.toNat ≤ i + n → AW l G f (RX11, cX11_nameOf, 5, (some .long)) (0, rc, rs) Q xs kk nn 46 [(2, .long (I64 (fW (σ 88 t.toNat) (nmG σ) n i s))), (0, .ref (lay G 84)), (1, .int (I32 t))] [] (σ) → AW l G f (RX11, cX11_nameOf, 5, (some .long)) (0, rc, rs) Q xs kk nn 10 [(4, .int (I32 i)), (2, .long (I64 s)), (0, .ref (lay G 84)), (1, .int (I32 t))] [] (σ) := by
  intro n
  induction n using Nat.strongRecOn with | _ n ih =>
  intro i s h0 hii hn  hK
  obtain ⟨hi1, hi2⟩ := hii
  have ht1 := ht t.toNat
  have hb4 := hb.2 i.toNat
  refine A_iload dX11_nameOf_10 0 rfl ?_
  refine A_aload_n dX11_nameOf_12 rfl 2 rfl ?_
  refine A_getr fl_X11_23 lk_84 rfl dX11_nameOf_13 ?_
  refine A_iload_n dX11_nameOf_16 rfl 3 rfl ?_
  refine J_iald lk_88 (by first | exact i32_eq (by assumption) | exact i32_eq ⟨by omega, by omega⟩ | with_reducible exact i32_i32 _ | with_reducible exact i32_eq (b2i_inr _) | rfl) (by omega) (by omega) (by decide) dX11_nameOf_17 ?_
  refine J_icmp_ge (tgt := 46) dX11_nameOf_18 (by decide) (by first | exact i32_eq (by assumption) | exact i32_eq ⟨by omega, by omega⟩ | with_reducible exact i32_i32 _ | with_reducible exact i32_eq (b2i_inr _) | rfl) (by first | exact i32_eq (by assumption) | exact i32_eq ⟨by omega, by omega⟩ | with_reducible exact i32_i32 _ | with_reducible exact i32_eq (b2i_inr _) | rfl) (fun h18 => ?_) (fun h18 => ?_)
  · refine A_lv [1, 2, 3] rfl ?_
    clear ih
    rcases n with _ | n <;> simp only [fW] at hK <;> (repeat' split at hK) <;> first | contradiction | (exfalso; omega) | exact hK | (simp_all; done)
  · refine A_ldc2 kc_X11_140 dX11_nameOf_21 ?_
    refine A_lload_n dX11_nameOf_24 rfl 1 rfl ?_
    refine A_lmul dX11_nameOf_25 ?_
    refine A_aload_n dX11_nameOf_26 rfl 2 rfl ?_
    refine A_getr fl_X11_9 lk_84 rfl dX11_nameOf_27 ?_
    refine A_iload dX11_nameOf_30 0 rfl ?_
    refine J_iald lk_85 (by first | exact i32_eq (by assumption) | exact i32_eq ⟨by omega, by omega⟩ | with_reducible exact i32_i32 _ | with_reducible exact i32_eq (b2i_inr _) | rfl) (by omega) (by omega) (by decide) dX11_nameOf_32 ?_
    refine J_i2l dX11_nameOf_33 (by first | exact i32_eq (by assumption) | exact i32_eq ⟨by omega, by omega⟩ | with_reducible exact i32_i32 _ | with_reducible exact i32_eq (b2i_inr _) | rfl) ?_
    refine A_ladd dX11_nameOf_34 ?_
    refine A_ldc2 kc_X11_142 dX11_nameOf_35 ?_
    refine A_lsub dX11_nameOf_38 ?_
    refine A_lstore_n (lv2 := [(2, _), (4, _), (0, _), (1, _)]) dX11_nameOf_39 rfl (by decide) rfl ?_
    refine A_iinc (lv2 := [(4, _), (2, _), (0, _), (1, _)]) dX11_nameOf_40 1 rfl (by decide) rfl ?_
    refine A_goto (tgt := 10) dX11_nameOf_43 (by decide) ?_
    refine A_lv [0, 1, 2, 3] rfl ?_
    refine ih (n - 1) (by omega) (i + 1) _ (by omega) ⟨by omega, by omega⟩ (by omega) ?_
    obtain ⟨n, rfl⟩ : ∃ q, n = q + 1 := ⟨n - 1, by omega⟩
    clear ih
    rw [fW_s] at hK
    simp only [Nat.add_sub_cancel]
    simp only [nmG] at hK
    (repeat' split at hK) <;> first | contradiction | (exfalso; omega) | exact hK | (simp_all; done)
set_option maxRecDepth 100000 in
set_option maxHeartbeats 4000000 in
theorem c_X11_nameOf (σ : Sg) (t : Int) (hb : Rb σ) (ht : Rt σ) (h : 0 ≤ t ∧ t ≤ 1500) : Ct l G yX11_nameOf cX11_nameOf 5 (some .long) 0 0 0 [.ref (lay G 84), .int (I32 t)] σ (some (.long (I64 (nmV σ t.toNat)))) (σ) := by
  have ht1 := ht t.toNat
  refine Ct.of (by decide +kernel) (Nat.le_of_ble_eq_true rfl) (fun f => ?_)
  show AW _ _ _ _ _ _ _ _ _ _ [(0, _), (1, _)] _ _
  refine A_lconst (w := 0) dX11_nameOf_0 rfl ?_
  refine A_lstore_n (lv2 := [(2, _), (0, _), (1, _)]) dX11_nameOf_1 rfl (by decide) rfl ?_
  refine A_aload_n dX11_nameOf_2 rfl 1 rfl ?_
  refine A_getr fl_X11_20 lk_84 rfl dX11_nameOf_3 ?_
  refine A_iload_n dX11_nameOf_6 rfl 2 rfl ?_
  refine J_iald lk_87 (by first | exact i32_eq (by assumption) | exact i32_eq ⟨by omega, by omega⟩ | with_reducible exact i32_i32 _ | with_reducible exact i32_eq (b2i_inr _) | rfl) (by omega) (by omega) (by decide) dX11_nameOf_7 ?_
  refine A_istore (lv2 := [(4, _), (2, _), (0, _), (1, _)]) dX11_nameOf_8 (by decide) rfl ?_
  refine A_lv [0, 1, 2, 3] rfl ?_
  refine w_X11_nameOf σ t hb ht h (by omega) 1500 _ 0 (by omega) ⟨by omega, by omega⟩ (by omega) ?_
  refine A_lload_n dX11_nameOf_46 rfl 0 rfl ?_
  exact A_lret dX11_nameOf_47 (by rfl) (by rfl)
set_option maxRecDepth 100000 in
set_option maxHeartbeats 4000000 in
theorem w_X11_numberOf {f : Fm} {Q : State → Prop} {xs : va_W} {kk nn rc rs : Nat} (σ : Sg) (t : Int) (hb : Rb σ) (ht : Rt σ) (h : 0 ≤ t ∧ t ≤ 1500) (hm : kk ≤ rc ∧ nn ≤ rs) : ∀ (n : Nat) (i : Int) (s : Int), 0 ≤ i → inr i → σ 88 t.toNat ≤ i + n → AW l G f (RX11, cX11_numberOf, 4, (some .int)) (0, rc, rs) Q xs kk nn 40 [(2, .int (I32 (fW (σ 88 t.toNat) (nuG σ) n i s))), (0, .ref (lay G 84)), (1, .int (I32 t))] [] (σ) → AW l G f (RX11, cX11_numberOf, 4, (some .int)) (0, rc, rs) Q xs kk nn 9 [(3, .int (I32 i)), (2, .int (I32 s)), (0, .ref (lay G 84)), (1, .int (I32 t))] [] (σ) := by
  intro n
  induction n using Nat.strongRecOn with | _ n ih =>
  intro i s h0 hii hn  hK
  obtain ⟨hi1, hi2⟩ := hii
  have ht1 := ht t.toNat
  have hb4 := hb.2 i.toNat
  refine A_iload_n dX11_numberOf_9 rfl 0 rfl ?_
  refine A_aload_n dX11_numberOf_10 rfl 2 rfl ?_
  refine A_getr fl_X11_23 lk_84 rfl dX11_numberOf_11 ?_
  refine A_iload_n dX11_numberOf_14 rfl 3 rfl ?_
  refine J_iald lk_88 (by first | exact i32_eq (by assumption) | exact i32_eq ⟨by omega, by omega⟩ | with_reducible exact i32_i32 _ | with_reducible exact i32_eq (b2i_inr _) | rfl) (by omega) (by omega) (by decide) dX11_numberOf_15 ?_
  refine J_icmp_ge (tgt := 40) dX11_numberOf_16 (by decide) (by first | exact i32_eq (by assumption) | exact i32_eq ⟨by omega, by omega⟩ | with_reducible exact i32_i32 _ | with_reducible exact i32_eq (b2i_inr _) | rfl) (by first | exact i32_eq (by assumption) | exact i32_eq ⟨by omega, by omega⟩ | with_reducible exact i32_i32 _ | with_reducible exact i32_eq (b2i_inr _) | rfl) (fun h16 => ?_) (fun h16 => ?_)
  · refine A_lv [1, 2, 3] rfl ?_
    clear ih
    rcases n with _ | n <;> simp only [fW] at hK <;> (repeat' split at hK) <;> first | contradiction | (exfalso; omega) | exact hK | (simp_all; done)
  · refine A_bipush dX11_numberOf_19 (by decide +kernel) ?_
    refine A_iload_n dX11_numberOf_21 rfl 1 rfl ?_
    refine A_imul dX11_numberOf_22 ?_
    refine A_aload_n dX11_numberOf_23 rfl 2 rfl ?_
    refine A_getr fl_X11_9 lk_84 rfl dX11_numberOf_24 ?_
    refine A_iload_n dX11_numberOf_27 rfl 0 rfl ?_
    refine J_iald lk_85 (by first | exact i32_eq (by assumption) | exact i32_eq ⟨by omega, by omega⟩ | with_reducible exact i32_i32 _ | with_reducible exact i32_eq (b2i_inr _) | rfl) (by omega) (by omega) (by decide) dX11_numberOf_28 ?_
    refine A_iadd dX11_numberOf_29 ?_
    refine A_bipush dX11_numberOf_30 (by decide +kernel) ?_
    refine A_isub dX11_numberOf_32 ?_
    refine A_istore_n (lv2 := [(2, _), (3, _), (0, _), (1, _)]) dX11_numberOf_33 rfl (by decide) rfl ?_
    refine A_iinc (lv2 := [(3, _), (2, _), (0, _), (1, _)]) dX11_numberOf_34 1 rfl (by decide) rfl ?_
    refine A_goto (tgt := 9) dX11_numberOf_37 (by decide) ?_
    refine A_lv [0, 1, 2, 3] rfl ?_
    refine ih (n - 1) (by omega) (i + 1) _ (by omega) ⟨by omega, by omega⟩ (by omega) ?_
    obtain ⟨n, rfl⟩ : ∃ q, n = q + 1 := ⟨n - 1, by omega⟩
    clear ih
    rw [fW_s] at hK
    simp only [Nat.add_sub_cancel]
    simp only [nuG] at hK
    (repeat' split at hK) <;> first | contradiction | (exfalso; omega) | exact hK | (simp_all; done)
set_option maxRecDepth 100000 in
set_option maxHeartbeats 4000000 in
theorem c_X11_numberOf (σ : Sg) (t : Int) (hb : Rb σ) (ht : Rt σ) (h : 0 ≤ t ∧ t ≤ 1500) : Ct l G yX11_numberOf cX11_numberOf 4 (some .int) 0 0 0 [.ref (lay G 84), .int (I32 t)] σ (some (.int (I32 (nuV σ t.toNat)))) (σ) := by
  have ht1 := ht t.toNat
  refine Ct.of (by decide +kernel) (Nat.le_of_ble_eq_true rfl) (fun f => ?_)
  show AW _ _ _ _ _ _ _ _ _ _ [(0, _), (1, _)] _ _
  refine A_iconst dX11_numberOf_0 ?_
  refine A_istore_n (lv2 := [(2, _), (0, _), (1, _)]) dX11_numberOf_1 rfl (by decide) rfl ?_
  refine A_aload_n dX11_numberOf_2 rfl 1 rfl ?_
  refine A_getr fl_X11_20 lk_84 rfl dX11_numberOf_3 ?_
  refine A_iload_n dX11_numberOf_6 rfl 2 rfl ?_
  refine J_iald lk_87 (by first | exact i32_eq (by assumption) | exact i32_eq ⟨by omega, by omega⟩ | with_reducible exact i32_i32 _ | with_reducible exact i32_eq (b2i_inr _) | rfl) (by omega) (by omega) (by decide) dX11_numberOf_7 ?_
  refine A_istore_n (lv2 := [(3, _), (2, _), (0, _), (1, _)]) dX11_numberOf_8 rfl (by decide) rfl ?_
  refine A_lv [0, 1, 2, 3] rfl ?_
  refine w_X11_numberOf σ t hb ht h (by omega) 1500 _ 0 (by omega) ⟨by omega, by omega⟩ (by omega) ?_
  refine A_iload_n dX11_numberOf_40 rfl 0 rfl ?_
  exact A_iret dX11_numberOf_41 (by rfl) (by rfl)
set_option maxRecDepth 100000 in
set_option maxHeartbeats 4000000 in
theorem w_X11_find_89 {f : Fm} {Q : State → Prop} {xs : va_W} {kk nn rc rs : Nat} (σ : Sg) (many v : Int) (hmy : 0 ≤ many ∧ many ≤ 16) (hm : kk ≤ rc ∧ nn ≤ rs) : ∀ (n : Nat) (i : Int) (s : Int), 0 ≤ i → inr i → many ≤ i + n → AW l G f (RX11, cX11_find, 6, (some .int)) (0, rc, rs) Q xs kk nn 31 [(4, .int (I32 (fW (many) (fnG σ 89 v) n i s))), (0, .ref (lay G 89)), (1, .int (I32 many)), (2, .long (I64 v))] [] (σ) → AW l G f (RX11, cX11_find, 6, (some .int)) (0, rc, rs) Q xs kk nn 6 [(5, .int (I32 i)), (4, .int (I32 s)), (0, .ref (lay G 89)), (1, .int (I32 many)), (2, .long (I64 v))] [] (σ) := by
  intro n
  induction n using Nat.strongRecOn with | _ n ih =>
  intro i s h0 hii hn  hK
  obtain ⟨hi1, hi2⟩ := hii
  refine A_iload dX11_find_6 0 rfl ?_
  refine A_iload_n dX11_find_8 rfl 3 rfl ?_
  refine J_icmp_ge (tgt := 31) dX11_find_9 (by decide) (by first | exact i32_eq (by assumption) | exact i32_eq ⟨by omega, by omega⟩ | with_reducible exact i32_i32 _ | with_reducible exact i32_eq (b2i_inr _) | rfl) (by first | exact i32_eq (by assumption) | exact i32_eq ⟨by omega, by omega⟩ | with_reducible exact i32_i32 _ | with_reducible exact i32_eq (b2i_inr _) | rfl) (fun h9 => ?_) (fun h9 => ?_)
  · refine A_lv [1, 2, 3, 4] rfl ?_
    clear ih
    rcases n with _ | n <;> simp only [fW] at hK <;> (repeat' split at hK) <;> first | contradiction | (exfalso; omega) | exact hK | (simp_all; done)
  · refine A_aload_n dX11_find_12 rfl 2 rfl ?_
    refine A_iload dX11_find_13 0 rfl ?_
    refine J_lald lk_89 (by first | exact i32_eq (by assumption) | exact i32_eq ⟨by omega, by omega⟩ | with_reducible exact i32_i32 _ | with_reducible exact i32_eq (b2i_inr _) | rfl) (by omega) (by omega) (by decide) dX11_find_15 ?_
    refine A_lload_n dX11_find_16 rfl 4 rfl ?_
    refine A_lcmpE dX11_find_17 ?_
    refine A_if_ne_e (tgt := 25) dX11_find_18 (by decide) (fun h18 => ?_) (fun h18 => ?_)
    · refine A_iinc (lv2 := [(5, _), (4, _), (0, _), (1, _), (2, _)]) dX11_find_25 0 rfl (by decide) rfl ?_
      refine A_goto (tgt := 6) dX11_find_28 (by decide) ?_
      refine A_lv [0, 1, 2, 3, 4] rfl ?_
      refine ih (n - 1) (by omega) (i + 1) _ (by omega) ⟨by omega, by omega⟩ (by omega) ?_
      obtain ⟨n, rfl⟩ : ∃ q, n = q + 1 := ⟨n - 1, by omega⟩
      clear ih
      rw [fW_s] at hK
      simp only [Nat.add_sub_cancel]
      simp only [fnG] at hK
      (repeat' split at hK) <;> first | contradiction | (exfalso; omega) | exact hK | (simp_all; done)
    · refine A_iload dX11_find_21 0 rfl ?_
      refine A_istore (lv2 := [(4, _), (5, _), (0, _), (1, _), (2, _)]) dX11_find_23 (by decide) rfl ?_
      refine A_iinc (lv2 := [(5, _), (4, _), (0, _), (1, _), (2, _)]) dX11_find_25 1 rfl (by decide) rfl ?_
      refine A_goto (tgt := 6) dX11_find_28 (by decide) ?_
      refine A_lv [0, 1, 2, 3, 4] rfl ?_
      refine ih (n - 1) (by omega) (i + 1) _ (by omega) ⟨by omega, by omega⟩ (by omega) ?_
      obtain ⟨n, rfl⟩ : ∃ q, n = q + 1 := ⟨n - 1, by omega⟩
      clear ih
      rw [fW_s] at hK
      simp only [Nat.add_sub_cancel]
      simp only [fnG] at hK
      (repeat' split at hK) <;> first | contradiction | (exfalso; omega) | exact hK | (simp_all; done)
set_option maxRecDepth 100000 in
set_option maxHeartbeats 4000000 in
theorem c_X11_find_89 (σ : Sg) (many v : Int) (hmy : 0 ≤ many ∧ many ≤ 16) : Ct l G yX11_find cX11_find 6 (some .int) 0 0 0 [.ref (lay G 89), .int (I32 many), .long (I64 v)] σ (some (.int (I32 (fnC σ 89 many v)))) (σ) := by
  refine Ct.of (by decide +kernel) (Nat.le_of_ble_eq_true rfl) (fun f => ?_)
  show AW _ _ _ _ _ _ _ _ _ _ [(0, _), (1, _), (2, _)] _ _
  refine A_iconst dX11_find_0 ?_
  refine A_istore (lv2 := [(4, _), (0, _), (1, _), (2, _)]) dX11_find_1 (by decide) rfl ?_
  refine A_iconst dX11_find_3 ?_
  refine A_istore (lv2 := [(5, _), (4, _), (0, _), (1, _), (2, _)]) dX11_find_4 (by decide) rfl ?_
  refine A_lv [0, 1, 2, 3, 4] rfl ?_
  refine w_X11_find_89 σ many v hmy (by omega) 16 0 _ (by omega) ⟨by omega, by omega⟩ (by omega) ?_
  refine A_iload dX11_find_31 0 rfl ?_
  exact A_iret dX11_find_33 (by rfl) (by rfl)
set_option maxRecDepth 100000 in
set_option maxHeartbeats 4000000 in
theorem w_X11_find_93 {f : Fm} {Q : State → Prop} {xs : va_W} {kk nn rc rs : Nat} (σ : Sg) (many v : Int) (hmy : 0 ≤ many ∧ many ≤ 16) (hm : kk ≤ rc ∧ nn ≤ rs) : ∀ (n : Nat) (i : Int) (s : Int), 0 ≤ i → inr i → many ≤ i + n → AW l G f (RX11, cX11_find, 6, (some .int)) (0, rc, rs) Q xs kk nn 31 [(4, .int (I32 (fW (many) (fnG σ 93 v) n i s))), (0, .ref (lay G 93)), (1, .int (I32 many)), (2, .long (I64 v))] [] (σ) → AW l G f (RX11, cX11_find, 6, (some .int)) (0, rc, rs) Q xs kk nn 6 [(5, .int (I32 i)), (4, .int (I32 s)), (0, .ref (lay G 93)), (1, .int (I32 many)), (2, .long (I64 v))] [] (σ) := by
  intro n
  induction n using Nat.strongRecOn with | _ n ih =>
  intro i s h0 hii hn  hK
  obtain ⟨hi1, hi2⟩ := hii
  refine A_iload dX11_find_6 0 rfl ?_
  refine A_iload_n dX11_find_8 rfl 3 rfl ?_
  refine J_icmp_ge (tgt := 31) dX11_find_9 (by decide) (by first | exact i32_eq (by assumption) | exact i32_eq ⟨by omega, by omega⟩ | with_reducible exact i32_i32 _ | with_reducible exact i32_eq (b2i_inr _) | rfl) (by first | exact i32_eq (by assumption) | exact i32_eq ⟨by omega, by omega⟩ | with_reducible exact i32_i32 _ | with_reducible exact i32_eq (b2i_inr _) | rfl) (fun h9 => ?_) (fun h9 => ?_)
  · refine A_lv [1, 2, 3, 4] rfl ?_
    clear ih
    rcases n with _ | n <;> simp only [fW] at hK <;> (repeat' split at hK) <;> first | contradiction | (exfalso; omega) | exact hK | (simp_all; done)
  · refine A_aload_n dX11_find_12 rfl 2 rfl ?_
    refine A_iload dX11_find_13 0 rfl ?_
    refine J_lald lk_93 (by first | exact i32_eq (by assumption) | exact i32_eq ⟨by omega, by omega⟩ | with_reducible exact i32_i32 _ | with_reducible exact i32_eq (b2i_inr _) | rfl) (by omega) (by omega) (by decide) dX11_find_15 ?_
    refine A_lload_n dX11_find_16 rfl 4 rfl ?_
    refine A_lcmpE dX11_find_17 ?_
    refine A_if_ne_e (tgt := 25) dX11_find_18 (by decide) (fun h18 => ?_) (fun h18 => ?_)
    · refine A_iinc (lv2 := [(5, _), (4, _), (0, _), (1, _), (2, _)]) dX11_find_25 0 rfl (by decide) rfl ?_
      refine A_goto (tgt := 6) dX11_find_28 (by decide) ?_
      refine A_lv [0, 1, 2, 3, 4] rfl ?_
      refine ih (n - 1) (by omega) (i + 1) _ (by omega) ⟨by omega, by omega⟩ (by omega) ?_
      obtain ⟨n, rfl⟩ : ∃ q, n = q + 1 := ⟨n - 1, by omega⟩
      clear ih
      rw [fW_s] at hK
      simp only [Nat.add_sub_cancel]
      simp only [fnG] at hK
      (repeat' split at hK) <;> first | contradiction | (exfalso; omega) | exact hK | (simp_all; done)
    · refine A_iload dX11_find_21 0 rfl ?_
      refine A_istore (lv2 := [(4, _), (5, _), (0, _), (1, _), (2, _)]) dX11_find_23 (by decide) rfl ?_
      refine A_iinc (lv2 := [(5, _), (4, _), (0, _), (1, _), (2, _)]) dX11_find_25 1 rfl (by decide) rfl ?_
      refine A_goto (tgt := 6) dX11_find_28 (by decide) ?_
      refine A_lv [0, 1, 2, 3, 4] rfl ?_
      refine ih (n - 1) (by omega) (i + 1) _ (by omega) ⟨by omega, by omega⟩ (by omega) ?_
      obtain ⟨n, rfl⟩ : ∃ q, n = q + 1 := ⟨n - 1, by omega⟩
      clear ih
      rw [fW_s] at hK
      simp only [Nat.add_sub_cancel]
      simp only [fnG] at hK
      (repeat' split at hK) <;> first | contradiction | (exfalso; omega) | exact hK | (simp_all; done)
set_option maxRecDepth 100000 in
set_option maxHeartbeats 4000000 in
theorem c_X11_find_93 (σ : Sg) (many v : Int) (hmy : 0 ≤ many ∧ many ≤ 16) : Ct l G yX11_find cX11_find 6 (some .int) 0 0 0 [.ref (lay G 93), .int (I32 many), .long (I64 v)] σ (some (.int (I32 (fnC σ 93 many v)))) (σ) := by
  refine Ct.of (by decide +kernel) (Nat.le_of_ble_eq_true rfl) (fun f => ?_)
  show AW _ _ _ _ _ _ _ _ _ _ [(0, _), (1, _), (2, _)] _ _
  refine A_iconst dX11_find_0 ?_
  refine A_istore (lv2 := [(4, _), (0, _), (1, _), (2, _)]) dX11_find_1 (by decide) rfl ?_
  refine A_iconst dX11_find_3 ?_
  refine A_istore (lv2 := [(5, _), (4, _), (0, _), (1, _), (2, _)]) dX11_find_4 (by decide) rfl ?_
  refine A_lv [0, 1, 2, 3, 4] rfl ?_
  refine w_X11_find_93 σ many v hmy (by omega) 16 0 _ (by omega) ⟨by omega, by omega⟩ (by omega) ?_
  refine A_iload dX11_find_31 0 rfl ?_
  exact A_iret dX11_find_33 (by rfl) (by rfl)
set_option maxRecDepth 100000 in
set_option maxHeartbeats 4000000 in
theorem w_X11_find_100 {f : Fm} {Q : State → Prop} {xs : va_W} {kk nn rc rs : Nat} (σ : Sg) (many v : Int) (hmy : 0 ≤ many ∧ many ≤ 4) (hm : kk ≤ rc ∧ nn ≤ rs) : ∀ (n : Nat) (i : Int) (s : Int), 0 ≤ i → inr i → many ≤ i + n → AW l G f (RX11, cX11_find, 6, (some .int)) (0, rc, rs) Q xs kk nn 31 [(4, .int (I32 (fW (many) (fnG σ 100 v) n i s))), (0, .ref (lay G 100)), (1, .int (I32 many)), (2, .long (I64 v))] [] (σ) → AW l G f (RX11, cX11_find, 6, (some .int)) (0, rc, rs) Q xs kk nn 6 [(5, .int (I32 i)), (4, .int (I32 s)), (0, .ref (lay G 100)), (1, .int (I32 many)), (2, .long (I64 v))] [] (σ) := by
  intro n
  induction n using Nat.strongRecOn with | _ n ih =>
  intro i s h0 hii hn  hK
  obtain ⟨hi1, hi2⟩ := hii
  refine A_iload dX11_find_6 0 rfl ?_
  refine A_iload_n dX11_find_8 rfl 3 rfl ?_
  refine J_icmp_ge (tgt := 31) dX11_find_9 (by decide) (by first | exact i32_eq (by assumption) | exact i32_eq ⟨by omega, by omega⟩ | with_reducible exact i32_i32 _ | with_reducible exact i32_eq (b2i_inr _) | rfl) (by first | exact i32_eq (by assumption) | exact i32_eq ⟨by omega, by omega⟩ | with_reducible exact i32_i32 _ | with_reducible exact i32_eq (b2i_inr _) | rfl) (fun h9 => ?_) (fun h9 => ?_)
  · refine A_lv [1, 2, 3, 4] rfl ?_
    clear ih
    rcases n with _ | n <;> simp only [fW] at hK <;> (repeat' split at hK) <;> first | contradiction | (exfalso; omega) | exact hK | (simp_all; done)
  · refine A_aload_n dX11_find_12 rfl 2 rfl ?_
    refine A_iload dX11_find_13 0 rfl ?_
    refine J_lald lk_100 (by first | exact i32_eq (by assumption) | exact i32_eq ⟨by omega, by omega⟩ | with_reducible exact i32_i32 _ | with_reducible exact i32_eq (b2i_inr _) | rfl) (by omega) (by omega) (by decide) dX11_find_15 ?_
    refine A_lload_n dX11_find_16 rfl 4 rfl ?_
    refine A_lcmpE dX11_find_17 ?_
    refine A_if_ne_e (tgt := 25) dX11_find_18 (by decide) (fun h18 => ?_) (fun h18 => ?_)
    · refine A_iinc (lv2 := [(5, _), (4, _), (0, _), (1, _), (2, _)]) dX11_find_25 0 rfl (by decide) rfl ?_
      refine A_goto (tgt := 6) dX11_find_28 (by decide) ?_
      refine A_lv [0, 1, 2, 3, 4] rfl ?_
      refine ih (n - 1) (by omega) (i + 1) _ (by omega) ⟨by omega, by omega⟩ (by omega) ?_
      obtain ⟨n, rfl⟩ : ∃ q, n = q + 1 := ⟨n - 1, by omega⟩
      clear ih
      rw [fW_s] at hK
      simp only [Nat.add_sub_cancel]
      simp only [fnG] at hK
      (repeat' split at hK) <;> first | contradiction | (exfalso; omega) | exact hK | (simp_all; done)
    · refine A_iload dX11_find_21 0 rfl ?_
      refine A_istore (lv2 := [(4, _), (5, _), (0, _), (1, _), (2, _)]) dX11_find_23 (by decide) rfl ?_
      refine A_iinc (lv2 := [(5, _), (4, _), (0, _), (1, _), (2, _)]) dX11_find_25 1 rfl (by decide) rfl ?_
      refine A_goto (tgt := 6) dX11_find_28 (by decide) ?_
      refine A_lv [0, 1, 2, 3, 4] rfl ?_
      refine ih (n - 1) (by omega) (i + 1) _ (by omega) ⟨by omega, by omega⟩ (by omega) ?_
      obtain ⟨n, rfl⟩ : ∃ q, n = q + 1 := ⟨n - 1, by omega⟩
      clear ih
      rw [fW_s] at hK
      simp only [Nat.add_sub_cancel]
      simp only [fnG] at hK
      (repeat' split at hK) <;> first | contradiction | (exfalso; omega) | exact hK | (simp_all; done)
set_option maxRecDepth 100000 in
set_option maxHeartbeats 4000000 in
theorem c_X11_find_100 (σ : Sg) (many v : Int) (hmy : 0 ≤ many ∧ many ≤ 4) : Ct l G yX11_find cX11_find 6 (some .int) 0 0 0 [.ref (lay G 100), .int (I32 many), .long (I64 v)] σ (some (.int (I32 (fnC σ 100 many v)))) (σ) := by
  refine Ct.of (by decide +kernel) (Nat.le_of_ble_eq_true rfl) (fun f => ?_)
  show AW _ _ _ _ _ _ _ _ _ _ [(0, _), (1, _), (2, _)] _ _
  refine A_iconst dX11_find_0 ?_
  refine A_istore (lv2 := [(4, _), (0, _), (1, _), (2, _)]) dX11_find_1 (by decide) rfl ?_
  refine A_iconst dX11_find_3 ?_
  refine A_istore (lv2 := [(5, _), (4, _), (0, _), (1, _), (2, _)]) dX11_find_4 (by decide) rfl ?_
  refine A_lv [0, 1, 2, 3, 4] rfl ?_
  refine w_X11_find_100 σ many v hmy (by omega) 16 0 _ (by omega) ⟨by omega, by omega⟩ (by omega) ?_
  refine A_iload dX11_find_31 0 rfl ?_
  exact A_iret dX11_find_33 (by rfl) (by rfl)
set_option maxRecDepth 100000 in
set_option maxHeartbeats 4000000 in
theorem w_X11_find_110 {f : Fm} {Q : State → Prop} {xs : va_W} {kk nn rc rs : Nat} (σ : Sg) (many v : Int) (hmy : 0 ≤ many ∧ many ≤ 16) (hm : kk ≤ rc ∧ nn ≤ rs) : ∀ (n : Nat) (i : Int) (s : Int), 0 ≤ i → inr i → many ≤ i + n → AW l G f (RX11, cX11_find, 6, (some .int)) (0, rc, rs) Q xs kk nn 31 [(4, .int (I32 (fW (many) (fnG σ 110 v) n i s))), (0, .ref (lay G 110)), (1, .int (I32 many)), (2, .long (I64 v))] [] (σ) → AW l G f (RX11, cX11_find, 6, (some .int)) (0, rc, rs) Q xs kk nn 6 [(5, .int (I32 i)), (4, .int (I32 s)), (0, .ref (lay G 110)), (1, .int (I32 many)), (2, .long (I64 v))] [] (σ) := by
  intro n
  induction n using Nat.strongRecOn with | _ n ih =>
  intro i s h0 hii hn  hK
  obtain ⟨hi1, hi2⟩ := hii
  refine A_iload dX11_find_6 0 rfl ?_
  refine A_iload_n dX11_find_8 rfl 3 rfl ?_
  refine J_icmp_ge (tgt := 31) dX11_find_9 (by decide) (by first | exact i32_eq (by assumption) | exact i32_eq ⟨by omega, by omega⟩ | with_reducible exact i32_i32 _ | with_reducible exact i32_eq (b2i_inr _) | rfl) (by first | exact i32_eq (by assumption) | exact i32_eq ⟨by omega, by omega⟩ | with_reducible exact i32_i32 _ | with_reducible exact i32_eq (b2i_inr _) | rfl) (fun h9 => ?_) (fun h9 => ?_)
  · refine A_lv [1, 2, 3, 4] rfl ?_
    clear ih
    rcases n with _ | n <;> simp only [fW] at hK <;> (repeat' split at hK) <;> first | contradiction | (exfalso; omega) | exact hK | (simp_all; done)
  · refine A_aload_n dX11_find_12 rfl 2 rfl ?_
    refine A_iload dX11_find_13 0 rfl ?_
    refine J_lald lk_110 (by first | exact i32_eq (by assumption) | exact i32_eq ⟨by omega, by omega⟩ | with_reducible exact i32_i32 _ | with_reducible exact i32_eq (b2i_inr _) | rfl) (by omega) (by omega) (by decide) dX11_find_15 ?_
    refine A_lload_n dX11_find_16 rfl 4 rfl ?_
    refine A_lcmpE dX11_find_17 ?_
    refine A_if_ne_e (tgt := 25) dX11_find_18 (by decide) (fun h18 => ?_) (fun h18 => ?_)
    · refine A_iinc (lv2 := [(5, _), (4, _), (0, _), (1, _), (2, _)]) dX11_find_25 0 rfl (by decide) rfl ?_
      refine A_goto (tgt := 6) dX11_find_28 (by decide) ?_
      refine A_lv [0, 1, 2, 3, 4] rfl ?_
      refine ih (n - 1) (by omega) (i + 1) _ (by omega) ⟨by omega, by omega⟩ (by omega) ?_
      obtain ⟨n, rfl⟩ : ∃ q, n = q + 1 := ⟨n - 1, by omega⟩
      clear ih
      rw [fW_s] at hK
      simp only [Nat.add_sub_cancel]
      simp only [fnG] at hK
      (repeat' split at hK) <;> first | contradiction | (exfalso; omega) | exact hK | (simp_all; done)
    · refine A_iload dX11_find_21 0 rfl ?_
      refine A_istore (lv2 := [(4, _), (5, _), (0, _), (1, _), (2, _)]) dX11_find_23 (by decide) rfl ?_
      refine A_iinc (lv2 := [(5, _), (4, _), (0, _), (1, _), (2, _)]) dX11_find_25 1 rfl (by decide) rfl ?_
      refine A_goto (tgt := 6) dX11_find_28 (by decide) ?_
      refine A_lv [0, 1, 2, 3, 4] rfl ?_
      refine ih (n - 1) (by omega) (i + 1) _ (by omega) ⟨by omega, by omega⟩ (by omega) ?_
      obtain ⟨n, rfl⟩ : ∃ q, n = q + 1 := ⟨n - 1, by omega⟩
      clear ih
      rw [fW_s] at hK
      simp only [Nat.add_sub_cancel]
      simp only [fnG] at hK
      (repeat' split at hK) <;> first | contradiction | (exfalso; omega) | exact hK | (simp_all; done)
set_option maxRecDepth 100000 in
set_option maxHeartbeats 4000000 in
theorem c_X11_find_110 (σ : Sg) (many v : Int) (hmy : 0 ≤ many ∧ many ≤ 16) : Ct l G yX11_find cX11_find 6 (some .int) 0 0 0 [.ref (lay G 110), .int (I32 many), .long (I64 v)] σ (some (.int (I32 (fnC σ 110 many v)))) (σ) := by
  refine Ct.of (by decide +kernel) (Nat.le_of_ble_eq_true rfl) (fun f => ?_)
  show AW _ _ _ _ _ _ _ _ _ _ [(0, _), (1, _), (2, _)] _ _
  refine A_iconst dX11_find_0 ?_
  refine A_istore (lv2 := [(4, _), (0, _), (1, _), (2, _)]) dX11_find_1 (by decide) rfl ?_
  refine A_iconst dX11_find_3 ?_
  refine A_istore (lv2 := [(5, _), (4, _), (0, _), (1, _), (2, _)]) dX11_find_4 (by decide) rfl ?_
  refine A_lv [0, 1, 2, 3, 4] rfl ?_
  refine w_X11_find_110 σ many v hmy (by omega) 16 0 _ (by omega) ⟨by omega, by omega⟩ (by omega) ?_
  refine A_iload dX11_find_31 0 rfl ?_
  exact A_iret dX11_find_33 (by rfl) (by rfl)
set_option maxRecDepth 100000 in
set_option maxHeartbeats 4000000 in
theorem c_X11_isTaken (σ : Sg) (v : Int) (h1 : 0 ≤ σ 84 10 ∧ σ 84 10 ≤ 16) (h2 : 0 ≤ σ 84 15 ∧ σ 84 15 ≤ 16) (h3 : 0 ≤ σ 84 23 ∧ σ 84 23 ≤ 4) : Ct l G yX11_isTaken cX11_isTaken 3 (some .boolean) 1 0 0 [.ref (lay G 84), .long (I64 v)] σ (some (.int (I32 (b2i (tknR σ v))))) (σ) := by
  have h4 : 0 ≤ σ 84 23 ∧ σ 84 23 ≤ 16 := ⟨h3.1, by omega⟩
  refine Ct.of (by decide +kernel) (Nat.le_of_ble_eq_true rfl) (fun f => ?_)
  show AW _ _ _ _ _ _ _ _ _ _ [(0, _), (1, _)] _ _
  refine A_aload_n dX11_isTaken_0 rfl 0 rfl ?_
  refine A_getr fl_X11_26 lk_84 rfl dX11_isTaken_1 ?_
  refine A_aload_n dX11_isTaken_4 rfl 0 rfl ?_
  refine A_geti fl_X11_240 lk_84 rfl dX11_isTaken_5 ?_
  refine A_lload_n dX11_isTaken_8 rfl 1 rfl ?_
  refine A_Sa3 ms_X11_243 (c_X11_find_89 σ _ _ h1) (Nat.le_of_ble_eq_true rfl) (by omega) (by omega) dX11_isTaken_9 ?_
  refine A_iconst dX11_isTaken_12 ?_
  refine J_icmp_ne (tgt := 48) dX11_isTaken_13 (by decide) (by first | with_reducible exact fnC_i32 (by assumption) | exact i32_eq (by assumption) | exact i32_eq ⟨by omega, by omega⟩ | with_reducible exact i32_i32 _ | rfl) (by first | with_reducible exact fnC_i32 (by assumption) | exact i32_eq (by assumption) | exact i32_eq ⟨by omega, by omega⟩ | with_reducible exact i32_i32 _ | rfl) (fun h13 => ?_) (fun h13 => ?_)
  · refine A_iconst dX11_isTaken_48 ?_
    refine A_goto (tgt := 53) dX11_isTaken_49 (by decide) ?_
    exact A_zret2 dX11_isTaken_53 (by decide) (by simp only [tknR]; first | (rw [decide_eq_true (by omega), b2i_t]; done) | (rw [decide_eq_false (by omega), b2i_f]; done)) (by rfl)
  · refine A_aload_n dX11_isTaken_16 rfl 0 rfl ?_
    refine A_getr fl_X11_39 lk_84 rfl dX11_isTaken_17 ?_
    refine A_aload_n dX11_isTaken_20 rfl 0 rfl ?_
    refine A_geti fl_X11_247 lk_84 rfl dX11_isTaken_21 ?_
    try simp (disch := omega) only [up_k, up_j, up_s]
    refine A_lload_n dX11_isTaken_24 rfl 1 rfl ?_
    refine A_Sa3 ms_X11_243 (c_X11_find_93 σ _ _ h2) (Nat.le_of_ble_eq_true rfl) (by omega) (by omega) dX11_isTaken_25 ?_
    refine A_iconst dX11_isTaken_28 ?_
    refine J_icmp_ne (tgt := 48) dX11_isTaken_29 (by decide) (by first | with_reducible exact fnC_i32 (by assumption) | exact i32_eq (by assumption) | exact i32_eq ⟨by omega, by omega⟩ | with_reducible exact i32_i32 _ | rfl) (by first | with_reducible exact fnC_i32 (by assumption) | exact i32_eq (by assumption) | exact i32_eq ⟨by omega, by omega⟩ | with_reducible exact i32_i32 _ | rfl) (fun h29 => ?_) (fun h29 => ?_)
    · refine A_iconst dX11_isTaken_48 ?_
      refine A_goto (tgt := 53) dX11_isTaken_49 (by decide) ?_
      exact A_zret2 dX11_isTaken_53 (by decide) (by simp only [tknR]; first | (rw [decide_eq_true (by omega), b2i_t]; done) | (rw [decide_eq_false (by omega), b2i_f]; done)) (by rfl)
    · refine A_aload_n dX11_isTaken_32 rfl 0 rfl ?_
      refine A_getr fl_X11_60 lk_84 rfl dX11_isTaken_33 ?_
      refine A_aload_n dX11_isTaken_36 rfl 0 rfl ?_
      refine A_geti fl_X11_250 lk_84 rfl dX11_isTaken_37 ?_
      try simp (disch := omega) only [up_k, up_j, up_s]
      refine A_lload_n dX11_isTaken_40 rfl 1 rfl ?_
      refine A_Sa3 ms_X11_243 (c_X11_find_100 σ _ _ h3) (Nat.le_of_ble_eq_true rfl) (by omega) (by omega) dX11_isTaken_41 ?_
      refine A_iconst dX11_isTaken_44 ?_
      refine J_icmp_eq (tgt := 52) dX11_isTaken_45 (by decide) (by first | with_reducible exact fnC_i32 (by assumption) | exact i32_eq (by assumption) | exact i32_eq ⟨by omega, by omega⟩ | with_reducible exact i32_i32 _ | rfl) (by first | with_reducible exact fnC_i32 (by assumption) | exact i32_eq (by assumption) | exact i32_eq ⟨by omega, by omega⟩ | with_reducible exact i32_i32 _ | rfl) (fun h45 => ?_) (fun h45 => ?_)
      · refine A_iconst dX11_isTaken_52 ?_
        exact A_zret2 dX11_isTaken_53 (by decide) (by simp only [tknR]; first | (rw [decide_eq_true (by omega), b2i_t]; done) | (rw [decide_eq_false (by omega), b2i_f]; done)) (by rfl)
      · refine A_iconst dX11_isTaken_48 ?_
        refine A_goto (tgt := 53) dX11_isTaken_49 (by decide) ?_
        exact A_zret2 dX11_isTaken_53 (by decide) (by simp only [tknR]; first | (rw [decide_eq_true (by omega), b2i_t]; done) | (rw [decide_eq_false (by omega), b2i_f]; done)) (by rfl)
set_option maxRecDepth 100000 in
set_option maxHeartbeats 4000000 in
theorem c_X11_wrong (σ : Sg) (c t : Int) (h : 0 ≤ t ∧ t ≤ 1500) : Ct l G yX11_wrong cX11_wrong 3 (some .int) 0 0 0 [.ref (lay G 84), .int (I32 c), .int (I32 t)] σ (some (.int (I32 c))) (up σ 84 4 (σ 87 t.toNat)) := by
  refine Ct.of (by decide +kernel) (Nat.le_of_ble_eq_true rfl) (fun f => ?_)
  show AW _ _ _ _ _ _ _ _ _ _ [(0, _), (1, _), (2, _)] _ _
  refine A_aload_n dX11_wrong_0 rfl 0 rfl ?_
  refine A_aload_n dX11_wrong_1 rfl 0 rfl ?_
  refine A_getr fl_X11_20 lk_84 rfl dX11_wrong_2 ?_
  refine A_iload_n dX11_wrong_5 rfl 2 rfl ?_
  refine J_iald lk_87 (by first | exact i32_eq (by assumption) | exact i32_eq ⟨by omega, by omega⟩ | with_reducible exact i32_i32 _ | with_reducible exact i32_eq (b2i_inr _) | rfl) (by omega) (by omega) (by decide) dX11_wrong_6 ?_
  refine A_puti fl_X11_13 lk_84 rfl dX11_wrong_7 ?_
  refine A_iload_n dX11_wrong_10 rfl 1 rfl ?_
  exact A_iret dX11_wrong_11 (by rfl) (by rfl)
def rf1 (x k : Int) (σ : Sg) : Sg := up (up σ 85 (σ 84 2).toNat (iand (ishr x (8 * k)) 255)) 84 2 (σ 84 2 + 1)
def rfF (x : Int) : Nat → Sg → Sg
  | 0, σ => σ
  | n + 1, σ => rfF x n (rf1 x n σ)
theorem rfF_len (x : Int) : ∀ (n : Nat) (σ : Sg), rfF x n σ 84 2 = σ 84 2 + n
  | 0, σ => by simp [rfF]
  | n + 1, σ => by
    show rfF x n (rf1 x n σ) 84 2 = _
    rw [rfF_len x n]
    have e : rf1 x n σ 84 2 = σ 84 2 + 1 := up_s _ _ _ _
    rw [e]; omega
def rfG (t : Nat → Int) (i : Int) (σ : Sg) : Sg := rfF (t i.toNat) 4 σ
def t5 (a b c d e : Int) : Nat → Int := upT (upT (upT (upT (upT (fun _ => 0) 0 a) 1 b) 2 c) 3 d) 4 e
def fdS (σ : Sg) (a b c d e : Int) : Sg := if σ 84 2 + 20 ≤ 1500 then fW 5 (rfG (t5 a b c d e)) 5 0 (up σ 84 0 0) else up (up σ 84 0 0) 84 0 1
def fdV (σ : Sg) (a b c d e : Int) : Int := if σ 84 2 + 20 ≤ 1500 then fdS σ a b c d e 84 2 else 0
set_option maxRecDepth 100000 in
set_option maxHeartbeats 4000000 in
theorem w_X11_feed80 {f : Fm} {Q : State → Prop} {xs : va_W} {kk nn rc rs : Nat} (x i : Int) (a0 : Nat) : ∀ (n : Nat) (σ : Sg), n ≤ 4 → 0 ≤ σ 84 2 → σ 84 2 + n ≤ 1500 → (AW l G f (RX11, cX11_feed, 12, (some .int)) (1, rc, rs) Q xs kk nn 122 [(10, .int (I32 x)), (0, .ref (lay G 84)), (7, .ref a0), (8, .int (I32 5)), (9, .int (I32 i))] [] (rfF x n σ)) → AW l G f (RX11, cX11_feed, 12, (some .int)) (1, rc, rs) (Q) xs kk nn 80 [(11, .int (I32 ((n : Int) - 1))), (10, .int (I32 x)), (0, .ref (lay G 84)), (7, .ref a0), (8, .int (I32 5)), (9, .int (I32 i))] [] σ := by
  intro n
  induction n using Nat.strongRecOn with | _ n ih =>
  intro σ h4 h0 h1 hK
  refine A_iload dX11_feed_80 0 rfl ?_
  refine J_if_lt (tgt := 122) dX11_feed_82 (by decide) (by first | exact i32_eq (by assumption) | exact i32_eq ⟨by omega, by omega⟩ | with_reducible exact i32_i32 _ | with_reducible exact i32_eq (b2i_inr _) | rfl) (fun h82 => ?_) (fun h82 => ?_)
  · clear ih
    refine A_lv [1, 2, 3, 4, 5] rfl ?_
    obtain rfl : n = 0 := by omega
    exact hK
  · refine A_aload_n dX11_feed_85 rfl 2 rfl ?_
    refine A_getr fl_X11_9 lk_84 rfl dX11_feed_86 ?_
    refine A_aload_n dX11_feed_89 rfl 2 rfl ?_
    refine A_geti fl_X11_99 lk_84 rfl dX11_feed_90 ?_
    try simp (disch := omega) only [up_k, up_j, up_s]
    refine A_iload dX11_feed_93 1 rfl ?_
    refine A_bipush dX11_feed_95 (by decide +kernel) ?_
    refine A_iload dX11_feed_97 0 rfl ?_
    refine A_imul dX11_feed_99 ?_
    refine A_ishr dX11_feed_100 ?_
    refine A_sipush dX11_feed_101 (by decide +kernel) ?_
    refine A_iand dX11_feed_104 ?_
    refine J_iast lk_85 (by first | exact i32_eq (by assumption) | exact i32_eq ⟨by omega, by omega⟩ | with_reducible exact i32_i32 _ | with_reducible exact i32_eq (b2i_inr _) | rfl) (by omega) (by omega) (by decide) dX11_feed_105 ?_
    refine A_aload_n dX11_feed_106 rfl 2 rfl ?_
    refine A_dup dX11_feed_107 rfl ?_
    refine A_geti fl_X11_99 lk_84 rfl dX11_feed_108 ?_
    try simp (disch := omega) only [up_k, up_j, up_s]
    refine A_iconst dX11_feed_111 ?_
    refine A_iadd dX11_feed_112 ?_
    refine A_puti fl_X11_99 lk_84 rfl dX11_feed_113 ?_
    refine A_iinc (lv2 := [(11, _), (10, _), (0, _), (7, _), (8, _), (9, _)]) dX11_feed_116 0 rfl (by decide) rfl ?_
    refine A_goto (tgt := 80) dX11_feed_119 (by decide) ?_
    refine A_lv [0, 1, 2, 3, 4, 5] rfl ?_
    obtain ⟨n, rfl⟩ : ∃ q, n = q + 1 := ⟨n - 1, by omega⟩
    rw [show (((n + 1 : Nat) : Int) - 1 + -1) = (n : Int) - 1 from by omega]
    rw [show (((n + 1 : Nat) : Int) - 1) = (n : Int) from by omega]
    refine ih n (by omega) (rf1 x n σ) (by omega) ?_ ?_ ?_
    · show 0 ≤ σ 84 2 + 1; omega
    · show σ 84 2 + 1 + _ ≤ _; omega
    · exact hK
set_option maxRecDepth 100000 in
set_option maxHeartbeats 4000000 in
theorem w_X11_feed63 {f : Fm} {Q : State → Prop} {xs : va_W} {kk nn rc rs : Nat} (t : Nat → Int) (a0 : Nat) (cA : ClassId) (hx : xs[0]? = some (tmA cA a0 5 t)) (hKA : KA G f cA) (hm : kk ≤ rc ∧ nn ≤ rs) : ∀ (n : Nat) (i : Int) (a : Sg), 0 ≤ i → inr i → i + n = 5 → (0 ≤ a 84 2) → (a 84 2 + 4 * (5 - i) ≤ 1500) → AW l G f (RX11, cX11_feed, 12, (some .int)) (1, rc, rs) Q xs kk nn 128 [(0, .ref (lay G 84)), (7, .ref a0), (8, .int (I32 5))] [] ((fW (5) (rfG t) n i a)) → AW l G f (RX11, cX11_feed, 12, (some .int)) (1, rc, rs) Q xs kk nn 63 [(9, .int (I32 i)), (0, .ref (lay G 84)), (7, .ref a0), (8, .int (I32 5))] [] (a) := by
  intro n
  induction n using Nat.strongRecOn with | _ n ih =>
  intro i a h0 hii hn hv0 hv1 hK
  obtain ⟨hi1, hi2⟩ := hii
  refine A_iload dX11_feed_63 0 rfl ?_
  refine A_iload dX11_feed_65 3 rfl ?_
  refine J_icmp_ge (tgt := 128) dX11_feed_67 (by decide) (by first | exact i32_eq (by assumption) | exact i32_eq ⟨by omega, by omega⟩ | with_reducible exact i32_i32 _ | with_reducible exact i32_eq (b2i_inr _) | rfl) (by first | exact i32_eq (by assumption) | exact i32_eq ⟨by omega, by omega⟩ | with_reducible exact i32_i32 _ | with_reducible exact i32_eq (b2i_inr _) | rfl) (fun h67 => ?_) (fun h67 => ?_)
  · refine A_lv [1, 2, 3] rfl ?_
    clear ih
    rcases n with _ | n <;> simp only [fW] at hK <;> (repeat' split at hK) <;> first | contradiction | (exfalso; omega) | exact hK | (simp_all; done)
  · refine A_aload dX11_feed_70 2 rfl ?_
    refine A_iload dX11_feed_72 0 rfl ?_
    refine A_ialdT (q := 0) hx hKA (by first | exact i32_eq (by assumption) | exact i32_eq ⟨by omega, by omega⟩ | with_reducible exact i32_i32 _ | with_reducible exact i32_eq (b2i_inr _) | rfl) (by omega) (by omega) (by decide) dX11_feed_74 ?_
    refine A_istore (lv2 := [(10, _), (9, _), (0, _), (7, _), (8, _)]) dX11_feed_75 (by decide) rfl ?_
    refine A_iconst dX11_feed_77 ?_
    refine A_istore (lv2 := [(11, _), (10, _), (9, _), (0, _), (7, _), (8, _)]) dX11_feed_78 (by decide) rfl ?_
    refine A_lv [0, 1, 3, 4, 5, 2] rfl ?_
    refine w_X11_feed80 (t i.toNat) i a0 4 a (by omega) (by omega) (by omega) ?_
    refine A_iinc (lv2 := [(9, _), (10, _), (0, _), (7, _), (8, _)]) dX11_feed_122 4 rfl (by decide) rfl ?_
    refine A_goto (tgt := 63) dX11_feed_125 (by decide) ?_
    refine A_lv [0, 2, 3, 4] rfl ?_
    refine ih (n - 1) (by omega) (i + 1) _ (by omega) ⟨by omega, by omega⟩ (by omega) (by rw [rfF_len]; omega) (by rw [rfF_len]; omega) ?_
    obtain ⟨n, rfl⟩ : ∃ q, n = q + 1 := ⟨n - 1, by omega⟩
    clear ih
    rw [fW_s] at hK
    simp only [Nat.add_sub_cancel]
    rw [if_pos (by omega)] at hK
    exact hK
set_option maxRecDepth 100000 in
set_option maxHeartbeats 4000000 in
theorem c_X11_feed (σ : Sg) (a b c d e : Int) (hb : Rb σ) : Ct l G yX11_feed cX11_feed 12 (some .int) 1 1 5 [.ref (lay G 84), .int (I32 a), .int (I32 b), .int (I32 c), .int (I32 d), .int (I32 e)] σ (some (.int (I32 (fdV σ a b c d e)))) (fdS σ a b c d e) := by
  obtain ⟨⟨hb1, hb2⟩, hb3⟩ := id hb
  refine Ct.of (by decide +kernel) (Nat.le_of_ble_eq_true rfl) (fun f => ?_)
  show AW _ _ _ _ _ _ _ _ _ _ [(0, _), (1, _), (2, _), (3, _), (4, _), (5, _)] _ _
  refine A_aload_n dX11_feed_0 rfl 0 rfl ?_
  refine A_iconst dX11_feed_1 ?_
  refine A_puti fl_X11_96 lk_84 rfl dX11_feed_2 ?_
  refine A_aload_n dX11_feed_5 rfl 0 rfl ?_
  refine A_geti fl_X11_99 lk_84 rfl dX11_feed_6 ?_
  try simp (disch := omega) only [up_k, up_j, up_s]
  refine A_bipush dX11_feed_9 (by decide +kernel) ?_
  refine A_iadd dX11_feed_11 ?_
  refine A_sipush dX11_feed_12 (by decide +kernel) ?_
  refine J_icmp_le (tgt := 24) dX11_feed_15 (by decide) (by first | exact i32_eq (by assumption) | exact i32_eq ⟨by omega, by omega⟩ | with_reducible exact i32_i32 _ | with_reducible exact i32_eq (b2i_inr _) | rfl) (by first | exact i32_eq (by assumption) | exact i32_eq ⟨by omega, by omega⟩ | with_reducible exact i32_i32 _ | with_reducible exact i32_eq (b2i_inr _) | rfl) (fun h15 => ?_) (fun h15 => ?_)
  · refine A_iconst dX11_feed_24 ?_
    refine A_newaT (N := 5) (by decide) (by decide) (by decide) (by omega) dX11_feed_25 (fun a25 c25 hKA25 => ?_)
    refine A_dup dX11_feed_27 rfl ?_
    refine A_iconst dX11_feed_28 ?_
    refine A_iload_n dX11_feed_29 rfl 1 rfl ?_
    refine A_iastT (q := 0) rfl hKA25 (by first | exact i32_eq (by assumption) | exact i32_eq ⟨by omega, by omega⟩ | with_reducible exact i32_i32 _ | with_reducible exact i32_eq (b2i_inr _) | rfl) (by omega) (by omega) (by decide) dX11_feed_30 ?_
    refine A_dup dX11_feed_31 rfl ?_
    refine A_iconst dX11_feed_32 ?_
    refine A_iload_n dX11_feed_33 rfl 2 rfl ?_
    refine A_iastT (q := 0) rfl hKA25 (by first | exact i32_eq (by assumption) | exact i32_eq ⟨by omega, by omega⟩ | with_reducible exact i32_i32 _ | with_reducible exact i32_eq (b2i_inr _) | rfl) (by omega) (by omega) (by decide) dX11_feed_34 ?_
    refine A_dup dX11_feed_35 rfl ?_
    refine A_iconst dX11_feed_36 ?_
    refine A_iload_n dX11_feed_37 rfl 3 rfl ?_
    refine A_iastT (q := 0) rfl hKA25 (by first | exact i32_eq (by assumption) | exact i32_eq ⟨by omega, by omega⟩ | with_reducible exact i32_i32 _ | with_reducible exact i32_eq (b2i_inr _) | rfl) (by omega) (by omega) (by decide) dX11_feed_38 ?_
    refine A_dup dX11_feed_39 rfl ?_
    refine A_iconst dX11_feed_40 ?_
    refine A_iload dX11_feed_41 4 rfl ?_
    refine A_iastT (q := 0) rfl hKA25 (by first | exact i32_eq (by assumption) | exact i32_eq ⟨by omega, by omega⟩ | with_reducible exact i32_i32 _ | with_reducible exact i32_eq (b2i_inr _) | rfl) (by omega) (by omega) (by decide) dX11_feed_43 ?_
    refine A_dup dX11_feed_44 rfl ?_
    refine A_iconst dX11_feed_45 ?_
    refine A_iload dX11_feed_46 5 rfl ?_
    refine A_iastT (q := 0) rfl hKA25 (by first | exact i32_eq (by assumption) | exact i32_eq ⟨by omega, by omega⟩ | with_reducible exact i32_i32 _ | with_reducible exact i32_eq (b2i_inr _) | rfl) (by omega) (by omega) (by decide) dX11_feed_48 ?_
    refine A_astore (lv2 := [(6, _), (0, _), (1, _), (2, _), (3, _), (4, _), (5, _)]) dX11_feed_49 (by decide) rfl ?_
    refine A_aload dX11_feed_51 0 rfl ?_
    refine A_astore (lv2 := [(7, _), (6, _), (0, _), (1, _), (2, _), (3, _), (4, _), (5, _)]) dX11_feed_53 (by decide) rfl ?_
    refine A_aload dX11_feed_55 0 rfl ?_
    refine A_alenT (q := 0) rfl hKA25 dX11_feed_57 ?_
    refine A_istore (lv2 := [(8, _), (7, _), (6, _), (0, _), (1, _), (2, _), (3, _), (4, _), (5, _)]) dX11_feed_58 (by decide) rfl ?_
    refine A_iconst dX11_feed_60 ?_
    refine A_istore (lv2 := [(9, _), (8, _), (7, _), (6, _), (0, _), (1, _), (2, _), (3, _), (4, _), (5, _)]) dX11_feed_61 (by decide) rfl ?_
    refine A_lv [0, 4, 2, 1] rfl ?_
    refine w_X11_feed63 (t5 a b c d e) a25 c25 rfl hKA25 (by omega) 5 0 _ (by omega) ⟨by omega, by omega⟩ (by omega) (by show 0 ≤ σ 84 2; omega) (by show σ 84 2 + _ ≤ _; omega) ?_
    refine A_aload_n dX11_feed_128 rfl 0 rfl ?_
    refine A_geti fl_X11_99 lk_84 rfl dX11_feed_129 ?_
    try simp (disch := omega) only [up_k, up_j, up_s]
    refine A_wid (k2 := 1) (n2 := 5) (by decide) (by decide) ?_
    exact A_iret dX11_feed_132 (by unfold fdV; first | (rw [if_pos (by omega)]; unfold fdS; rw [if_pos (by omega)]; done) | (rw [if_neg (by omega)]; done)) (by unfold fdS; first | (rw [if_pos (by omega)]; done) | (rw [if_neg (by omega)]; done))
  · refine A_aload_n dX11_feed_18 rfl 0 rfl ?_
    refine A_iconst dX11_feed_19 ?_
    refine A_Va1 mv_X11_102 lk_84 rfl rfl (c_X11_no _ _) (Nat.le_of_ble_eq_true rfl) (by omega) (by omega) dX11_feed_20 ?_
    refine A_wid (k2 := 1) (n2 := 5) (by decide) (by decide) ?_
    exact A_iret dX11_feed_23 (by unfold fdV; first | (rw [if_pos (by omega)]; unfold fdS; rw [if_pos (by omega)]; done) | (rw [if_neg (by omega)]; done)) (by unfold fdS; first | (rw [if_pos (by omega)]; done) | (rw [if_neg (by omega)]; done))
def tmS (σ : Sg) (n : Int) : Sg := if inR n 0 (σ 84 2) = true then up (up σ 84 0 0) 84 2 n else up (up σ 84 0 0) 84 0 1
def tmVR (σ : Sg) (n : Int) : Int := if inR n 0 (σ 84 2) = true then n else 0
set_option maxRecDepth 100000 in
set_option maxHeartbeats 4000000 in
theorem c_X11_trim (σ : Sg) (n : Int)  : Ct l G yX11_trim cX11_trim 2 (some .int) 1 0 0 [.ref (lay G 84), .int (I32 n)] σ (some (.int (I32 (tmVR σ n)))) (tmS σ n) := by
  refine Ct.of (by decide +kernel) (Nat.le_of_ble_eq_true rfl) (fun f => ?_)
  show AW _ _ _ _ _ _ _ _ _ _ [(0, _), (1, _)] _ _
  refine A_aload_n dX11_trim_0 rfl 0 rfl ?_
  refine A_iconst dX11_trim_1 ?_
  refine A_puti fl_X11_96 lk_84 rfl dX11_trim_2 ?_
  refine A_iload_n dX11_trim_5 rfl 1 rfl ?_
  refine A_iconst dX11_trim_6 ?_
  refine A_aload_n dX11_trim_7 rfl 0 rfl ?_
  refine A_geti fl_X11_99 lk_84 rfl dX11_trim_8 ?_
  try simp (disch := omega) only [up_k, up_j, up_s]
  refine A_Sa3 ms_X11_106 (c_X11_isIn _ _ _ _) (Nat.le_of_ble_eq_true rfl) (by omega) (by omega) dX11_trim_11 ?_
  refine A_ifne_b (tgt := 23) dX11_trim_14 (by decide) (fun h14 => ?_) (fun h14 => ?_)
  · refine A_aload_n dX11_trim_23 rfl 0 rfl ?_
    refine A_iload_n dX11_trim_24 rfl 1 rfl ?_
    refine A_puti fl_X11_99 lk_84 rfl dX11_trim_25 ?_
    refine A_iload_n dX11_trim_28 rfl 1 rfl ?_
    exact A_iret dX11_trim_29 (by unfold tmVR; first | (rw [if_pos (by assumption)]; done) | (rw [if_neg (by simp_all)]; done)) (by unfold tmS; first | (rw [if_pos (by assumption)]; done) | (rw [if_neg (by simp_all)]; done))
  · refine A_aload_n dX11_trim_17 rfl 0 rfl ?_
    refine A_iconst dX11_trim_18 ?_
    refine A_Va1 mv_X11_102 lk_84 rfl rfl (c_X11_no _ _) (Nat.le_of_ble_eq_true rfl) (by omega) (by omega) dX11_trim_19 ?_
    exact A_iret dX11_trim_22 (by unfold tmVR; first | (rw [if_pos (by assumption)]; done) | (rw [if_neg (by simp_all)]; done)) (by unfold tmS; first | (rw [if_pos (by assumption)]; done) | (rw [if_neg (by simp_all)]; done))
end S32
