/-! the wrappers of the law: printed by program (wip/whole/gen/law.py) -/
section S82
variable {l : Launch} {G : Gx}
theorem cl_13 : Cond.classLink RL 13 ISE ∈ lw_all := in_all (i := 1019) (by decide +kernel) rfl
theorem cl_19 : Cond.classLink RL 19 IAE ∈ lw_all := in_all (i := 1098) (by decide +kernel) rfl
theorem cl_24 : Cond.classLink RL 24 IOO ∈ lw_all := in_all (i := 1122) (by decide +kernel) rfl
theorem ex_ISE : ISE ∈ exS := by unfold exS ISE; exact List.mem_cons_self
theorem ex_IAE : IAE ∈ exS := by unfold exS IAE; exact List.mem_cons_of_mem _ List.mem_cons_self
theorem ex_IOO : IOO ∈ exS := by unfold exS IOO; exact List.mem_cons_of_mem _ (List.mem_cons_of_mem _ List.mem_cons_self)
theorem nc_1 : (ISE, IAE) ∈ ncS := by unfold ncS ISE IAE; exact List.mem_cons_self
theorem nc_2 : (ISE, IOO) ∈ ncS := by unfold ncS ISE IOO; exact List.mem_cons_of_mem _ List.mem_cons_self
theorem nc_3 : (IAE, IOO) ∈ ncS := by unfold ncS IAE IOO; exact List.mem_cons_of_mem _ (List.mem_cons_of_mem _ List.mem_cons_self)
theorem A_T1 {f : Fm} {own : String} {cc : ByteArray} {nL : Nat} {rt : Option FieldType} {dd rc rs : Nat} {Q : State → Prop} {xs : va_W} {k n pc : Nat} {lv : List (Nat × Value)} {rest : List Value} {σ σ1 : Sg} {y : MethodName} {idx : Nat} {c2 : ByteArray} {nL2 : Nat} {rt2 : Option FieldType} {d mc ms : Nat} {kk ci : Nat} {cs : List Nat} {C : String} {TT : u_T} {NN : Nat} {o : Rs} {v0 : Value} (ml : MLV own idx y c2 nL2 rt2 1) (hk : lkL[kk]? = some (.inl (ci, cs))) (hci : vwCl[ci]? = some (C, TT, NN)) (hC : y.cls = C) (hct : CtX l G y c2 nL2 rt2 d mc ms [.ref (lay G kk), v0] σ o σ1) (hroom : (rest.map fun v => v.category).sum ≤ 8) (hd : d + 1 ≤ dd) (hm : k + mc ≤ rc ∧ n + ms ≤ rs) (dec : decode cc pc = .ok (.invokevirtual idx, 3))
    (gn : ∀ r, o = .inl r → AW l G f (own, cc, nL, rt) (dd, rc, rs) Q xs (k + mc) (n + ms) (pc + 3) lv (r.toList ++ rest) σ1)
    (gx : ∀ E, o = .inr E → ∃ h, Caught f own pc E h ∧ ∀ q, AW l G f (own, cc, nL, rt) (dd, rc, rs) Q xs (k + mc) (n + ms) h lv [.ref q] σ1) : AW l G f (own, cc, nL, rt) (dd, rc, rs) Q xs k n pc lv (v0 :: .ref (lay G kk) :: rest) σ := A_try (As := [v0]) ml hk hci hC hct rfl hroom hd hm dec gn gx
theorem A_T2 {f : Fm} {own : String} {cc : ByteArray} {nL : Nat} {rt : Option FieldType} {dd rc rs : Nat} {Q : State → Prop} {xs : va_W} {k n pc : Nat} {lv : List (Nat × Value)} {rest : List Value} {σ σ1 : Sg} {y : MethodName} {idx : Nat} {c2 : ByteArray} {nL2 : Nat} {rt2 : Option FieldType} {d mc ms : Nat} {kk ci : Nat} {cs : List Nat} {C : String} {TT : u_T} {NN : Nat} {o : Rs} {v0 v1 : Value} (ml : MLV own idx y c2 nL2 rt2 2) (hk : lkL[kk]? = some (.inl (ci, cs))) (hci : vwCl[ci]? = some (C, TT, NN)) (hC : y.cls = C) (hct : CtX l G y c2 nL2 rt2 d mc ms [.ref (lay G kk), v0, v1] σ o σ1) (hroom : (rest.map fun v => v.category).sum ≤ 8) (hd : d + 1 ≤ dd) (hm : k + mc ≤ rc ∧ n + ms ≤ rs) (dec : decode cc pc = .ok (.invokevirtual idx, 3))
    (gn : ∀ r, o = .inl r → AW l G f (own, cc, nL, rt) (dd, rc, rs) Q xs (k + mc) (n + ms) (pc + 3) lv (r.toList ++ rest) σ1)
    (gx : ∀ E, o = .inr E → ∃ h, Caught f own pc E h ∧ ∀ q, AW l G f (own, cc, nL, rt) (dd, rc, rs) Q xs (k + mc) (n + ms) h lv [.ref q] σ1) : AW l G f (own, cc, nL, rt) (dd, rc, rs) Q xs k n pc lv (v1 :: v0 :: .ref (lay G kk) :: rest) σ := A_try (As := [v0, v1]) ml hk hci hC hct rfl hroom hd hm dec gn gx
theorem A_T3 {f : Fm} {own : String} {cc : ByteArray} {nL : Nat} {rt : Option FieldType} {dd rc rs : Nat} {Q : State → Prop} {xs : va_W} {k n pc : Nat} {lv : List (Nat × Value)} {rest : List Value} {σ σ1 : Sg} {y : MethodName} {idx : Nat} {c2 : ByteArray} {nL2 : Nat} {rt2 : Option FieldType} {d mc ms : Nat} {kk ci : Nat} {cs : List Nat} {C : String} {TT : u_T} {NN : Nat} {o : Rs} {v0 v1 v2 : Value} (ml : MLV own idx y c2 nL2 rt2 3) (hk : lkL[kk]? = some (.inl (ci, cs))) (hci : vwCl[ci]? = some (C, TT, NN)) (hC : y.cls = C) (hct : CtX l G y c2 nL2 rt2 d mc ms [.ref (lay G kk), v0, v1, v2] σ o σ1) (hroom : (rest.map fun v => v.category).sum ≤ 8) (hd : d + 1 ≤ dd) (hm : k + mc ≤ rc ∧ n + ms ≤ rs) (dec : decode cc pc = .ok (.invokevirtual idx, 3))
    (gn : ∀ r, o = .inl r → AW l G f (own, cc, nL, rt) (dd, rc, rs) Q xs (k + mc) (n + ms) (pc + 3) lv (r.toList ++ rest) σ1)
    (gx : ∀ E, o = .inr E → ∃ h, Caught f own pc E h ∧ ∀ q, AW l G f (own, cc, nL, rt) (dd, rc, rs) Q xs (k + mc) (n + ms) h lv [.ref q] σ1) : AW l G f (own, cc, nL, rt) (dd, rc, rs) Q xs k n pc lv (v2 :: v1 :: v0 :: .ref (lay G kk) :: rest) σ := A_try (As := [v0, v1, v2]) ml hk hci hC hct rfl hroom hd hm dec gn gx
theorem A_T5 {f : Fm} {own : String} {cc : ByteArray} {nL : Nat} {rt : Option FieldType} {dd rc rs : Nat} {Q : State → Prop} {xs : va_W} {k n pc : Nat} {lv : List (Nat × Value)} {rest : List Value} {σ σ1 : Sg} {y : MethodName} {idx : Nat} {c2 : ByteArray} {nL2 : Nat} {rt2 : Option FieldType} {d mc ms : Nat} {kk ci : Nat} {cs : List Nat} {C : String} {TT : u_T} {NN : Nat} {o : Rs} {v0 v1 v2 v3 v4 : Value} (ml : MLV own idx y c2 nL2 rt2 5) (hk : lkL[kk]? = some (.inl (ci, cs))) (hci : vwCl[ci]? = some (C, TT, NN)) (hC : y.cls = C) (hct : CtX l G y c2 nL2 rt2 d mc ms [.ref (lay G kk), v0, v1, v2, v3, v4] σ o σ1) (hroom : (rest.map fun v => v.category).sum ≤ 8) (hd : d + 1 ≤ dd) (hm : k + mc ≤ rc ∧ n + ms ≤ rs) (dec : decode cc pc = .ok (.invokevirtual idx, 3))
    (gn : ∀ r, o = .inl r → AW l G f (own, cc, nL, rt) (dd, rc, rs) Q xs (k + mc) (n + ms) (pc + 3) lv (r.toList ++ rest) σ1)
    (gx : ∀ E, o = .inr E → ∃ h, Caught f own pc E h ∧ ∀ q, AW l G f (own, cc, nL, rt) (dd, rc, rs) Q xs (k + mc) (n + ms) h lv [.ref q] σ1) : AW l G f (own, cc, nL, rt) (dd, rc, rs) Q xs k n pc lv (v4 :: v3 :: v2 :: v1 :: v0 :: .ref (lay G kk) :: rest) σ := A_try (As := [v0, v1, v2, v3, v4]) ml hk hci hC hct rfl hroom hd hm dec gn gx
theorem ml_feed : MSH RL 73 yL_feed cL_feed 8 (some .int) [(0, 16, 19, 13)] 7 := ⟨in_all (i := 1016) (by decide +kernel) rfl, in_all (i := 1017) (by decide +kernel) rfl, in_all (i := 109) (by decide +kernel) rfl, in_all (i := 1018) (by decide +kernel) rfl, ⟨by decide +kernel, by decide +kernel, by decide +kernel⟩, by decide⟩
set_option maxRecDepth 100000 in
set_option maxHeartbeats 4000000 in
theorem c_L_feed (σ : Sg) (a : Int) (b : Int) (c : Int) (d : Int) (e : Int) (hlt : l.stackTraces = false) {kv : Int} {s2 : Sg} (h : wI [ISE] (feO σ a b c d e) (feS σ a b c d e) kv s2) : CtH l G yL_feed cL_feed 8 (some .int) [(0, 16, 19, 13)] 7 1 6 [.ref (lay G 0), .int (I32 a), .int (I32 b), .int (I32 c), .int (I32 d), .int (I32 e), .ref (lay G 112)] σ (some (.int (I32 kv))) s2 := by
  refine CtH.of (by decide +kernel) (Nat.le_of_ble_eq_true rfl) (fun f htab => ?_)
  show AW _ _ _ _ _ _ _ _ _ _ [(0, _), (1, _), (2, _), (3, _), (4, _), (5, _), (6, _)] _ _
  refine A_aload dL_feed_0 6 rfl ?_
  refine A_iconst dL_feed_2 ?_
  refine A_aload_n dL_feed_3 rfl 0 rfl ?_
  refine A_iload_n dL_feed_4 rfl 1 rfl ?_
  refine A_iload_n dL_feed_5 rfl 2 rfl ?_
  refine A_iload_n dL_feed_6 rfl 3 rfl ?_
  refine A_iload dL_feed_7 4 rfl ?_
  refine A_iload dL_feed_9 5 rfl ?_
  refine A_T5 mv_L_7 lk_0 rfl rfl (c_X10_feed σ a b c d e hlt) (Nat.le_of_ble_eq_true rfl) (by decide) ⟨by decide, by decide⟩ dL_feed_11 (fun r hr => ?_) (fun E hE => ?_)
  · rcases h with ⟨x, hO, rfl, rfl⟩ | ⟨i, E, hi, hO, rfl, rfl⟩
    · cases hO.symm.trans hr
      show AW _ _ _ _ _ _ _ _ _ _ _ (.int (I32 x) :: .int (I32 0) :: .ref (lay G 112) :: []) _
      refine J_i2l dL_feed_14 rfl ?_
      refine J_last lk_112 (z1 := 0) rfl (by decide) (by decide) (by decide) dL_feed_15 ?_
      refine A_goto dL_feed_16 (tgt := 23) (by decide) ?_
      refine A_iconst dL_feed_23 ?_
      exact A_iret dL_feed_24 rfl rfl
    · cases hO.symm.trans hr
  · rcases h with ⟨x, hO, rfl, rfl⟩ | ⟨i, E2, hi, hO, rfl, rfl⟩
    · cases hO.symm.trans hE
    · obtain rfl : E2 = E := Sum.inr.inj (hO.symm.trans hE)
      rcases i with _ | i
      · obtain rfl : ISE = E2 := Option.some.inj hi
        refine ⟨19, ⟨[], ⟨0, 16, 19, 13⟩, [], htab, (fun z hz => nomatch hz), by decide, by decide, cl_13, ex_ISE, rfl⟩, fun q => ?_⟩
        refine A_astore dL_feed_19 (by decide) rfl ?_
        refine A_iconst dL_feed_21 ?_
        exact A_iret dL_feed_22 rfl rfl
      · cases hi
theorem ml_trim : MSH RL 83 yL_trim cL_trim 4 (some .int) [(0, 9, 12, 19)] 3 := ⟨in_all (i := 1095) (by decide +kernel) rfl, in_all (i := 1096) (by decide +kernel) rfl, in_all (i := 109) (by decide +kernel) rfl, in_all (i := 1097) (by decide +kernel) rfl, ⟨by decide +kernel, by decide +kernel, by decide +kernel⟩, by decide⟩
set_option maxRecDepth 100000 in
set_option maxHeartbeats 4000000 in
theorem c_L_trim (σ : Sg) (a : Int) (hlt : l.stackTraces = false) {kv : Int} {s2 : Sg} (h : wI [IAE] (trO σ a) (trS σ a) kv s2) : CtH l G yL_trim cL_trim 4 (some .int) [(0, 9, 12, 19)] 7 1 6 [.ref (lay G 0), .int (I32 a), .ref (lay G 112)] σ (some (.int (I32 kv))) s2 := by
  refine CtH.of (by decide +kernel) (Nat.le_of_ble_eq_true rfl) (fun f htab => ?_)
  show AW _ _ _ _ _ _ _ _ _ _ [(0, _), (1, _), (2, _)] _ _
  refine A_aload_n dL_trim_0 rfl 2 rfl ?_
  refine A_iconst dL_trim_1 ?_
  refine A_aload_n dL_trim_2 rfl 0 rfl ?_
  refine A_iload_n dL_trim_3 rfl 1 rfl ?_
  refine A_T1 mv_L_15 lk_0 rfl rfl (c_X10_trim σ a hlt) (Nat.le_of_ble_eq_true rfl) (by decide) ⟨by decide, by decide⟩ dL_trim_4 (fun r hr => ?_) (fun E hE => ?_)
  · rcases h with ⟨x, hO, rfl, rfl⟩ | ⟨i, E, hi, hO, rfl, rfl⟩
    · cases hO.symm.trans hr
      show AW _ _ _ _ _ _ _ _ _ _ _ (.int (I32 x) :: .int (I32 0) :: .ref (lay G 112) :: []) _
      refine J_i2l dL_trim_7 rfl ?_
      refine J_last lk_112 (z1 := 0) rfl (by decide) (by decide) (by decide) dL_trim_8 ?_
      refine A_goto dL_trim_9 (tgt := 15) (by decide) ?_
      refine A_iconst dL_trim_15 ?_
      exact A_iret dL_trim_16 rfl rfl
    · cases hO.symm.trans hr
  · rcases h with ⟨x, hO, rfl, rfl⟩ | ⟨i, E2, hi, hO, rfl, rfl⟩
    · cases hO.symm.trans hE
    · obtain rfl : E2 = E := Sum.inr.inj (hO.symm.trans hE)
      rcases i with _ | i
      · obtain rfl : IAE = E2 := Option.some.inj hi
        refine ⟨12, ⟨[], ⟨0, 9, 12, 19⟩, [], htab, (fun z hz => nomatch hz), by decide, by decide, cl_19, ex_IAE, rfl⟩, fun q => ?_⟩
        refine A_astore_n dL_trim_12 rfl (by decide) rfl ?_
        refine A_iconst dL_trim_13 ?_
        exact A_iret dL_trim_14 rfl rfl
      · cases hi
theorem ml_count : MSH RL 95 yL_count cL_count 4 (some .int) [(0, 9, 12, 24)] 3 := ⟨in_all (i := 1119) (by decide +kernel) rfl, in_all (i := 1120) (by decide +kernel) rfl, in_all (i := 109) (by decide +kernel) rfl, in_all (i := 1121) (by decide +kernel) rfl, ⟨by decide +kernel, by decide +kernel, by decide +kernel⟩, by decide⟩
set_option maxRecDepth 100000 in
set_option maxHeartbeats 4000000 in
theorem c_L_count (σ : Sg) (a : Int) (hlt : l.stackTraces = false) {kv : Int} {s2 : Sg} (h : wI [IOO] (coO σ a) σ kv s2) : CtH l G yL_count cL_count 4 (some .int) [(0, 9, 12, 24)] 7 1 6 [.ref (lay G 0), .int (I32 a), .ref (lay G 112)] σ (some (.int (I32 kv))) s2 := by
  refine CtH.of (by decide +kernel) (Nat.le_of_ble_eq_true rfl) (fun f htab => ?_)
  show AW _ _ _ _ _ _ _ _ _ _ [(0, _), (1, _), (2, _)] _ _
  refine A_aload_n dL_count_0 rfl 2 rfl ?_
  refine A_iconst dL_count_1 ?_
  refine A_aload_n dL_count_2 rfl 0 rfl ?_
  refine A_iload_n dL_count_3 rfl 1 rfl ?_
  refine A_T1 mv_L_21 lk_0 rfl rfl (c_X10_count σ a hlt) (Nat.le_of_ble_eq_true rfl) (by decide) ⟨by decide, by decide⟩ dL_count_4 (fun r hr => ?_) (fun E hE => ?_)
  · rcases h with ⟨x, hO, rfl, rfl⟩ | ⟨i, E, hi, hO, rfl, rfl⟩
    · cases hO.symm.trans hr
      show AW _ _ _ _ _ _ _ _ _ _ _ (.int (I32 x) :: .int (I32 0) :: .ref (lay G 112) :: []) _
      refine J_i2l dL_count_7 rfl ?_
      refine J_last lk_112 (z1 := 0) rfl (by decide) (by decide) (by decide) dL_count_8 ?_
      refine A_goto dL_count_9 (tgt := 15) (by decide) ?_
      refine A_iconst dL_count_15 ?_
      exact A_iret dL_count_16 rfl rfl
    · cases hO.symm.trans hr
  · rcases h with ⟨x, hO, rfl, rfl⟩ | ⟨i, E2, hi, hO, rfl, rfl⟩
    · cases hO.symm.trans hE
    · obtain rfl : E2 = E := Sum.inr.inj (hO.symm.trans hE)
      rcases i with _ | i
      · obtain rfl : IOO = E2 := Option.some.inj hi
        refine ⟨12, ⟨[], ⟨0, 9, 12, 24⟩, [], htab, (fun z hz => nomatch hz), by decide, by decide, cl_24, ex_IOO, rfl⟩, fun q => ?_⟩
        refine A_astore_n dL_count_12 rfl (by decide) rfl ?_
        refine A_iconst dL_count_13 ?_
        exact A_iret dL_count_14 rfl rfl
      · cases hi
theorem ml_food : MSH RL 106 yL_food cL_food 5 (some .int) [(0, 10, 13, 24)] 4 := ⟨in_all (i := 1143) (by decide +kernel) rfl, in_all (i := 1144) (by decide +kernel) rfl, in_all (i := 109) (by decide +kernel) rfl, in_all (i := 1145) (by decide +kernel) rfl, ⟨by decide +kernel, by decide +kernel, by decide +kernel⟩, by decide⟩
set_option maxRecDepth 100000 in
set_option maxHeartbeats 4000000 in
theorem c_L_food (σ : Sg) (a : Int) (b : Int) (hlt : l.stackTraces = false) {kv : Int} {s2 : Sg} (h : wI [IOO] (fdO σ a b) σ kv s2) : CtH l G yL_food cL_food 5 (some .int) [(0, 10, 13, 24)] 7 1 6 [.ref (lay G 0), .int (I32 a), .int (I32 b), .ref (lay G 112)] σ (some (.int (I32 kv))) s2 := by
  refine CtH.of (by decide +kernel) (Nat.le_of_ble_eq_true rfl) (fun f htab => ?_)
  show AW _ _ _ _ _ _ _ _ _ _ [(0, _), (1, _), (2, _), (3, _)] _ _
  refine A_aload_n dL_food_0 rfl 3 rfl ?_
  refine A_iconst dL_food_1 ?_
  refine A_aload_n dL_food_2 rfl 0 rfl ?_
  refine A_iload_n dL_food_3 rfl 1 rfl ?_
  refine A_iload_n dL_food_4 rfl 2 rfl ?_
  refine A_T2 mv_L_26 lk_0 rfl rfl (c_X10_food σ a b hlt) (Nat.le_of_ble_eq_true rfl) (by decide) ⟨by decide, by decide⟩ dL_food_5 (fun r hr => ?_) (fun E hE => ?_)
  · rcases h with ⟨x, hO, rfl, rfl⟩ | ⟨i, E, hi, hO, rfl, rfl⟩
    · cases hO.symm.trans hr
      show AW _ _ _ _ _ _ _ _ _ _ _ (.int (I32 x) :: .int (I32 0) :: .ref (lay G 112) :: []) _
      refine J_i2l dL_food_8 rfl ?_
      refine J_last lk_112 (z1 := 0) rfl (by decide) (by decide) (by decide) dL_food_9 ?_
      refine A_goto dL_food_10 (tgt := 17) (by decide) ?_
      refine A_iconst dL_food_17 ?_
      exact A_iret dL_food_18 rfl rfl
    · cases hO.symm.trans hr
  · rcases h with ⟨x, hO, rfl, rfl⟩ | ⟨i, E2, hi, hO, rfl, rfl⟩
    · cases hO.symm.trans hE
    · obtain rfl : E2 = E := Sum.inr.inj (hO.symm.trans hE)
      rcases i with _ | i
      · obtain rfl : IOO = E2 := Option.some.inj hi
        refine ⟨13, ⟨[], ⟨0, 10, 13, 24⟩, [], htab, (fun z hz => nomatch hz), by decide, by decide, cl_24, ex_IOO, rfl⟩, fun q => ?_⟩
        refine A_astore dL_food_13 (by decide) rfl ?_
        refine A_iconst dL_food_15 ?_
        exact A_iret dL_food_16 rfl rfl
      · cases hi
theorem ml_dish : MSH RL 110 yL_dish cL_dish 5 (some .int) [(0, 10, 13, 24)] 4 := ⟨in_all (i := 1153) (by decide +kernel) rfl, in_all (i := 1154) (by decide +kernel) rfl, in_all (i := 109) (by decide +kernel) rfl, in_all (i := 1155) (by decide +kernel) rfl, ⟨by decide +kernel, by decide +kernel, by decide +kernel⟩, by decide⟩
set_option maxRecDepth 100000 in
set_option maxHeartbeats 4000000 in
theorem c_L_dish (σ : Sg) (a : Int) (b : Int) (hlt : l.stackTraces = false) {kv : Int} {s2 : Sg} (h : wI [IOO] (diO σ a b) σ kv s2) : CtH l G yL_dish cL_dish 5 (some .int) [(0, 10, 13, 24)] 7 1 6 [.ref (lay G 0), .int (I32 a), .int (I32 b), .ref (lay G 112)] σ (some (.int (I32 kv))) s2 := by
  refine CtH.of (by decide +kernel) (Nat.le_of_ble_eq_true rfl) (fun f htab => ?_)
  show AW _ _ _ _ _ _ _ _ _ _ [(0, _), (1, _), (2, _), (3, _)] _ _
  refine A_aload_n dL_dish_0 rfl 3 rfl ?_
  refine A_iconst dL_dish_1 ?_
  refine A_aload_n dL_dish_2 rfl 0 rfl ?_
  refine A_iload_n dL_dish_3 rfl 1 rfl ?_
  refine A_iload_n dL_dish_4 rfl 2 rfl ?_
  refine A_T2 mv_L_30 lk_0 rfl rfl (c_X10_dish σ a b hlt) (Nat.le_of_ble_eq_true rfl) (by decide) ⟨by decide, by decide⟩ dL_dish_5 (fun r hr => ?_) (fun E hE => ?_)
  · rcases h with ⟨x, hO, rfl, rfl⟩ | ⟨i, E, hi, hO, rfl, rfl⟩
    · cases hO.symm.trans hr
      show AW _ _ _ _ _ _ _ _ _ _ _ (.int (I32 x) :: .int (I32 0) :: .ref (lay G 112) :: []) _
      refine J_i2l dL_dish_8 rfl ?_
      refine J_last lk_112 (z1 := 0) rfl (by decide) (by decide) (by decide) dL_dish_9 ?_
      refine A_goto dL_dish_10 (tgt := 17) (by decide) ?_
      refine A_iconst dL_dish_17 ?_
      exact A_iret dL_dish_18 rfl rfl
    · cases hO.symm.trans hr
  · rcases h with ⟨x, hO, rfl, rfl⟩ | ⟨i, E2, hi, hO, rfl, rfl⟩
    · cases hO.symm.trans hE
    · obtain rfl : E2 = E := Sum.inr.inj (hO.symm.trans hE)
      rcases i with _ | i
      · obtain rfl : IOO = E2 := Option.some.inj hi
        refine ⟨13, ⟨[], ⟨0, 10, 13, 24⟩, [], htab, (fun z hz => nomatch hz), by decide, by decide, cl_24, ex_IOO, rfl⟩, fun q => ?_⟩
        refine A_astore dL_dish_13 (by decide) rfl ?_
        refine A_iconst dL_dish_15 ?_
        exact A_iret dL_dish_16 rfl rfl
      · cases hi
theorem ml_grams : MSH RL 113 yL_grams cL_grams 5 (some .int) [(0, 10, 13, 24)] 4 := ⟨in_all (i := 1162) (by decide +kernel) rfl, in_all (i := 1163) (by decide +kernel) rfl, in_all (i := 109) (by decide +kernel) rfl, in_all (i := 1164) (by decide +kernel) rfl, ⟨by decide +kernel, by decide +kernel, by decide +kernel⟩, by decide⟩
set_option maxRecDepth 100000 in
set_option maxHeartbeats 4000000 in
theorem c_L_grams (σ : Sg) (a : Int) (b : Int) (hlt : l.stackTraces = false) {kv : Int} {s2 : Sg} (h : wI [IOO] (gmO σ a b) σ kv s2) : CtH l G yL_grams cL_grams 5 (some .int) [(0, 10, 13, 24)] 7 1 6 [.ref (lay G 0), .int (I32 a), .int (I32 b), .ref (lay G 112)] σ (some (.int (I32 kv))) s2 := by
  refine CtH.of (by decide +kernel) (Nat.le_of_ble_eq_true rfl) (fun f htab => ?_)
  show AW _ _ _ _ _ _ _ _ _ _ [(0, _), (1, _), (2, _), (3, _)] _ _
  refine A_aload_n dL_grams_0 rfl 3 rfl ?_
  refine A_iconst dL_grams_1 ?_
  refine A_aload_n dL_grams_2 rfl 0 rfl ?_
  refine A_iload_n dL_grams_3 rfl 1 rfl ?_
  refine A_iload_n dL_grams_4 rfl 2 rfl ?_
  refine A_T2 mv_L_33 lk_0 rfl rfl (c_X10_grams σ a b hlt) (Nat.le_of_ble_eq_true rfl) (by decide) ⟨by decide, by decide⟩ dL_grams_5 (fun r hr => ?_) (fun E hE => ?_)
  · rcases h with ⟨x, hO, rfl, rfl⟩ | ⟨i, E, hi, hO, rfl, rfl⟩
    · cases hO.symm.trans hr
      show AW _ _ _ _ _ _ _ _ _ _ _ (.int (I32 x) :: .int (I32 0) :: .ref (lay G 112) :: []) _
      refine J_i2l dL_grams_8 rfl ?_
      refine J_last lk_112 (z1 := 0) rfl (by decide) (by decide) (by decide) dL_grams_9 ?_
      refine A_goto dL_grams_10 (tgt := 17) (by decide) ?_
      refine A_iconst dL_grams_17 ?_
      exact A_iret dL_grams_18 rfl rfl
    · cases hO.symm.trans hr
  · rcases h with ⟨x, hO, rfl, rfl⟩ | ⟨i, E2, hi, hO, rfl, rfl⟩
    · cases hO.symm.trans hE
    · obtain rfl : E2 = E := Sum.inr.inj (hO.symm.trans hE)
      rcases i with _ | i
      · obtain rfl : IOO = E2 := Option.some.inj hi
        refine ⟨13, ⟨[], ⟨0, 10, 13, 24⟩, [], htab, (fun z hz => nomatch hz), by decide, by decide, cl_24, ex_IOO, rfl⟩, fun q => ?_⟩
        refine A_astore dL_grams_13 (by decide) rfl ?_
        refine A_iconst dL_grams_15 ?_
        exact A_iret dL_grams_16 rfl rfl
      · cases hi
theorem ml_choice : MSH RL 116 yL_choice cL_choice 5 (some .int) [(0, 10, 13, 24)] 4 := ⟨in_all (i := 1174) (by decide +kernel) rfl, in_all (i := 1175) (by decide +kernel) rfl, in_all (i := 109) (by decide +kernel) rfl, in_all (i := 1176) (by decide +kernel) rfl, ⟨by decide +kernel, by decide +kernel, by decide +kernel⟩, by decide⟩
set_option maxRecDepth 100000 in
set_option maxHeartbeats 4000000 in
theorem c_L_choice (σ : Sg) (a : Int) (b : Bool) (hlt : l.stackTraces = false) {kv : Int} {s2 : Sg} (h : wI [IOO] (chO σ a b) σ kv s2) : CtH l G yL_choice cL_choice 5 (some .int) [(0, 10, 13, 24)] 7 1 6 [.ref (lay G 0), .int (I32 a), .int (I32 (b2i b)), .ref (lay G 112)] σ (some (.int (I32 kv))) s2 := by
  refine CtH.of (by decide +kernel) (Nat.le_of_ble_eq_true rfl) (fun f htab => ?_)
  show AW _ _ _ _ _ _ _ _ _ _ [(0, _), (1, _), (2, _), (3, _)] _ _
  refine A_aload_n dL_choice_0 rfl 3 rfl ?_
  refine A_iconst dL_choice_1 ?_
  refine A_aload_n dL_choice_2 rfl 0 rfl ?_
  refine A_iload_n dL_choice_3 rfl 1 rfl ?_
  refine A_iload_n dL_choice_4 rfl 2 rfl ?_
  refine A_T2 mv_L_36 lk_0 rfl rfl (c_X10_choice σ a b hlt) (Nat.le_of_ble_eq_true rfl) (by decide) ⟨by decide, by decide⟩ dL_choice_5 (fun r hr => ?_) (fun E hE => ?_)
  · rcases h with ⟨x, hO, rfl, rfl⟩ | ⟨i, E, hi, hO, rfl, rfl⟩
    · cases hO.symm.trans hr
      show AW _ _ _ _ _ _ _ _ _ _ _ (.int (I32 x) :: .int (I32 0) :: .ref (lay G 112) :: []) _
      refine J_i2l dL_choice_8 rfl ?_
      refine J_last lk_112 (z1 := 0) rfl (by decide) (by decide) (by decide) dL_choice_9 ?_
      refine A_goto dL_choice_10 (tgt := 17) (by decide) ?_
      refine A_iconst dL_choice_17 ?_
      exact A_iret dL_choice_18 rfl rfl
    · cases hO.symm.trans hr
  · rcases h with ⟨x, hO, rfl, rfl⟩ | ⟨i, E2, hi, hO, rfl, rfl⟩
    · cases hO.symm.trans hE
    · obtain rfl : E2 = E := Sum.inr.inj (hO.symm.trans hE)
      rcases i with _ | i
      · obtain rfl : IOO = E2 := Option.some.inj hi
        refine ⟨13, ⟨[], ⟨0, 10, 13, 24⟩, [], htab, (fun z hz => nomatch hz), by decide, by decide, cl_24, ex_IOO, rfl⟩, fun q => ?_⟩
        refine A_astore dL_choice_13 (by decide) rfl ?_
        refine A_iconst dL_choice_15 ?_
        exact A_iret dL_choice_16 rfl rfl
      · cases hi
theorem ml_rule : MSH RL 120 yL_rule cL_rule 5 (some .int) [(0, 10, 13, 24)] 4 := ⟨in_all (i := 1183) (by decide +kernel) rfl, in_all (i := 1184) (by decide +kernel) rfl, in_all (i := 109) (by decide +kernel) rfl, in_all (i := 1185) (by decide +kernel) rfl, ⟨by decide +kernel, by decide +kernel, by decide +kernel⟩, by decide⟩
set_option maxRecDepth 100000 in
set_option maxHeartbeats 4000000 in
theorem c_L_rule (σ : Sg) (a : Int) (b : Int) (hlt : l.stackTraces = false) {kv : Int} {s2 : Sg} (h : wI [IOO] (ruO σ a b) σ kv s2) : CtH l G yL_rule cL_rule 5 (some .int) [(0, 10, 13, 24)] 7 1 6 [.ref (lay G 0), .int (I32 a), .int (I32 b), .ref (lay G 112)] σ (some (.int (I32 kv))) s2 := by
  refine CtH.of (by decide +kernel) (Nat.le_of_ble_eq_true rfl) (fun f htab => ?_)
  show AW _ _ _ _ _ _ _ _ _ _ [(0, _), (1, _), (2, _), (3, _)] _ _
  refine A_aload_n dL_rule_0 rfl 3 rfl ?_
  refine A_iconst dL_rule_1 ?_
  refine A_aload_n dL_rule_2 rfl 0 rfl ?_
  refine A_iload_n dL_rule_3 rfl 1 rfl ?_
  refine A_iload_n dL_rule_4 rfl 2 rfl ?_
  refine A_T2 mv_L_40 lk_0 rfl rfl (c_X10_rule σ a b hlt) (Nat.le_of_ble_eq_true rfl) (by decide) ⟨by decide, by decide⟩ dL_rule_5 (fun r hr => ?_) (fun E hE => ?_)
  · rcases h with ⟨x, hO, rfl, rfl⟩ | ⟨i, E, hi, hO, rfl, rfl⟩
    · cases hO.symm.trans hr
      show AW _ _ _ _ _ _ _ _ _ _ _ (.int (I32 x) :: .int (I32 0) :: .ref (lay G 112) :: []) _
      refine J_i2l dL_rule_8 rfl ?_
      refine J_last lk_112 (z1 := 0) rfl (by decide) (by decide) (by decide) dL_rule_9 ?_
      refine A_goto dL_rule_10 (tgt := 17) (by decide) ?_
      refine A_iconst dL_rule_17 ?_
      exact A_iret dL_rule_18 rfl rfl
    · cases hO.symm.trans hr
  · rcases h with ⟨x, hO, rfl, rfl⟩ | ⟨i, E2, hi, hO, rfl, rfl⟩
    · cases hO.symm.trans hE
    · obtain rfl : E2 = E := Sum.inr.inj (hO.symm.trans hE)
      rcases i with _ | i
      · obtain rfl : IOO = E2 := Option.some.inj hi
        refine ⟨13, ⟨[], ⟨0, 10, 13, 24⟩, [], htab, (fun z hz => nomatch hz), by decide, by decide, cl_24, ex_IOO, rfl⟩, fun q => ?_⟩
        refine A_astore dL_rule_13 (by decide) rfl ?_
        refine A_iconst dL_rule_15 ?_
        exact A_iret dL_rule_16 rfl rfl
      · cases hi
theorem ml_plan : MSH RL 123 yL_plan cL_plan 4 (some .int) [(0, 9, 12, 19), (0, 9, 15, 13)] 3 := ⟨in_all (i := 1193) (by decide +kernel) rfl, in_all (i := 1194) (by decide +kernel) rfl, in_all (i := 109) (by decide +kernel) rfl, in_all (i := 1195) (by decide +kernel) rfl, ⟨by decide +kernel, by decide +kernel, by decide +kernel⟩, by decide⟩
set_option maxRecDepth 100000 in
set_option maxHeartbeats 4000000 in
theorem c_L_plan (σ : Sg) (a : Int) (hlt : l.stackTraces = false) {kv : Int} {s2 : Sg} (h : wI [IAE, ISE] (plO σ a) (plS σ a) kv s2) : CtH l G yL_plan cL_plan 4 (some .int) [(0, 9, 12, 19), (0, 9, 15, 13)] 7 1 6 [.ref (lay G 0), .int (I32 a), .ref (lay G 112)] σ (some (.int (I32 kv))) s2 := by
  refine CtH.of (by decide +kernel) (Nat.le_of_ble_eq_true rfl) (fun f htab => ?_)
  show AW _ _ _ _ _ _ _ _ _ _ [(0, _), (1, _), (2, _)] _ _
  refine A_aload_n dL_plan_0 rfl 2 rfl ?_
  refine A_iconst dL_plan_1 ?_
  refine A_aload_n dL_plan_2 rfl 0 rfl ?_
  refine A_iload_n dL_plan_3 rfl 1 rfl ?_
  refine A_T1 mv_L_43 lk_0 rfl rfl (c_X10_plan σ a hlt) (Nat.le_of_ble_eq_true rfl) (by decide) ⟨by decide, by decide⟩ dL_plan_4 (fun r hr => ?_) (fun E hE => ?_)
  · rcases h with ⟨x, hO, rfl, rfl⟩ | ⟨i, E, hi, hO, rfl, rfl⟩
    · cases hO.symm.trans hr
      show AW _ _ _ _ _ _ _ _ _ _ _ (.int (I32 x) :: .int (I32 0) :: .ref (lay G 112) :: []) _
      refine J_i2l dL_plan_7 rfl ?_
      refine J_last lk_112 (z1 := 0) rfl (by decide) (by decide) (by decide) dL_plan_8 ?_
      refine A_goto dL_plan_9 (tgt := 18) (by decide) ?_
      refine A_iconst dL_plan_18 ?_
      exact A_iret dL_plan_19 rfl rfl
    · cases hO.symm.trans hr
  · rcases h with ⟨x, hO, rfl, rfl⟩ | ⟨i, E2, hi, hO, rfl, rfl⟩
    · cases hO.symm.trans hE
    · obtain rfl : E2 = E := Sum.inr.inj (hO.symm.trans hE)
      rcases i with _ | _ | i
      · obtain rfl : IAE = E2 := Option.some.inj hi
        refine ⟨12, ⟨[], ⟨0, 9, 12, 19⟩, [⟨0, 9, 15, 13⟩], htab, (fun z hz => nomatch hz), by decide, by decide, cl_19, ex_IAE, rfl⟩, fun q => ?_⟩
        refine A_astore_n dL_plan_12 rfl (by decide) rfl ?_
        refine A_iconst dL_plan_13 ?_
        exact A_iret dL_plan_14 rfl rfl
      · obtain rfl : ISE = E2 := Option.some.inj hi
        refine ⟨15, ⟨[⟨0, 9, 12, 19⟩], ⟨0, 9, 15, 13⟩, [], htab, (fun z hz => Or.inr (by obtain rfl := List.mem_singleton.mp hz; exact ⟨by decide, IAE, cl_19, nc_1⟩)), by decide, by decide, cl_13, ex_ISE, rfl⟩, fun q => ?_⟩
        refine A_astore_n dL_plan_15 rfl (by decide) rfl ?_
        refine A_iconst dL_plan_16 ?_
        exact A_iret dL_plan_17 rfl rfl
      · cases hi
theorem ml_at : MSH RL 126 yL_at cL_at 5 (some .int) [(0, 10, 13, 24)] 4 := ⟨in_all (i := 1215) (by decide +kernel) rfl, in_all (i := 1216) (by decide +kernel) rfl, in_all (i := 109) (by decide +kernel) rfl, in_all (i := 1217) (by decide +kernel) rfl, ⟨by decide +kernel, by decide +kernel, by decide +kernel⟩, by decide⟩
set_option maxRecDepth 100000 in
set_option maxHeartbeats 4000000 in
theorem c_L_at (σ : Sg) (a : Int) (b : Int) (hlt : l.stackTraces = false) {kv : Int} {s2 : Sg} (h : wI [IOO] (atO σ a b) σ kv s2) : CtH l G yL_at cL_at 5 (some .int) [(0, 10, 13, 24)] 7 1 6 [.ref (lay G 0), .int (I32 a), .int (I32 b), .ref (lay G 112)] σ (some (.int (I32 kv))) s2 := by
  refine CtH.of (by decide +kernel) (Nat.le_of_ble_eq_true rfl) (fun f htab => ?_)
  show AW _ _ _ _ _ _ _ _ _ _ [(0, _), (1, _), (2, _), (3, _)] _ _
  refine A_aload_n dL_at_0 rfl 3 rfl ?_
  refine A_iconst dL_at_1 ?_
  refine A_aload_n dL_at_2 rfl 0 rfl ?_
  refine A_iload_n dL_at_3 rfl 1 rfl ?_
  refine A_iload_n dL_at_4 rfl 2 rfl ?_
  refine A_T2 mv_L_46 lk_0 rfl rfl (c_X10_at σ a b hlt) (Nat.le_of_ble_eq_true rfl) (by decide) ⟨by decide, by decide⟩ dL_at_5 (fun r hr => ?_) (fun E hE => ?_)
  · rcases h with ⟨x, hO, rfl, rfl⟩ | ⟨i, E, hi, hO, rfl, rfl⟩
    · cases hO.symm.trans hr
      show AW _ _ _ _ _ _ _ _ _ _ _ (.int (I32 x) :: .int (I32 0) :: .ref (lay G 112) :: []) _
      refine J_i2l dL_at_8 rfl ?_
      refine J_last lk_112 (z1 := 0) rfl (by decide) (by decide) (by decide) dL_at_9 ?_
      refine A_goto dL_at_10 (tgt := 17) (by decide) ?_
      refine A_iconst dL_at_17 ?_
      exact A_iret dL_at_18 rfl rfl
    · cases hO.symm.trans hr
  · rcases h with ⟨x, hO, rfl, rfl⟩ | ⟨i, E2, hi, hO, rfl, rfl⟩
    · cases hO.symm.trans hE
    · obtain rfl : E2 = E := Sum.inr.inj (hO.symm.trans hE)
      rcases i with _ | i
      · obtain rfl : IOO = E2 := Option.some.inj hi
        refine ⟨13, ⟨[], ⟨0, 10, 13, 24⟩, [], htab, (fun z hz => nomatch hz), by decide, by decide, cl_24, ex_IOO, rfl⟩, fun q => ?_⟩
        refine A_astore dL_at_13 (by decide) rfl ?_
        refine A_iconst dL_at_15 ?_
        exact A_iret dL_at_16 rfl rfl
      · cases hi
theorem ml_set : MSH RL 129 yL_set cL_set 6 (some .int) [(0, 12, 15, 24), (0, 12, 19, 13)] 5 := ⟨in_all (i := 1225) (by decide +kernel) rfl, in_all (i := 1226) (by decide +kernel) rfl, in_all (i := 109) (by decide +kernel) rfl, in_all (i := 1227) (by decide +kernel) rfl, ⟨by decide +kernel, by decide +kernel, by decide +kernel⟩, by decide⟩
set_option maxRecDepth 100000 in
set_option maxHeartbeats 4000000 in
theorem c_L_set (σ : Sg) (a : Int) (b : Int) (c : Int) (hlt : l.stackTraces = false) {kv : Int} {s2 : Sg} (h : wI [IOO, ISE] (seO σ a b c) (seS σ a b c) kv s2) : CtH l G yL_set cL_set 6 (some .int) [(0, 12, 15, 24), (0, 12, 19, 13)] 7 1 6 [.ref (lay G 0), .int (I32 a), .int (I32 b), .int (I32 c), .ref (lay G 112)] σ (some (.int (I32 kv))) s2 := by
  refine CtH.of (by decide +kernel) (Nat.le_of_ble_eq_true rfl) (fun f htab => ?_)
  show AW _ _ _ _ _ _ _ _ _ _ [(0, _), (1, _), (2, _), (3, _), (4, _)] _ _
  refine A_aload dL_set_0 4 rfl ?_
  refine A_iconst dL_set_2 ?_
  refine A_aload_n dL_set_3 rfl 0 rfl ?_
  refine A_iload_n dL_set_4 rfl 1 rfl ?_
  refine A_iload_n dL_set_5 rfl 2 rfl ?_
  refine A_iload_n dL_set_6 rfl 3 rfl ?_
  refine A_T3 mv_L_49 lk_0 rfl rfl (c_X10_set σ a b c hlt) (Nat.le_of_ble_eq_true rfl) (by decide) ⟨by decide, by decide⟩ dL_set_7 (fun r hr => ?_) (fun E hE => ?_)
  · rcases h with ⟨x, hO, rfl, rfl⟩ | ⟨i, E, hi, hO, rfl, rfl⟩
    · cases hO.symm.trans hr
      show AW _ _ _ _ _ _ _ _ _ _ _ (.int (I32 x) :: .int (I32 0) :: .ref (lay G 112) :: []) _
      refine J_i2l dL_set_10 rfl ?_
      refine J_last lk_112 (z1 := 0) rfl (by decide) (by decide) (by decide) dL_set_11 ?_
      refine A_goto dL_set_12 (tgt := 23) (by decide) ?_
      refine A_iconst dL_set_23 ?_
      exact A_iret dL_set_24 rfl rfl
    · cases hO.symm.trans hr
  · rcases h with ⟨x, hO, rfl, rfl⟩ | ⟨i, E2, hi, hO, rfl, rfl⟩
    · cases hO.symm.trans hE
    · obtain rfl : E2 = E := Sum.inr.inj (hO.symm.trans hE)
      rcases i with _ | _ | i
      · obtain rfl : IOO = E2 := Option.some.inj hi
        refine ⟨15, ⟨[], ⟨0, 12, 15, 24⟩, [⟨0, 12, 19, 13⟩], htab, (fun z hz => nomatch hz), by decide, by decide, cl_24, ex_IOO, rfl⟩, fun q => ?_⟩
        refine A_astore dL_set_15 (by decide) rfl ?_
        refine A_iconst dL_set_17 ?_
        exact A_iret dL_set_18 rfl rfl
      · obtain rfl : ISE = E2 := Option.some.inj hi
        refine ⟨19, ⟨[⟨0, 12, 15, 24⟩], ⟨0, 12, 19, 13⟩, [], htab, (fun z hz => Or.inr (by obtain rfl := List.mem_singleton.mp hz; exact ⟨by decide, IOO, cl_24, nc_2⟩)), by decide, by decide, cl_13, ex_ISE, rfl⟩, fun q => ?_⟩
        refine A_astore dL_set_19 (by decide) rfl ?_
        refine A_iconst dL_set_21 ?_
        exact A_iret dL_set_22 rfl rfl
      · cases hi
theorem ml_faultsOf : MSH RL 137 yL_faultsOf cL_faultsOf 4 (some .int) [(0, 9, 12, 24)] 3 := ⟨in_all (i := 1236) (by decide +kernel) rfl, in_all (i := 1237) (by decide +kernel) rfl, in_all (i := 109) (by decide +kernel) rfl, in_all (i := 1238) (by decide +kernel) rfl, ⟨by decide +kernel, by decide +kernel, by decide +kernel⟩, by decide⟩
set_option maxRecDepth 100000 in
set_option maxHeartbeats 4000000 in
theorem c_L_faultsOf (σ : Sg) (a : Int) (hlt : l.stackTraces = false) {kv : Int} {s2 : Sg} (h : wI [IOO] (foO σ a) σ kv s2) : CtH l G yL_faultsOf cL_faultsOf 4 (some .int) [(0, 9, 12, 24)] 7 1 6 [.ref (lay G 0), .int (I32 a), .ref (lay G 112)] σ (some (.int (I32 kv))) s2 := by
  refine CtH.of (by decide +kernel) (Nat.le_of_ble_eq_true rfl) (fun f htab => ?_)
  show AW _ _ _ _ _ _ _ _ _ _ [(0, _), (1, _), (2, _)] _ _
  refine A_aload_n dL_faultsOf_0 rfl 2 rfl ?_
  refine A_iconst dL_faultsOf_1 ?_
  refine A_aload_n dL_faultsOf_2 rfl 0 rfl ?_
  refine A_iload_n dL_faultsOf_3 rfl 1 rfl ?_
  refine A_T1 mv_L_53 lk_0 rfl rfl (c_X10_faultsOf σ a hlt) (Nat.le_of_ble_eq_true rfl) (by decide) ⟨by decide, by decide⟩ dL_faultsOf_4 (fun r hr => ?_) (fun E hE => ?_)
  · rcases h with ⟨x, hO, rfl, rfl⟩ | ⟨i, E, hi, hO, rfl, rfl⟩
    · cases hO.symm.trans hr
      show AW _ _ _ _ _ _ _ _ _ _ _ (.int (I32 x) :: .int (I32 0) :: .ref (lay G 112) :: []) _
      refine J_i2l dL_faultsOf_7 rfl ?_
      refine J_last lk_112 (z1 := 0) rfl (by decide) (by decide) (by decide) dL_faultsOf_8 ?_
      refine A_goto dL_faultsOf_9 (tgt := 15) (by decide) ?_
      refine A_iconst dL_faultsOf_15 ?_
      exact A_iret dL_faultsOf_16 rfl rfl
    · cases hO.symm.trans hr
  · rcases h with ⟨x, hO, rfl, rfl⟩ | ⟨i, E2, hi, hO, rfl, rfl⟩
    · cases hO.symm.trans hE
    · obtain rfl : E2 = E := Sum.inr.inj (hO.symm.trans hE)
      rcases i with _ | i
      · obtain rfl : IOO = E2 := Option.some.inj hi
        refine ⟨12, ⟨[], ⟨0, 9, 12, 24⟩, [], htab, (fun z hz => nomatch hz), by decide, by decide, cl_24, ex_IOO, rfl⟩, fun q => ?_⟩
        refine A_astore_n dL_faultsOf_12 rfl (by decide) rfl ?_
        refine A_iconst dL_faultsOf_13 ?_
        exact A_iret dL_faultsOf_14 rfl rfl
      · cases hi
theorem ml_exchange : MSH RL 144 yL_exchange cL_exchange 5 (some .int) [(0, 10, 13, 24), (0, 10, 17, 19)] 4 := ⟨in_all (i := 1244) (by decide +kernel) rfl, in_all (i := 1245) (by decide +kernel) rfl, in_all (i := 109) (by decide +kernel) rfl, in_all (i := 1246) (by decide +kernel) rfl, ⟨by decide +kernel, by decide +kernel, by decide +kernel⟩, by decide⟩
set_option maxRecDepth 100000 in
set_option maxHeartbeats 4000000 in
theorem c_L_exchange (σ : Sg) (a : Int) (b : Int) (hlt : l.stackTraces = false) {kv : Int} {s2 : Sg} (h : wI [IOO, IAE] (xcO σ a b) (xcS σ a b) kv s2) : CtH l G yL_exchange cL_exchange 5 (some .int) [(0, 10, 13, 24), (0, 10, 17, 19)] 7 1 6 [.ref (lay G 0), .int (I32 a), .int (I32 b), .ref (lay G 112)] σ (some (.int (I32 kv))) s2 := by
  refine CtH.of (by decide +kernel) (Nat.le_of_ble_eq_true rfl) (fun f htab => ?_)
  show AW _ _ _ _ _ _ _ _ _ _ [(0, _), (1, _), (2, _), (3, _)] _ _
  refine A_aload_n dL_exchange_0 rfl 3 rfl ?_
  refine A_iconst dL_exchange_1 ?_
  refine A_aload_n dL_exchange_2 rfl 0 rfl ?_
  refine A_iload_n dL_exchange_3 rfl 1 rfl ?_
  refine A_iload_n dL_exchange_4 rfl 2 rfl ?_
  refine A_T2 mv_L_56 lk_0 rfl rfl (c_X10_exchange σ a b hlt) (Nat.le_of_ble_eq_true rfl) (by decide) ⟨by decide, by decide⟩ dL_exchange_5 (fun r hr => ?_) (fun E hE => ?_)
  · rcases h with ⟨x, hO, rfl, rfl⟩ | ⟨i, E, hi, hO, rfl, rfl⟩
    · cases hO.symm.trans hr
      show AW _ _ _ _ _ _ _ _ _ _ _ (.int (I32 x) :: .int (I32 0) :: .ref (lay G 112) :: []) _
      refine J_i2l dL_exchange_8 rfl ?_
      refine J_last lk_112 (z1 := 0) rfl (by decide) (by decide) (by decide) dL_exchange_9 ?_
      refine A_goto dL_exchange_10 (tgt := 21) (by decide) ?_
      refine A_iconst dL_exchange_21 ?_
      exact A_iret dL_exchange_22 rfl rfl
    · cases hO.symm.trans hr
  · rcases h with ⟨x, hO, rfl, rfl⟩ | ⟨i, E2, hi, hO, rfl, rfl⟩
    · cases hO.symm.trans hE
    · obtain rfl : E2 = E := Sum.inr.inj (hO.symm.trans hE)
      rcases i with _ | _ | i
      · obtain rfl : IOO = E2 := Option.some.inj hi
        refine ⟨13, ⟨[], ⟨0, 10, 13, 24⟩, [⟨0, 10, 17, 19⟩], htab, (fun z hz => nomatch hz), by decide, by decide, cl_24, ex_IOO, rfl⟩, fun q => ?_⟩
        refine A_astore dL_exchange_13 (by decide) rfl ?_
        refine A_iconst dL_exchange_15 ?_
        exact A_iret dL_exchange_16 rfl rfl
      · obtain rfl : IAE = E2 := Option.some.inj hi
        refine ⟨17, ⟨[⟨0, 10, 13, 24⟩], ⟨0, 10, 17, 19⟩, [], htab, (fun z hz => Or.inr (by obtain rfl := List.mem_singleton.mp hz; exact ⟨by decide, IOO, cl_24, nc_3⟩)), by decide, by decide, cl_19, ex_IAE, rfl⟩, fun q => ?_⟩
        refine A_astore dL_exchange_17 (by decide) rfl ?_
        refine A_iconst dL_exchange_19 ?_
        exact A_iret dL_exchange_20 rfl rfl
      · cases hi
theorem ml_day : MSH RL 147 yL_day cL_day 5 (some .int) [(0, 10, 13, 24)] 4 := ⟨in_all (i := 1254) (by decide +kernel) rfl, in_all (i := 1255) (by decide +kernel) rfl, in_all (i := 109) (by decide +kernel) rfl, in_all (i := 1256) (by decide +kernel) rfl, ⟨by decide +kernel, by decide +kernel, by decide +kernel⟩, by decide⟩
set_option maxRecDepth 100000 in
set_option maxHeartbeats 4000000 in
theorem c_L_day (σ : Sg) (a : Int) (b : Bool) (hlt : l.stackTraces = false) {kv : Int} {s2 : Sg} (h : wI [IOO] (dyO σ a b) σ kv s2) : CtH l G yL_day cL_day 5 (some .int) [(0, 10, 13, 24)] 7 1 6 [.ref (lay G 0), .int (I32 a), .int (I32 (b2i b)), .ref (lay G 112)] σ (some (.int (I32 kv))) s2 := by
  refine CtH.of (by decide +kernel) (Nat.le_of_ble_eq_true rfl) (fun f htab => ?_)
  show AW _ _ _ _ _ _ _ _ _ _ [(0, _), (1, _), (2, _), (3, _)] _ _
  refine A_aload_n dL_day_0 rfl 3 rfl ?_
  refine A_iconst dL_day_1 ?_
  refine A_aload_n dL_day_2 rfl 0 rfl ?_
  refine A_iload_n dL_day_3 rfl 1 rfl ?_
  refine A_iload_n dL_day_4 rfl 2 rfl ?_
  refine A_T2 mv_L_59 lk_0 rfl rfl (c_X10_day σ a b hlt) (Nat.le_of_ble_eq_true rfl) (by decide) ⟨by decide, by decide⟩ dL_day_5 (fun r hr => ?_) (fun E hE => ?_)
  · rcases h with ⟨x, hO, rfl, rfl⟩ | ⟨i, E, hi, hO, rfl, rfl⟩
    · cases hO.symm.trans hr
      show AW _ _ _ _ _ _ _ _ _ _ _ (.int (I32 x) :: .int (I32 0) :: .ref (lay G 112) :: []) _
      refine J_i2l dL_day_8 rfl ?_
      refine J_last lk_112 (z1 := 0) rfl (by decide) (by decide) (by decide) dL_day_9 ?_
      refine A_goto dL_day_10 (tgt := 17) (by decide) ?_
      refine A_iconst dL_day_17 ?_
      exact A_iret dL_day_18 rfl rfl
    · cases hO.symm.trans hr
  · rcases h with ⟨x, hO, rfl, rfl⟩ | ⟨i, E2, hi, hO, rfl, rfl⟩
    · cases hO.symm.trans hE
    · obtain rfl : E2 = E := Sum.inr.inj (hO.symm.trans hE)
      rcases i with _ | i
      · obtain rfl : IOO = E2 := Option.some.inj hi
        refine ⟨13, ⟨[], ⟨0, 10, 13, 24⟩, [], htab, (fun z hz => nomatch hz), by decide, by decide, cl_24, ex_IOO, rfl⟩, fun q => ?_⟩
        refine A_astore dL_day_13 (by decide) rfl ?_
        refine A_iconst dL_day_15 ?_
        exact A_iret dL_day_16 rfl rfl
      · cases hi
theorem ml_times : MSH RL 150 yL_times cL_times 4 (some .int) [(0, 9, 12, 24)] 3 := ⟨in_all (i := 1261) (by decide +kernel) rfl, in_all (i := 1262) (by decide +kernel) rfl, in_all (i := 109) (by decide +kernel) rfl, in_all (i := 1263) (by decide +kernel) rfl, ⟨by decide +kernel, by decide +kernel, by decide +kernel⟩, by decide⟩
set_option maxRecDepth 100000 in
set_option maxHeartbeats 4000000 in
theorem c_L_times (σ : Sg) (a : Int) (hlt : l.stackTraces = false) {kv : Int} {s2 : Sg} (h : wI [IOO] (tmO σ a) σ kv s2) : CtH l G yL_times cL_times 4 (some .int) [(0, 9, 12, 24)] 7 1 6 [.ref (lay G 0), .int (I32 a), .ref (lay G 112)] σ (some (.int (I32 kv))) s2 := by
  refine CtH.of (by decide +kernel) (Nat.le_of_ble_eq_true rfl) (fun f htab => ?_)
  show AW _ _ _ _ _ _ _ _ _ _ [(0, _), (1, _), (2, _)] _ _
  refine A_aload_n dL_times_0 rfl 2 rfl ?_
  refine A_iconst dL_times_1 ?_
  refine A_aload_n dL_times_2 rfl 0 rfl ?_
  refine A_iload_n dL_times_3 rfl 1 rfl ?_
  refine A_T1 mv_L_62 lk_0 rfl rfl (c_X10_times σ a hlt) (Nat.le_of_ble_eq_true rfl) (by decide) ⟨by decide, by decide⟩ dL_times_4 (fun r hr => ?_) (fun E hE => ?_)
  · rcases h with ⟨x, hO, rfl, rfl⟩ | ⟨i, E, hi, hO, rfl, rfl⟩
    · cases hO.symm.trans hr
      show AW _ _ _ _ _ _ _ _ _ _ _ (.int (I32 x) :: .int (I32 0) :: .ref (lay G 112) :: []) _
      refine J_i2l dL_times_7 rfl ?_
      refine J_last lk_112 (z1 := 0) rfl (by decide) (by decide) (by decide) dL_times_8 ?_
      refine A_goto dL_times_9 (tgt := 15) (by decide) ?_
      refine A_iconst dL_times_15 ?_
      exact A_iret dL_times_16 rfl rfl
    · cases hO.symm.trans hr
  · rcases h with ⟨x, hO, rfl, rfl⟩ | ⟨i, E2, hi, hO, rfl, rfl⟩
    · cases hO.symm.trans hE
    · obtain rfl : E2 = E := Sum.inr.inj (hO.symm.trans hE)
      rcases i with _ | i
      · obtain rfl : IOO = E2 := Option.some.inj hi
        refine ⟨12, ⟨[], ⟨0, 9, 12, 24⟩, [], htab, (fun z hz => nomatch hz), by decide, by decide, cl_24, ex_IOO, rfl⟩, fun q => ?_⟩
        refine A_astore_n dL_times_12 rfl (by decide) rfl ?_
        refine A_iconst dL_times_13 ?_
        exact A_iret dL_times_14 rfl rfl
      · cases hi
theorem ml_buy : MSH RL 153 yL_buy cL_buy 5 (some .int) [(0, 9, 12, 24), (0, 9, 16, 19)] 4 := ⟨in_all (i := 1269) (by decide +kernel) rfl, in_all (i := 1270) (by decide +kernel) rfl, in_all (i := 109) (by decide +kernel) rfl, in_all (i := 1271) (by decide +kernel) rfl, ⟨by decide +kernel, by decide +kernel, by decide +kernel⟩, by decide⟩
set_option maxRecDepth 100000 in
set_option maxHeartbeats 4000000 in
theorem c_L_buy (σ : Sg) (a : Int) (b : Int) (hz : i32 (σ 12 2) ≤ 16) (hlt : l.stackTraces = false) {kv : Int} {s2 : Sg} (h : wL [IOO, IAE] (byO σ a b) σ kv s2) : CtH l G yL_buy cL_buy 5 (some .int) [(0, 9, 12, 24), (0, 9, 16, 19)] 7 1 6 [.ref (lay G 0), .int (I32 a), .int (I32 b), .ref (lay G 112)] σ (some (.int (I32 kv))) s2 := by
  refine CtH.of (by decide +kernel) (Nat.le_of_ble_eq_true rfl) (fun f htab => ?_)
  show AW _ _ _ _ _ _ _ _ _ _ [(0, _), (1, _), (2, _), (3, _)] _ _
  refine A_aload_n dL_buy_0 rfl 3 rfl ?_
  refine A_iconst dL_buy_1 ?_
  refine A_aload_n dL_buy_2 rfl 0 rfl ?_
  refine A_iload_n dL_buy_3 rfl 1 rfl ?_
  refine A_iload_n dL_buy_4 rfl 2 rfl ?_
  refine A_T2 mv_L_65 lk_0 rfl rfl (c_X10_buy σ a b hz hlt) (Nat.le_of_ble_eq_true rfl) (by decide) ⟨by decide, by decide⟩ dL_buy_5 (fun r hr => ?_) (fun E hE => ?_)
  · rcases h with ⟨x, hO, rfl, rfl⟩ | ⟨i, E, hi, hO, rfl, rfl⟩
    · cases hO.symm.trans hr
      show AW _ _ _ _ _ _ _ _ _ _ _ (.long (I64 x) :: .int (I32 0) :: .ref (lay G 112) :: []) _
      refine J_last lk_112 (z1 := 0) rfl (by decide) (by decide) (by decide) dL_buy_8 ?_
      refine A_goto dL_buy_9 (tgt := 20) (by decide) ?_
      refine A_iconst dL_buy_20 ?_
      exact A_iret dL_buy_21 rfl rfl
    · cases hO.symm.trans hr
  · rcases h with ⟨x, hO, rfl, rfl⟩ | ⟨i, E2, hi, hO, rfl, rfl⟩
    · cases hO.symm.trans hE
    · obtain rfl : E2 = E := Sum.inr.inj (hO.symm.trans hE)
      rcases i with _ | _ | i
      · obtain rfl : IOO = E2 := Option.some.inj hi
        refine ⟨12, ⟨[], ⟨0, 9, 12, 24⟩, [⟨0, 9, 16, 19⟩], htab, (fun z hz => nomatch hz), by decide, by decide, cl_24, ex_IOO, rfl⟩, fun q => ?_⟩
        refine A_astore dL_buy_12 (by decide) rfl ?_
        refine A_iconst dL_buy_14 ?_
        exact A_iret dL_buy_15 rfl rfl
      · obtain rfl : IAE = E2 := Option.some.inj hi
        refine ⟨16, ⟨[⟨0, 9, 12, 24⟩], ⟨0, 9, 16, 19⟩, [], htab, (fun z hz => Or.inr (by obtain rfl := List.mem_singleton.mp hz; exact ⟨by decide, IOO, cl_24, nc_3⟩)), by decide, by decide, cl_19, ex_IAE, rfl⟩, fun q => ?_⟩
        refine A_astore dL_buy_16 (by decide) rfl ?_
        refine A_iconst dL_buy_18 ?_
        exact A_iret dL_buy_19 rfl rfl
      · cases hi
end S82
