/-! the law's menu: the rules -/
section S79j
variable {l : Launch} {G : Gx} {f : Fm} {Q : State → Prop} {bA L : Nat} {X : Nat → Int32}
set_option maxRecDepth 100000 in
set_option maxHeartbeats 4000000 in
theorem w_menu_C (hX : Scr f bA L X (G.2.2.2.1 25) (G.2.2.2.2.1 25)) (hL : L ≤ 2147483647) (h84 : (lkG G)[84]? = some (.inr (1, 6, 0))) (h85 : (lkG G)[85]? = some (.inr (1, 24, 0))) (hk : (lkG G)[86]? = some (.inr (1, 1400, 0))) {D : Nat} (hD : 2 ≤ D ∧ D ≤ 6) {many : Nat} (hm5 : many ≤ 5) (tg : Int) : ∀ (n k : Nat) (σ : Sg) (tx : List Int) (kk nn : Nat), k + n = many → Row σ tx → tx.length + 40 * n ≤ 600 → kk + 3 * n ≤ 205 → nn + 14 * n ≤ 2500 → (∀ i, i < k → σ 85 (4 * i) = blV (clV L X (4 + (i : Int))) 4) → (∀ (σ' : Sg) (tx' : List Int), Row σ' tx' → tx' = tx ++ byL (flat ((rlF L X D k n).map ruleL)) → tx'.length ≤ tx.length + 40 * n → (∀ q, q ≠ 85 ∧ q ≠ 86 → σ' q = σ q) → (∀ i, i < many → σ' 85 (4 * i) = blV (clV L X (4 + (i : Int))) 4) → AW l G f (RL, cL_menu, 16, some .int) (26, 210, 2600) Q [] (kk + 3 * n) (nn + 14 * n) 573 [(7, .int (I32 (many : Int))), (0, .ref (lay G 0)), (1, .ref bA), (2, .int (I32 (D : Int))), (3, .ref (lay G 84)), (4, .ref (lay G 85)), (5, .ref (lay G 86))] [] σ') → AW l G f (RL, cL_menu, 16, some .int) (26, 210, 2600) Q [] kk nn 213 [(8, .int (I32 (k : Int))), (7, .int (I32 (many : Int))), (6, .int (I32 tg)), (0, .ref (lay G 0)), (1, .ref bA), (2, .int (I32 (D : Int))), (3, .ref (lay G 84)), (4, .ref (lay G 85)), (5, .ref (lay G 86))] [] σ := by
  intro n
  induction n using Nat.strongRecOn with | _ n ih =>
  intro k σ tx kk nn hkn hr hb1 hb2 hb3 h0 K
  refine A_iload dL_menu_213 0 rfl ?_
  refine A_iload dL_menu_215 1 rfl ?_
  refine J_icmp_ge (tgt := 573) dL_menu_217 (by decide) (by first | exact i32_eq (by assumption) | exact i32_eq ⟨by omega, by omega⟩ | with_reducible exact i32_i32 _ | with_reducible exact i32_eq (b2i_inr _) | rfl) (by first | exact i32_eq (by assumption) | exact i32_eq ⟨by omega, by omega⟩ | with_reducible exact i32_i32 _ | with_reducible exact i32_eq (b2i_inr _) | rfl) (fun h217 => ?_) (fun h217 => ?_)
  · obtain rfl : n = 0 := by omega
    refine A_lv [1, 3, 4, 5, 6, 7, 8] rfl ?_
    exact K σ tx hr (List.append_nil _).symm (by omega) (fun _ _ => rfl) (fun i hi => h0 i (by omega))
  · refine A_aload_n dL_menu_220 rfl 4 rfl ?_
    refine A_iconst dL_menu_221 ?_
    refine A_iload dL_menu_222 0 rfl ?_
    refine A_iadd dL_menu_224 ?_
    refine A_cell hX hL ⟨by omega, by omega⟩ (Nat.le_of_ble_eq_true rfl) (by omega) (by omega) dL_menu_225 ?_
    generalize hxx : clV L X (4 + (k : Int)) = x
    refine A_istore (lv2 := [(9, _), (8, _), (7, _), (6, _), (0, _), (1, _), (2, _), (3, _), (4, _), (5, _)]) dL_menu_228 (by decide) rfl ?_
    refine A_iload dL_menu_230 0 rfl ?_
    refine A_iconst dL_menu_232 ?_
    refine A_below (by omega) (Nat.le_of_ble_eq_true rfl) (by omega) (by omega) dL_menu_233 ?_
    refine A_istore (lv2 := [(10, _), (9, _), (8, _), (7, _), (6, _), (0, _), (1, _), (2, _), (3, _), (4, _), (5, _)]) dL_menu_236 (by decide) rfl ?_
    have b0 := blV_bd x (n := 4) (by decide)
    have b1 := blV_bd (ishr x 2) (n := 4) (by decide)
    have b2 := blV_bd (ishr x 2) (n := 900) (by decide)
    have b3 := blV_bd (ishr x 12) (n := 900) (by decide)
    have b4 := blV_bd (ishr x 12) (n := 5) (by decide)
    have b5 := blV_bd (ishr x 17) (n := (D : Int)) (by omega)
    have b6 := blV_bd (ishr x 16) (n := 2) (by decide)
    rcases (show blV x 4 = 0 ∨ blV x 4 = 1 ∨ blV x 4 = 2 ∨ blV x 4 = 3 by omega) with hs | hs | hs | hs
    · rw [hs]
      refine A_iload dL_menu_238 0 rfl ?_
      refine A_if_ne (tgt := 256) dL_menu_240 (by decide) ⟨by decide, by decide⟩ (fun h => absurd h (by decide)) (fun _ => ?_)
      refine A_iconst dL_menu_243 ?_
      refine A_iload dL_menu_244 1 rfl ?_
      refine A_iconst dL_menu_246 ?_
      refine A_ishr dL_menu_247 ?_
      refine A_iconst dL_menu_248 ?_
      refine A_below (by omega) (Nat.le_of_ble_eq_true rfl) (by omega) (by omega) dL_menu_249 ?_
      refine A_iadd dL_menu_252 ?_
      refine A_goto (tgt := 302) dL_menu_253 (by decide) ?_
      refine A_istore (lv2 := [(11, _), (10, _), (9, _), (8, _), (7, _), (6, _), (0, _), (1, _), (2, _), (3, _), (4, _), (5, _)]) dL_menu_302 (by decide) rfl ?_
      have hfi : fiV x = 1 + blV (ishr x 2) 4 := by unfold fiV; rw [if_pos hs]
      rw [← hfi]
      have hfb : 0 ≤ fiV x ∧ fiV x < 1000 := by rw [hfi]; omega
      refine A_iload dL_menu_304 1 rfl ?_
      refine A_if_ne (tgt := 313) dL_menu_306 (by decide) ⟨by decide, by decide⟩ (fun h => absurd h (by decide)) (fun _ => ?_)
      refine A_iconst dL_menu_309 ?_
      refine A_goto (tgt := 347) dL_menu_310 (by decide) ?_
      refine A_istore (lv2 := [(12, _), (11, _), (10, _), (9, _), (8, _), (7, _), (6, _), (0, _), (1, _), (2, _), (3, _), (4, _), (5, _)]) dL_menu_347 (by decide) rfl ?_
      refine A_iload dL_menu_349 3 rfl ?_
      refine A_bipush dL_menu_351 (by decide +kernel) ?_
      refine A_ishr dL_menu_353 ?_
      refine A_iconst dL_menu_354 ?_
      refine A_below (by omega) (Nat.le_of_ble_eq_true rfl) (by omega) (by omega) dL_menu_355 ?_
      refine J_if_ne (tgt := 365) dL_menu_358 (by decide) (by first | exact i32_eq (by assumption) | exact i32_eq ⟨by omega, by omega⟩ | with_reducible exact i32_i32 _ | with_reducible exact i32_eq (b2i_inr _) | rfl) (fun h358 => ?_) (fun h358 => ?_)
      · try rw [i32_n _ (by omega)] at h358
        refine A_iconst dL_menu_365 ?_
        refine A_istore (lv2 := [(13, _), (12, _), (11, _), (10, _), (9, _), (8, _), (7, _), (6, _), (0, _), (1, _), (2, _), (3, _), (4, _), (5, _)]) dL_menu_366 (by decide) rfl ?_
        refine A_iload dL_menu_368 4 rfl ?_
        refine A_bipush dL_menu_370 (by decide +kernel) ?_
        refine A_ishr dL_menu_372 ?_
        refine A_iload_n dL_menu_373 rfl 10 rfl ?_
        refine A_below (by omega) (Nat.le_of_ble_eq_true rfl) (by omega) (by omega) dL_menu_374 ?_
        refine A_istore (lv2 := [(14, _), (13, _), (12, _), (11, _), (10, _), (9, _), (8, _), (7, _), (6, _), (0, _), (1, _), (2, _), (3, _), (4, _), (5, _)]) dL_menu_377 (by decide) rfl ?_
        obtain ⟨j, hj⟩ : ∃ j : Nat, blV (ishr x 17) (D : Int) = (j : Int) := ⟨(blV (ishr x 17) (D : Int)).toNat, by omega⟩
        rw [hj]
        have hj6 : j < 6 := by omega
        have hna : naV D x = some j := by
          unfold naV
          rw [if_neg h358, hj, Int.toNat_natCast]
        refine A_iconst dL_menu_379 ?_
        refine A_newS (N := 4) hX.2.2.2.2.2.2 cl_L_10 (by decide) (by decide) (by decide) (by omega) dL_menu_380 (fun aS cS hKS => ?_)
        refine A_dup dL_menu_383 rfl ?_
        refine A_iconst dL_menu_384 ?_
        refine A_ldcs (i := 32) (by decide +kernel) dL_menu_385 ?_
        refine A_astS (q := 0) rfl hKS (oi_c ⟨by decide, by decide⟩) (i32_n _ (by decide)) (by decide) (by decide) (by decide) dL_menu_387 ?_
        refine A_dup dL_menu_388 rfl ?_
        refine A_iconst dL_menu_389 ?_
        refine A_ldcs (i := 33) (by decide +kernel) dL_menu_390 ?_
        refine A_astS (q := 0) rfl hKS (oi_c ⟨by decide, by decide⟩) (i32_n _ (by decide)) (by decide) (by decide) (by decide) dL_menu_392 ?_
        refine A_dup dL_menu_393 rfl ?_
        refine A_iconst dL_menu_394 ?_
        refine A_ldcs (i := 34) (by decide +kernel) dL_menu_395 ?_
        refine A_astS (q := 0) rfl hKS (oi_c ⟨by decide, by decide⟩) (i32_n _ (by decide)) (by decide) (by decide) (by decide) dL_menu_397 ?_
        refine A_dup dL_menu_398 rfl ?_
        refine A_iconst dL_menu_399 ?_
        refine A_ldcs (i := 35) (by decide +kernel) dL_menu_400 ?_
        refine A_astS (q := 0) rfl hKS (oi_c ⟨by decide, by decide⟩) (i32_n _ (by decide)) (by decide) (by decide) (by decide) dL_menu_402 ?_
        refine A_astore (lv2 := [(15, _), (14, _), (13, _), (12, _), (11, _), (10, _), (9, _), (8, _), (7, _), (6, _), (0, _), (1, _), (2, _), (3, _), (4, _), (5, _)]) dL_menu_403 (by decide) rfl ?_
        refine A_aload dL_menu_405 15 rfl ?_
        refine A_aload dL_menu_407 0 rfl ?_
        refine A_iload dL_menu_409 5 rfl ?_
        refine A_aldS (q := 0) (x := G.2.2.2.1 32) rfl hKS (i32_n _ (by decide)) (by decide) (by decide) (by decide) rfl dL_menu_411 ?_
        refine A_dropx ?_
        refine A_putk (m := 11) (oi_c ⟨by decide, by decide⟩) hk hr (by decide +kernel) (by omega) (Nat.le_of_ble_eq_true rfl) (by omega) (by omega) dL_menu_412 (fun σ1 tx1 hr1 he1 hn1 hq1 => ?_)
        refine A_aload dL_menu_415 15 rfl ?_
        refine A_iload dL_menu_417 4 rfl ?_
        refine A_putn hk hr1 ⟨hfb.1, by omega⟩ (by omega) (Nat.le_of_ble_eq_true rfl) (by omega) (by omega) dL_menu_419 (fun σ2 tx2 hr2 he2 hn2 hq2 => ?_)
        refine A_iload dL_menu_422 5 rfl ?_
        refine A_iconst dL_menu_424 ?_
        refine J_icmp_ge (tgt := 466) dL_menu_425 (by decide) (i32_n _ (by decide)) (i32_n _ (by decide)) (fun h => absurd h (by decide)) (fun _ => ?_)
        refine A_aload dL_menu_428 15 rfl ?_
        refine A_iload dL_menu_430 2 rfl ?_
        refine A_if_eq (tgt := 440) dL_menu_432 (by decide) ⟨by decide, by decide⟩ (fun _ => ?_) (fun h => absurd h (by decide))
        refine A_ldcs (i := 37) (by decide +kernel) dL_menu_440 ?_
        refine A_putk (m := 2) (oi_c ⟨by decide, by decide⟩) hk hr2 (by decide +kernel) (by omega) (Nat.le_of_ble_eq_true rfl) (by omega) (by omega) dL_menu_442 (fun σ3 tx3 hr3 he3 hn3 hq3 => ?_)
        refine A_iload dL_menu_445 2 rfl ?_
        refine A_if_ne (tgt := 466) dL_menu_447 (by decide) ⟨by decide, by decide⟩ (fun h => absurd h (by decide)) (fun _ => ?_)
        refine A_aload dL_menu_450 15 rfl ?_
        refine A_ldcs (i := 25) (by decide +kernel) dL_menu_452 ?_
        refine A_iload dL_menu_454 1 rfl ?_
        refine A_iload dL_menu_456 1 rfl ?_
        refine A_iconst dL_menu_458 ?_
        refine A_iadd dL_menu_459 ?_
        refine A_putL hj6 hX hk hr3 (by omega) (Nat.le_of_ble_eq_true rfl) (by omega) (by omega) dL_menu_460 dL_menu_463 (fun σ4 tx4 hr4 he4 hn4 hq4 => ?_)
        refine A_iload dL_menu_466 5 rfl ?_
        refine A_if_le (tgt := 496) dL_menu_468 (by decide) ⟨by decide, by decide⟩ (fun _ => ?_) (fun h => absurd h (by decide))
        refine A_aload dL_menu_496 15 rfl ?_
        refine A_ldcs (i := 30) (by decide +kernel) dL_menu_498 ?_
        refine A_putk (m := 1) (oi_c ⟨by decide, by decide⟩) hk hr4 (by decide +kernel) (by omega) (Nat.le_of_ble_eq_true rfl) (by omega) (by omega) dL_menu_500 (fun σ5 tx5 hr5 he5 hn5 hq5 => ?_)
        refine A_aload dL_menu_503 14 rfl ?_
        refine A_iconst dL_menu_505 ?_
        refine A_iload dL_menu_506 7 rfl ?_
        refine A_imul dL_menu_508 ?_
        refine A_iload dL_menu_509 5 rfl ?_
        refine J_iast h85 (by first | exact i32_eq (by assumption) | exact i32_eq ⟨by omega, by omega⟩ | with_reducible exact i32_i32 _ | with_reducible exact i32_eq (b2i_inr _) | rfl) (by omega) (by omega) (by decide) dL_menu_511 ?_
        refine A_aload dL_menu_512 14 rfl ?_
        refine A_iconst dL_menu_514 ?_
        refine A_iload dL_menu_515 7 rfl ?_
        refine A_imul dL_menu_517 ?_
        refine A_iconst dL_menu_518 ?_
        refine A_iadd dL_menu_519 ?_
        refine A_iload dL_menu_520 4 rfl ?_
        refine J_iast h85 (by first | exact i32_eq (by assumption) | exact i32_eq ⟨by omega, by omega⟩ | with_reducible exact i32_i32 _ | with_reducible exact i32_eq (b2i_inr _) | rfl) (by omega) (by omega) (by decide) dL_menu_522 ?_
        refine A_aload dL_menu_523 14 rfl ?_
        refine A_iconst dL_menu_525 ?_
        refine A_iload dL_menu_526 7 rfl ?_
        refine A_imul dL_menu_528 ?_
        refine A_iconst dL_menu_529 ?_
        refine A_iadd dL_menu_530 ?_
        refine A_iload dL_menu_531 3 rfl ?_
        refine J_iast h85 (by first | exact i32_eq (by assumption) | exact i32_eq ⟨by omega, by omega⟩ | with_reducible exact i32_i32 _ | with_reducible exact i32_eq (b2i_inr _) | rfl) (by omega) (by omega) (by decide) dL_menu_533 ?_
        refine A_aload dL_menu_534 14 rfl ?_
        refine A_iconst dL_menu_536 ?_
        refine A_iload dL_menu_537 7 rfl ?_
        refine A_imul dL_menu_539 ?_
        refine A_iconst dL_menu_540 ?_
        refine A_iadd dL_menu_541 ?_
        refine A_iload dL_menu_542 5 rfl ?_
        refine A_iconst dL_menu_544 ?_
        refine J_icmp_ne (tgt := 552) dL_menu_545 (by decide) (i32_n _ (by decide)) (i32_n _ (by decide)) (fun _ => ?_) (fun h => absurd h (by decide))
        refine A_iload dL_menu_552 2 rfl ?_
        refine A_if_eq (tgt := 562) dL_menu_554 (by decide) ⟨by decide, by decide⟩ (fun _ => ?_) (fun h => absurd h (by decide))
        refine A_iconst dL_menu_562 ?_
        refine A_iload dL_menu_563 1 rfl ?_
        refine A_ishl dL_menu_565 ?_
        refine J_iast h85 (by first | exact i32_eq (by assumption) | exact i32_eq ⟨by omega, by omega⟩ | with_reducible exact i32_i32 _ | with_reducible exact i32_eq (b2i_inr _) | rfl) (by omega) (by omega) (by decide) dL_menu_566 ?_
        refine A_iinc (lv2 := [(8, _), (15, _), (14, _), (13, _), (12, _), (11, _), (10, _), (9, _), (7, _), (6, _), (0, _), (1, _), (2, _), (3, _), (4, _), (5, _)]) dL_menu_567 7 rfl (by decide) rfl ?_
        refine A_goto (tgt := 213) dL_menu_570 (by decide) ?_
        refine A_lv [0, 8, 9, 10, 11, 12, 13, 14, 15] rfl ?_
        rw [show ((k : Int) + 1) = ((k + 1 : Nat) : Int) from by omega]
        obtain ⟨n, rfl⟩ : ∃ q, n = q + 1 := ⟨n - 1, by omega⟩
        refine A_wid (k2 := kk + 3) (n2 := nn + 14) (by omega) (by omega) ?_
        refine ih n (by omega) (k + 1) _ tx5 _ _ (by omega) (row_up (by decide) (row_up (by decide) (row_up (by decide) (row_up (by decide) hr5)))) (by omega) (by omega) (by omega) (fun i hi => ?_) (fun σ' tx' a b c d e => ?_)
        · rw [up_j _ _ (by omega), up_j _ _ (by omega), up_j _ _ (by omega)]
          by_cases ck : i = k
          · subst ck
            rw [show (4 * (i : Int)).toNat = 4 * i from by omega, up_s, hxx, hs]
          · rw [up_j _ _ (by omega), hq5 85 (by decide), hq4 85 (by decide), hq3 85 (by decide), hq2 85 (by decide), hq1 85 (by decide)]
            exact h0 i (by omega)
        · have K2 := K σ' tx' a (by
            rw [b, he5, he4, he3, he2, he1]
            show _ = tx ++ byL (ruleL (rV D (clV L X (4 + (k : Int)))) ++ flat ((rlF L X D (k + 1) n).map ruleL))
            rw [hxx, by_app, show rV D x = (0, fiV x, seV x, naV D x) from by unfold rV; rw [hs]; rfl, by_rule0, hna]
            simp only [nmT, List.append_assoc]) (by omega) (fun q hq => by rw [d q hq, up_r _ _ _ hq.1, up_r _ _ _ hq.1, up_r _ _ _ hq.1, up_r _ _ _ hq.1, hq5 _ hq.2, hq4 _ hq.2, hq3 _ hq.2, hq2 _ hq.2, hq1 _ hq.2]) e
          rw [show kk + 3 + 3 * n = kk + 3 * (n + 1) from by omega, show nn + 14 + 14 * n = nn + 14 * (n + 1) from by omega]
          exact K2
      · try rw [i32_n _ (by omega)] at h358
        refine A_iconst dL_menu_361 ?_
        refine A_goto (tgt := 366) dL_menu_362 (by decide) ?_
        refine A_istore (lv2 := [(13, _), (12, _), (11, _), (10, _), (9, _), (8, _), (7, _), (6, _), (0, _), (1, _), (2, _), (3, _), (4, _), (5, _)]) dL_menu_366 (by decide) rfl ?_
        refine A_iload dL_menu_368 4 rfl ?_
        refine A_bipush dL_menu_370 (by decide +kernel) ?_
        refine A_ishr dL_menu_372 ?_
        refine A_iload_n dL_menu_373 rfl 10 rfl ?_
        refine A_below (by omega) (Nat.le_of_ble_eq_true rfl) (by omega) (by omega) dL_menu_374 ?_
        refine A_istore (lv2 := [(14, _), (13, _), (12, _), (11, _), (10, _), (9, _), (8, _), (7, _), (6, _), (0, _), (1, _), (2, _), (3, _), (4, _), (5, _)]) dL_menu_377 (by decide) rfl ?_
        obtain ⟨j, hj⟩ : ∃ j : Nat, blV (ishr x 17) (D : Int) = (j : Int) := ⟨(blV (ishr x 17) (D : Int)).toNat, by omega⟩
        rw [hj]
        have hj6 : j < 6 := by omega
        have hna : naV D x = none := if_pos h358
        refine A_iconst dL_menu_379 ?_
        refine A_newS (N := 4) hX.2.2.2.2.2.2 cl_L_10 (by decide) (by decide) (by decide) (by omega) dL_menu_380 (fun aS cS hKS => ?_)
        refine A_dup dL_menu_383 rfl ?_
        refine A_iconst dL_menu_384 ?_
        refine A_ldcs (i := 32) (by decide +kernel) dL_menu_385 ?_
        refine A_astS (q := 0) rfl hKS (oi_c ⟨by decide, by decide⟩) (i32_n _ (by decide)) (by decide) (by decide) (by decide) dL_menu_387 ?_
        refine A_dup dL_menu_388 rfl ?_
        refine A_iconst dL_menu_389 ?_
        refine A_ldcs (i := 33) (by decide +kernel) dL_menu_390 ?_
        refine A_astS (q := 0) rfl hKS (oi_c ⟨by decide, by decide⟩) (i32_n _ (by decide)) (by decide) (by decide) (by decide) dL_menu_392 ?_
        refine A_dup dL_menu_393 rfl ?_
        refine A_iconst dL_menu_394 ?_
        refine A_ldcs (i := 34) (by decide +kernel) dL_menu_395 ?_
        refine A_astS (q := 0) rfl hKS (oi_c ⟨by decide, by decide⟩) (i32_n _ (by decide)) (by decide) (by decide) (by decide) dL_menu_397 ?_
        refine A_dup dL_menu_398 rfl ?_
        refine A_iconst dL_menu_399 ?_
        refine A_ldcs (i := 35) (by decide +kernel) dL_menu_400 ?_
        refine A_astS (q := 0) rfl hKS (oi_c ⟨by decide, by decide⟩) (i32_n _ (by decide)) (by decide) (by decide) (by decide) dL_menu_402 ?_
        refine A_astore (lv2 := [(15, _), (14, _), (13, _), (12, _), (11, _), (10, _), (9, _), (8, _), (7, _), (6, _), (0, _), (1, _), (2, _), (3, _), (4, _), (5, _)]) dL_menu_403 (by decide) rfl ?_
        refine A_aload dL_menu_405 15 rfl ?_
        refine A_aload dL_menu_407 0 rfl ?_
        refine A_iload dL_menu_409 5 rfl ?_
        refine A_aldS (q := 0) (x := G.2.2.2.1 32) rfl hKS (i32_n _ (by decide)) (by decide) (by decide) (by decide) rfl dL_menu_411 ?_
        refine A_dropx ?_
        refine A_putk (m := 11) (oi_c ⟨by decide, by decide⟩) hk hr (by decide +kernel) (by omega) (Nat.le_of_ble_eq_true rfl) (by omega) (by omega) dL_menu_412 (fun σ1 tx1 hr1 he1 hn1 hq1 => ?_)
        refine A_aload dL_menu_415 15 rfl ?_
        refine A_iload dL_menu_417 4 rfl ?_
        refine A_putn hk hr1 ⟨hfb.1, by omega⟩ (by omega) (Nat.le_of_ble_eq_true rfl) (by omega) (by omega) dL_menu_419 (fun σ2 tx2 hr2 he2 hn2 hq2 => ?_)
        refine A_iload dL_menu_422 5 rfl ?_
        refine A_iconst dL_menu_424 ?_
        refine J_icmp_ge (tgt := 466) dL_menu_425 (by decide) (i32_n _ (by decide)) (i32_n _ (by decide)) (fun h => absurd h (by decide)) (fun _ => ?_)
        refine A_aload dL_menu_428 15 rfl ?_
        refine A_iload dL_menu_430 2 rfl ?_
        refine A_if_eq (tgt := 440) dL_menu_432 (by decide) ⟨by decide, by decide⟩ (fun h => absurd h (by decide)) (fun _ => ?_)
        refine A_ldcs (i := 36) (by decide +kernel) dL_menu_435 ?_
        refine A_goto (tgt := 442) dL_menu_437 (by decide) ?_
        refine A_putk (m := 2) (oi_c ⟨by decide, by decide⟩) hk hr2 (by decide +kernel) (by omega) (Nat.le_of_ble_eq_true rfl) (by omega) (by omega) dL_menu_442 (fun σ3 tx3 hr3 he3 hn3 hq3 => ?_)
        refine A_iload dL_menu_445 2 rfl ?_
        refine A_if_ne (tgt := 466) dL_menu_447 (by decide) ⟨by decide, by decide⟩ (fun _ => ?_) (fun h => absurd h (by decide))
        refine A_iload dL_menu_466 5 rfl ?_
        refine A_if_le (tgt := 496) dL_menu_468 (by decide) ⟨by decide, by decide⟩ (fun _ => ?_) (fun h => absurd h (by decide))
        refine A_aload dL_menu_496 15 rfl ?_
        refine A_ldcs (i := 30) (by decide +kernel) dL_menu_498 ?_
        refine A_putk (m := 1) (oi_c ⟨by decide, by decide⟩) hk hr3 (by decide +kernel) (by omega) (Nat.le_of_ble_eq_true rfl) (by omega) (by omega) dL_menu_500 (fun σ4 tx4 hr4 he4 hn4 hq4 => ?_)
        refine A_aload dL_menu_503 14 rfl ?_
        refine A_iconst dL_menu_505 ?_
        refine A_iload dL_menu_506 7 rfl ?_
        refine A_imul dL_menu_508 ?_
        refine A_iload dL_menu_509 5 rfl ?_
        refine J_iast h85 (by first | exact i32_eq (by assumption) | exact i32_eq ⟨by omega, by omega⟩ | with_reducible exact i32_i32 _ | with_reducible exact i32_eq (b2i_inr _) | rfl) (by omega) (by omega) (by decide) dL_menu_511 ?_
        refine A_aload dL_menu_512 14 rfl ?_
        refine A_iconst dL_menu_514 ?_
        refine A_iload dL_menu_515 7 rfl ?_
        refine A_imul dL_menu_517 ?_
        refine A_iconst dL_menu_518 ?_
        refine A_iadd dL_menu_519 ?_
        refine A_iload dL_menu_520 4 rfl ?_
        refine J_iast h85 (by first | exact i32_eq (by assumption) | exact i32_eq ⟨by omega, by omega⟩ | with_reducible exact i32_i32 _ | with_reducible exact i32_eq (b2i_inr _) | rfl) (by omega) (by omega) (by decide) dL_menu_522 ?_
        refine A_aload dL_menu_523 14 rfl ?_
        refine A_iconst dL_menu_525 ?_
        refine A_iload dL_menu_526 7 rfl ?_
        refine A_imul dL_menu_528 ?_
        refine A_iconst dL_menu_529 ?_
        refine A_iadd dL_menu_530 ?_
        refine A_iload dL_menu_531 3 rfl ?_
        refine J_iast h85 (by first | exact i32_eq (by assumption) | exact i32_eq ⟨by omega, by omega⟩ | with_reducible exact i32_i32 _ | with_reducible exact i32_eq (b2i_inr _) | rfl) (by omega) (by omega) (by decide) dL_menu_533 ?_
        refine A_aload dL_menu_534 14 rfl ?_
        refine A_iconst dL_menu_536 ?_
        refine A_iload dL_menu_537 7 rfl ?_
        refine A_imul dL_menu_539 ?_
        refine A_iconst dL_menu_540 ?_
        refine A_iadd dL_menu_541 ?_
        refine A_iload dL_menu_542 5 rfl ?_
        refine A_iconst dL_menu_544 ?_
        refine J_icmp_ne (tgt := 552) dL_menu_545 (by decide) (i32_n _ (by decide)) (i32_n _ (by decide)) (fun _ => ?_) (fun h => absurd h (by decide))
        refine A_iload dL_menu_552 2 rfl ?_
        refine A_if_eq (tgt := 562) dL_menu_554 (by decide) ⟨by decide, by decide⟩ (fun h => absurd h (by decide)) (fun _ => ?_)
        refine A_iload dL_menu_557 9 rfl ?_
        refine A_goto (tgt := 566) dL_menu_559 (by decide) ?_
        refine J_iast h85 (by first | exact i32_eq (by assumption) | exact i32_eq ⟨by omega, by omega⟩ | with_reducible exact i32_i32 _ | with_reducible exact i32_eq (b2i_inr _) | rfl) (by omega) (by omega) (by decide) dL_menu_566 ?_
        refine A_iinc (lv2 := [(8, _), (15, _), (14, _), (13, _), (12, _), (11, _), (10, _), (9, _), (7, _), (6, _), (0, _), (1, _), (2, _), (3, _), (4, _), (5, _)]) dL_menu_567 7 rfl (by decide) rfl ?_
        refine A_goto (tgt := 213) dL_menu_570 (by decide) ?_
        refine A_lv [0, 8, 9, 10, 11, 12, 13, 14, 15] rfl ?_
        rw [show ((k : Int) + 1) = ((k + 1 : Nat) : Int) from by omega]
        obtain ⟨n, rfl⟩ : ∃ q, n = q + 1 := ⟨n - 1, by omega⟩
        refine A_wid (k2 := kk + 3) (n2 := nn + 14) (by omega) (by omega) ?_
        refine ih n (by omega) (k + 1) _ tx4 _ _ (by omega) (row_up (by decide) (row_up (by decide) (row_up (by decide) (row_up (by decide) hr4)))) (by omega) (by omega) (by omega) (fun i hi => ?_) (fun σ' tx' a b c d e => ?_)
        · rw [up_j _ _ (by omega), up_j _ _ (by omega), up_j _ _ (by omega)]
          by_cases ck : i = k
          · subst ck
            rw [show (4 * (i : Int)).toNat = 4 * i from by omega, up_s, hxx, hs]
          · rw [up_j _ _ (by omega), hq4 85 (by decide), hq3 85 (by decide), hq2 85 (by decide), hq1 85 (by decide)]
            exact h0 i (by omega)
        · have K2 := K σ' tx' a (by
            rw [b, he4, he3, he2, he1]
            show _ = tx ++ byL (ruleL (rV D (clV L X (4 + (k : Int)))) ++ flat ((rlF L X D (k + 1) n).map ruleL))
            rw [hxx, by_app, show rV D x = (0, fiV x, seV x, naV D x) from by unfold rV; rw [hs]; rfl, by_rule0, hna]
            simp only [nmT, List.append_assoc]) (by omega) (fun q hq => by rw [d q hq, up_r _ _ _ hq.1, up_r _ _ _ hq.1, up_r _ _ _ hq.1, up_r _ _ _ hq.1, hq4 _ hq.2, hq3 _ hq.2, hq2 _ hq.2, hq1 _ hq.2]) e
          rw [show kk + 3 + 3 * n = kk + 3 * (n + 1) from by omega, show nn + 14 + 14 * n = nn + 14 * (n + 1) from by omega]
          exact K2
    · rw [hs]
      refine A_iload dL_menu_238 0 rfl ?_
      refine A_if_ne (tgt := 256) dL_menu_240 (by decide) ⟨by decide, by decide⟩ (fun _ => ?_) (fun h => absurd h (by decide))
      refine A_iload dL_menu_256 0 rfl ?_
      refine A_iconst dL_menu_258 ?_
      refine J_icmp_ne (tgt := 273) dL_menu_259 (by decide) (i32_n _ (by decide)) (i32_n _ (by decide)) (fun h => absurd h (by decide)) (fun _ => ?_)
      refine A_iload dL_menu_262 1 rfl ?_
      refine A_iconst dL_menu_264 ?_
      refine A_ishr dL_menu_265 ?_
      refine A_iconst dL_menu_266 ?_
      refine A_below (by omega) (Nat.le_of_ble_eq_true rfl) (by omega) (by omega) dL_menu_267 ?_
      refine A_goto (tgt := 302) dL_menu_270 (by decide) ?_
      refine A_istore (lv2 := [(11, _), (10, _), (9, _), (8, _), (7, _), (6, _), (0, _), (1, _), (2, _), (3, _), (4, _), (5, _)]) dL_menu_302 (by decide) rfl ?_
      have hfi : fiV x = blV (ishr x 2) 4 := by unfold fiV; rw [if_neg (by omega), if_pos hs]
      rw [← hfi]
      have hfb : 0 ≤ fiV x ∧ fiV x < 1000 := by rw [hfi]; omega
      refine A_iload dL_menu_304 1 rfl ?_
      refine A_if_ne (tgt := 313) dL_menu_306 (by decide) ⟨by decide, by decide⟩ (fun _ => ?_) (fun h => absurd h (by decide))
      refine A_iload dL_menu_313 1 rfl ?_
      refine A_iconst dL_menu_315 ?_
      refine J_icmp_ne (tgt := 336) dL_menu_316 (by decide) (i32_n _ (by decide)) (i32_n _ (by decide)) (fun _ => ?_) (fun h => absurd h (by decide))
      refine A_iconst dL_menu_336 ?_
      refine A_iload dL_menu_337 2 rfl ?_
      refine A_bipush dL_menu_339 (by decide +kernel) ?_
      refine A_ishr dL_menu_341 ?_
      refine A_iconst dL_menu_342 ?_
      refine A_below (by omega) (Nat.le_of_ble_eq_true rfl) (by omega) (by omega) dL_menu_343 ?_
      refine A_iadd dL_menu_346 ?_
      refine A_istore (lv2 := [(12, _), (11, _), (10, _), (9, _), (8, _), (7, _), (6, _), (0, _), (1, _), (2, _), (3, _), (4, _), (5, _)]) dL_menu_347 (by decide) rfl ?_
      have hse : seV x = 1 + blV (ishr x 12) 5 := by unfold seV; rw [if_neg (by omega), if_neg (by omega)]
      rw [← hse]
      have hsb : 0 ≤ seV x ∧ seV x < 3000 := by rw [hse]; omega
      refine A_iload dL_menu_349 3 rfl ?_
      refine A_bipush dL_menu_351 (by decide +kernel) ?_
      refine A_ishr dL_menu_353 ?_
      refine A_iconst dL_menu_354 ?_
      refine A_below (by omega) (Nat.le_of_ble_eq_true rfl) (by omega) (by omega) dL_menu_355 ?_
      refine J_if_ne (tgt := 365) dL_menu_358 (by decide) (by first | exact i32_eq (by assumption) | exact i32_eq ⟨by omega, by omega⟩ | with_reducible exact i32_i32 _ | with_reducible exact i32_eq (b2i_inr _) | rfl) (fun h358 => ?_) (fun h358 => ?_)
      · try rw [i32_n _ (by omega)] at h358
        refine A_iconst dL_menu_365 ?_
        refine A_istore (lv2 := [(13, _), (12, _), (11, _), (10, _), (9, _), (8, _), (7, _), (6, _), (0, _), (1, _), (2, _), (3, _), (4, _), (5, _)]) dL_menu_366 (by decide) rfl ?_
        refine A_iload dL_menu_368 4 rfl ?_
        refine A_bipush dL_menu_370 (by decide +kernel) ?_
        refine A_ishr dL_menu_372 ?_
        refine A_iload_n dL_menu_373 rfl 10 rfl ?_
        refine A_below (by omega) (Nat.le_of_ble_eq_true rfl) (by omega) (by omega) dL_menu_374 ?_
        refine A_istore (lv2 := [(14, _), (13, _), (12, _), (11, _), (10, _), (9, _), (8, _), (7, _), (6, _), (0, _), (1, _), (2, _), (3, _), (4, _), (5, _)]) dL_menu_377 (by decide) rfl ?_
        obtain ⟨j, hj⟩ : ∃ j : Nat, blV (ishr x 17) (D : Int) = (j : Int) := ⟨(blV (ishr x 17) (D : Int)).toNat, by omega⟩
        rw [hj]
        have hj6 : j < 6 := by omega
        have hna : naV D x = some j := by
          unfold naV
          rw [if_neg h358, hj, Int.toNat_natCast]
        refine A_iconst dL_menu_379 ?_
        refine A_newS (N := 4) hX.2.2.2.2.2.2 cl_L_10 (by decide) (by decide) (by decide) (by omega) dL_menu_380 (fun aS cS hKS => ?_)
        refine A_dup dL_menu_383 rfl ?_
        refine A_iconst dL_menu_384 ?_
        refine A_ldcs (i := 32) (by decide +kernel) dL_menu_385 ?_
        refine A_astS (q := 0) rfl hKS (oi_c ⟨by decide, by decide⟩) (i32_n _ (by decide)) (by decide) (by decide) (by decide) dL_menu_387 ?_
        refine A_dup dL_menu_388 rfl ?_
        refine A_iconst dL_menu_389 ?_
        refine A_ldcs (i := 33) (by decide +kernel) dL_menu_390 ?_
        refine A_astS (q := 0) rfl hKS (oi_c ⟨by decide, by decide⟩) (i32_n _ (by decide)) (by decide) (by decide) (by decide) dL_menu_392 ?_
        refine A_dup dL_menu_393 rfl ?_
        refine A_iconst dL_menu_394 ?_
        refine A_ldcs (i := 34) (by decide +kernel) dL_menu_395 ?_
        refine A_astS (q := 0) rfl hKS (oi_c ⟨by decide, by decide⟩) (i32_n _ (by decide)) (by decide) (by decide) (by decide) dL_menu_397 ?_
        refine A_dup dL_menu_398 rfl ?_
        refine A_iconst dL_menu_399 ?_
        refine A_ldcs (i := 35) (by decide +kernel) dL_menu_400 ?_
        refine A_astS (q := 0) rfl hKS (oi_c ⟨by decide, by decide⟩) (i32_n _ (by decide)) (by decide) (by decide) (by decide) dL_menu_402 ?_
        refine A_astore (lv2 := [(15, _), (14, _), (13, _), (12, _), (11, _), (10, _), (9, _), (8, _), (7, _), (6, _), (0, _), (1, _), (2, _), (3, _), (4, _), (5, _)]) dL_menu_403 (by decide) rfl ?_
        refine A_aload dL_menu_405 15 rfl ?_
        refine A_aload dL_menu_407 0 rfl ?_
        refine A_iload dL_menu_409 5 rfl ?_
        refine A_aldS (q := 0) (x := G.2.2.2.1 33) rfl hKS (i32_n _ (by decide)) (by decide) (by decide) (by decide) rfl dL_menu_411 ?_
        refine A_dropx ?_
        refine A_putk (m := 10) (oi_c ⟨by decide, by decide⟩) hk hr (by decide +kernel) (by omega) (Nat.le_of_ble_eq_true rfl) (by omega) (by omega) dL_menu_412 (fun σ1 tx1 hr1 he1 hn1 hq1 => ?_)
        refine A_aload dL_menu_415 15 rfl ?_
        refine A_iload dL_menu_417 4 rfl ?_
        refine A_putn hk hr1 ⟨hfb.1, by omega⟩ (by omega) (Nat.le_of_ble_eq_true rfl) (by omega) (by omega) dL_menu_419 (fun σ2 tx2 hr2 he2 hn2 hq2 => ?_)
        refine A_iload dL_menu_422 5 rfl ?_
        refine A_iconst dL_menu_424 ?_
        refine J_icmp_ge (tgt := 466) dL_menu_425 (by decide) (i32_n _ (by decide)) (i32_n _ (by decide)) (fun h => absurd h (by decide)) (fun _ => ?_)
        refine A_aload dL_menu_428 15 rfl ?_
        refine A_iload dL_menu_430 2 rfl ?_
        refine A_if_eq (tgt := 440) dL_menu_432 (by decide) ⟨by decide, by decide⟩ (fun _ => ?_) (fun h => absurd h (by decide))
        refine A_ldcs (i := 37) (by decide +kernel) dL_menu_440 ?_
        refine A_putk (m := 2) (oi_c ⟨by decide, by decide⟩) hk hr2 (by decide +kernel) (by omega) (Nat.le_of_ble_eq_true rfl) (by omega) (by omega) dL_menu_442 (fun σ3 tx3 hr3 he3 hn3 hq3 => ?_)
        refine A_iload dL_menu_445 2 rfl ?_
        refine A_if_ne (tgt := 466) dL_menu_447 (by decide) ⟨by decide, by decide⟩ (fun h => absurd h (by decide)) (fun _ => ?_)
        refine A_aload dL_menu_450 15 rfl ?_
        refine A_ldcs (i := 25) (by decide +kernel) dL_menu_452 ?_
        refine A_iload dL_menu_454 1 rfl ?_
        refine A_iload dL_menu_456 1 rfl ?_
        refine A_iconst dL_menu_458 ?_
        refine A_iadd dL_menu_459 ?_
        refine A_putL hj6 hX hk hr3 (by omega) (Nat.le_of_ble_eq_true rfl) (by omega) (by omega) dL_menu_460 dL_menu_463 (fun σ4 tx4 hr4 he4 hn4 hq4 => ?_)
        refine A_iload dL_menu_466 5 rfl ?_
        refine A_if_le (tgt := 496) dL_menu_468 (by decide) ⟨by decide, by decide⟩ (fun h => absurd h (by decide)) (fun _ => ?_)
        refine A_aload dL_menu_471 15 rfl ?_
        refine A_iload dL_menu_473 5 rfl ?_
        refine A_iconst dL_menu_475 ?_
        refine J_icmp_ne (tgt := 484) dL_menu_476 (by decide) (i32_n _ (by decide)) (i32_n _ (by decide)) (fun _ => ?_) (fun h => absurd h (by decide))
        refine A_ldcs (i := 39) (by decide +kernel) dL_menu_484 ?_
        refine A_putk (m := 4) (oi_c ⟨by decide, by decide⟩) hk hr4 (by decide +kernel) (by omega) (Nat.le_of_ble_eq_true rfl) (by omega) (by omega) dL_menu_486 (fun σ5 tx5 hr5 he5 hn5 hq5 => ?_)
        refine A_aload dL_menu_489 15 rfl ?_
        refine A_iload dL_menu_491 3 rfl ?_
        refine A_putn hk hr5 ⟨hsb.1, by omega⟩ (by omega) (Nat.le_of_ble_eq_true rfl) (by omega) (by omega) dL_menu_493 (fun σ6 tx6 hr6 he6 hn6 hq6 => ?_)
        refine A_aload dL_menu_496 15 rfl ?_
        refine A_ldcs (i := 30) (by decide +kernel) dL_menu_498 ?_
        refine A_putk (m := 1) (oi_c ⟨by decide, by decide⟩) hk hr6 (by decide +kernel) (by omega) (Nat.le_of_ble_eq_true rfl) (by omega) (by omega) dL_menu_500 (fun σ7 tx7 hr7 he7 hn7 hq7 => ?_)
        refine A_aload dL_menu_503 14 rfl ?_
        refine A_iconst dL_menu_505 ?_
        refine A_iload dL_menu_506 7 rfl ?_
        refine A_imul dL_menu_508 ?_
        refine A_iload dL_menu_509 5 rfl ?_
        refine J_iast h85 (by first | exact i32_eq (by assumption) | exact i32_eq ⟨by omega, by omega⟩ | with_reducible exact i32_i32 _ | with_reducible exact i32_eq (b2i_inr _) | rfl) (by omega) (by omega) (by decide) dL_menu_511 ?_
        refine A_aload dL_menu_512 14 rfl ?_
        refine A_iconst dL_menu_514 ?_
        refine A_iload dL_menu_515 7 rfl ?_
        refine A_imul dL_menu_517 ?_
        refine A_iconst dL_menu_518 ?_
        refine A_iadd dL_menu_519 ?_
        refine A_iload dL_menu_520 4 rfl ?_
        refine J_iast h85 (by first | exact i32_eq (by assumption) | exact i32_eq ⟨by omega, by omega⟩ | with_reducible exact i32_i32 _ | with_reducible exact i32_eq (b2i_inr _) | rfl) (by omega) (by omega) (by decide) dL_menu_522 ?_
        refine A_aload dL_menu_523 14 rfl ?_
        refine A_iconst dL_menu_525 ?_
        refine A_iload dL_menu_526 7 rfl ?_
        refine A_imul dL_menu_528 ?_
        refine A_iconst dL_menu_529 ?_
        refine A_iadd dL_menu_530 ?_
        refine A_iload dL_menu_531 3 rfl ?_
        refine J_iast h85 (by first | exact i32_eq (by assumption) | exact i32_eq ⟨by omega, by omega⟩ | with_reducible exact i32_i32 _ | with_reducible exact i32_eq (b2i_inr _) | rfl) (by omega) (by omega) (by decide) dL_menu_533 ?_
        refine A_aload dL_menu_534 14 rfl ?_
        refine A_iconst dL_menu_536 ?_
        refine A_iload dL_menu_537 7 rfl ?_
        refine A_imul dL_menu_539 ?_
        refine A_iconst dL_menu_540 ?_
        refine A_iadd dL_menu_541 ?_
        refine A_iload dL_menu_542 5 rfl ?_
        refine A_iconst dL_menu_544 ?_
        refine J_icmp_ne (tgt := 552) dL_menu_545 (by decide) (i32_n _ (by decide)) (i32_n _ (by decide)) (fun _ => ?_) (fun h => absurd h (by decide))
        refine A_iload dL_menu_552 2 rfl ?_
        refine A_if_eq (tgt := 562) dL_menu_554 (by decide) ⟨by decide, by decide⟩ (fun _ => ?_) (fun h => absurd h (by decide))
        refine A_iconst dL_menu_562 ?_
        refine A_iload dL_menu_563 1 rfl ?_
        refine A_ishl dL_menu_565 ?_
        refine J_iast h85 (by first | exact i32_eq (by assumption) | exact i32_eq ⟨by omega, by omega⟩ | with_reducible exact i32_i32 _ | with_reducible exact i32_eq (b2i_inr _) | rfl) (by omega) (by omega) (by decide) dL_menu_566 ?_
        refine A_iinc (lv2 := [(8, _), (15, _), (14, _), (13, _), (12, _), (11, _), (10, _), (9, _), (7, _), (6, _), (0, _), (1, _), (2, _), (3, _), (4, _), (5, _)]) dL_menu_567 7 rfl (by decide) rfl ?_
        refine A_goto (tgt := 213) dL_menu_570 (by decide) ?_
        refine A_lv [0, 8, 9, 10, 11, 12, 13, 14, 15] rfl ?_
        rw [show ((k : Int) + 1) = ((k + 1 : Nat) : Int) from by omega]
        obtain ⟨n, rfl⟩ : ∃ q, n = q + 1 := ⟨n - 1, by omega⟩
        refine A_wid (k2 := kk + 3) (n2 := nn + 14) (by omega) (by omega) ?_
        refine ih n (by omega) (k + 1) _ tx7 _ _ (by omega) (row_up (by decide) (row_up (by decide) (row_up (by decide) (row_up (by decide) hr7)))) (by omega) (by omega) (by omega) (fun i hi => ?_) (fun σ' tx' a b c d e => ?_)
        · rw [up_j _ _ (by omega), up_j _ _ (by omega), up_j _ _ (by omega)]
          by_cases ck : i = k
          · subst ck
            rw [show (4 * (i : Int)).toNat = 4 * i from by omega, up_s, hxx, hs]
          · rw [up_j _ _ (by omega), hq7 85 (by decide), hq6 85 (by decide), hq5 85 (by decide), hq4 85 (by decide), hq3 85 (by decide), hq2 85 (by decide), hq1 85 (by decide)]
            exact h0 i (by omega)
        · have K2 := K σ' tx' a (by
            rw [b, he7, he6, he5, he4, he3, he2, he1]
            show _ = tx ++ byL (ruleL (rV D (clV L X (4 + (k : Int)))) ++ flat ((rlF L X D (k + 1) n).map ruleL))
            rw [hxx, by_app, show rV D x = (1, fiV x, seV x, naV D x) from by unfold rV; rw [hs]; rfl, by_rule1, hna]
            simp only [nmT, List.append_assoc]) (by omega) (fun q hq => by rw [d q hq, up_r _ _ _ hq.1, up_r _ _ _ hq.1, up_r _ _ _ hq.1, up_r _ _ _ hq.1, hq7 _ hq.2, hq6 _ hq.2, hq5 _ hq.2, hq4 _ hq.2, hq3 _ hq.2, hq2 _ hq.2, hq1 _ hq.2]) e
          rw [show kk + 3 + 3 * n = kk + 3 * (n + 1) from by omega, show nn + 14 + 14 * n = nn + 14 * (n + 1) from by omega]
          exact K2
      · try rw [i32_n _ (by omega)] at h358
        refine A_iconst dL_menu_361 ?_
        refine A_goto (tgt := 366) dL_menu_362 (by decide) ?_
        refine A_istore (lv2 := [(13, _), (12, _), (11, _), (10, _), (9, _), (8, _), (7, _), (6, _), (0, _), (1, _), (2, _), (3, _), (4, _), (5, _)]) dL_menu_366 (by decide) rfl ?_
        refine A_iload dL_menu_368 4 rfl ?_
        refine A_bipush dL_menu_370 (by decide +kernel) ?_
        refine A_ishr dL_menu_372 ?_
        refine A_iload_n dL_menu_373 rfl 10 rfl ?_
        refine A_below (by omega) (Nat.le_of_ble_eq_true rfl) (by omega) (by omega) dL_menu_374 ?_
        refine A_istore (lv2 := [(14, _), (13, _), (12, _), (11, _), (10, _), (9, _), (8, _), (7, _), (6, _), (0, _), (1, _), (2, _), (3, _), (4, _), (5, _)]) dL_menu_377 (by decide) rfl ?_
        obtain ⟨j, hj⟩ : ∃ j : Nat, blV (ishr x 17) (D : Int) = (j : Int) := ⟨(blV (ishr x 17) (D : Int)).toNat, by omega⟩
        rw [hj]
        have hj6 : j < 6 := by omega
        have hna : naV D x = none := if_pos h358
        refine A_iconst dL_menu_379 ?_
        refine A_newS (N := 4) hX.2.2.2.2.2.2 cl_L_10 (by decide) (by decide) (by decide) (by omega) dL_menu_380 (fun aS cS hKS => ?_)
        refine A_dup dL_menu_383 rfl ?_
        refine A_iconst dL_menu_384 ?_
        refine A_ldcs (i := 32) (by decide +kernel) dL_menu_385 ?_
        refine A_astS (q := 0) rfl hKS (oi_c ⟨by decide, by decide⟩) (i32_n _ (by decide)) (by decide) (by decide) (by decide) dL_menu_387 ?_
        refine A_dup dL_menu_388 rfl ?_
        refine A_iconst dL_menu_389 ?_
        refine A_ldcs (i := 33) (by decide +kernel) dL_menu_390 ?_
        refine A_astS (q := 0) rfl hKS (oi_c ⟨by decide, by decide⟩) (i32_n _ (by decide)) (by decide) (by decide) (by decide) dL_menu_392 ?_
        refine A_dup dL_menu_393 rfl ?_
        refine A_iconst dL_menu_394 ?_
        refine A_ldcs (i := 34) (by decide +kernel) dL_menu_395 ?_
        refine A_astS (q := 0) rfl hKS (oi_c ⟨by decide, by decide⟩) (i32_n _ (by decide)) (by decide) (by decide) (by decide) dL_menu_397 ?_
        refine A_dup dL_menu_398 rfl ?_
        refine A_iconst dL_menu_399 ?_
        refine A_ldcs (i := 35) (by decide +kernel) dL_menu_400 ?_
        refine A_astS (q := 0) rfl hKS (oi_c ⟨by decide, by decide⟩) (i32_n _ (by decide)) (by decide) (by decide) (by decide) dL_menu_402 ?_
        refine A_astore (lv2 := [(15, _), (14, _), (13, _), (12, _), (11, _), (10, _), (9, _), (8, _), (7, _), (6, _), (0, _), (1, _), (2, _), (3, _), (4, _), (5, _)]) dL_menu_403 (by decide) rfl ?_
        refine A_aload dL_menu_405 15 rfl ?_
        refine A_aload dL_menu_407 0 rfl ?_
        refine A_iload dL_menu_409 5 rfl ?_
        refine A_aldS (q := 0) (x := G.2.2.2.1 33) rfl hKS (i32_n _ (by decide)) (by decide) (by decide) (by decide) rfl dL_menu_411 ?_
        refine A_dropx ?_
        refine A_putk (m := 10) (oi_c ⟨by decide, by decide⟩) hk hr (by decide +kernel) (by omega) (Nat.le_of_ble_eq_true rfl) (by omega) (by omega) dL_menu_412 (fun σ1 tx1 hr1 he1 hn1 hq1 => ?_)
        refine A_aload dL_menu_415 15 rfl ?_
        refine A_iload dL_menu_417 4 rfl ?_
        refine A_putn hk hr1 ⟨hfb.1, by omega⟩ (by omega) (Nat.le_of_ble_eq_true rfl) (by omega) (by omega) dL_menu_419 (fun σ2 tx2 hr2 he2 hn2 hq2 => ?_)
        refine A_iload dL_menu_422 5 rfl ?_
        refine A_iconst dL_menu_424 ?_
        refine J_icmp_ge (tgt := 466) dL_menu_425 (by decide) (i32_n _ (by decide)) (i32_n _ (by decide)) (fun h => absurd h (by decide)) (fun _ => ?_)
        refine A_aload dL_menu_428 15 rfl ?_
        refine A_iload dL_menu_430 2 rfl ?_
        refine A_if_eq (tgt := 440) dL_menu_432 (by decide) ⟨by decide, by decide⟩ (fun h => absurd h (by decide)) (fun _ => ?_)
        refine A_ldcs (i := 36) (by decide +kernel) dL_menu_435 ?_
        refine A_goto (tgt := 442) dL_menu_437 (by decide) ?_
        refine A_putk (m := 2) (oi_c ⟨by decide, by decide⟩) hk hr2 (by decide +kernel) (by omega) (Nat.le_of_ble_eq_true rfl) (by omega) (by omega) dL_menu_442 (fun σ3 tx3 hr3 he3 hn3 hq3 => ?_)
        refine A_iload dL_menu_445 2 rfl ?_
        refine A_if_ne (tgt := 466) dL_menu_447 (by decide) ⟨by decide, by decide⟩ (fun _ => ?_) (fun h => absurd h (by decide))
        refine A_iload dL_menu_466 5 rfl ?_
        refine A_if_le (tgt := 496) dL_menu_468 (by decide) ⟨by decide, by decide⟩ (fun h => absurd h (by decide)) (fun _ => ?_)
        refine A_aload dL_menu_471 15 rfl ?_
        refine A_iload dL_menu_473 5 rfl ?_
        refine A_iconst dL_menu_475 ?_
        refine J_icmp_ne (tgt := 484) dL_menu_476 (by decide) (i32_n _ (by decide)) (i32_n _ (by decide)) (fun _ => ?_) (fun h => absurd h (by decide))
        refine A_ldcs (i := 39) (by decide +kernel) dL_menu_484 ?_
        refine A_putk (m := 4) (oi_c ⟨by decide, by decide⟩) hk hr3 (by decide +kernel) (by omega) (Nat.le_of_ble_eq_true rfl) (by omega) (by omega) dL_menu_486 (fun σ4 tx4 hr4 he4 hn4 hq4 => ?_)
        refine A_aload dL_menu_489 15 rfl ?_
        refine A_iload dL_menu_491 3 rfl ?_
        refine A_putn hk hr4 ⟨hsb.1, by omega⟩ (by omega) (Nat.le_of_ble_eq_true rfl) (by omega) (by omega) dL_menu_493 (fun σ5 tx5 hr5 he5 hn5 hq5 => ?_)
        refine A_aload dL_menu_496 15 rfl ?_
        refine A_ldcs (i := 30) (by decide +kernel) dL_menu_498 ?_
        refine A_putk (m := 1) (oi_c ⟨by decide, by decide⟩) hk hr5 (by decide +kernel) (by omega) (Nat.le_of_ble_eq_true rfl) (by omega) (by omega) dL_menu_500 (fun σ6 tx6 hr6 he6 hn6 hq6 => ?_)
        refine A_aload dL_menu_503 14 rfl ?_
        refine A_iconst dL_menu_505 ?_
        refine A_iload dL_menu_506 7 rfl ?_
        refine A_imul dL_menu_508 ?_
        refine A_iload dL_menu_509 5 rfl ?_
        refine J_iast h85 (by first | exact i32_eq (by assumption) | exact i32_eq ⟨by omega, by omega⟩ | with_reducible exact i32_i32 _ | with_reducible exact i32_eq (b2i_inr _) | rfl) (by omega) (by omega) (by decide) dL_menu_511 ?_
        refine A_aload dL_menu_512 14 rfl ?_
        refine A_iconst dL_menu_514 ?_
        refine A_iload dL_menu_515 7 rfl ?_
        refine A_imul dL_menu_517 ?_
        refine A_iconst dL_menu_518 ?_
        refine A_iadd dL_menu_519 ?_
        refine A_iload dL_menu_520 4 rfl ?_
        refine J_iast h85 (by first | exact i32_eq (by assumption) | exact i32_eq ⟨by omega, by omega⟩ | with_reducible exact i32_i32 _ | with_reducible exact i32_eq (b2i_inr _) | rfl) (by omega) (by omega) (by decide) dL_menu_522 ?_
        refine A_aload dL_menu_523 14 rfl ?_
        refine A_iconst dL_menu_525 ?_
        refine A_iload dL_menu_526 7 rfl ?_
        refine A_imul dL_menu_528 ?_
        refine A_iconst dL_menu_529 ?_
        refine A_iadd dL_menu_530 ?_
        refine A_iload dL_menu_531 3 rfl ?_
        refine J_iast h85 (by first | exact i32_eq (by assumption) | exact i32_eq ⟨by omega, by omega⟩ | with_reducible exact i32_i32 _ | with_reducible exact i32_eq (b2i_inr _) | rfl) (by omega) (by omega) (by decide) dL_menu_533 ?_
        refine A_aload dL_menu_534 14 rfl ?_
        refine A_iconst dL_menu_536 ?_
        refine A_iload dL_menu_537 7 rfl ?_
        refine A_imul dL_menu_539 ?_
        refine A_iconst dL_menu_540 ?_
        refine A_iadd dL_menu_541 ?_
        refine A_iload dL_menu_542 5 rfl ?_
        refine A_iconst dL_menu_544 ?_
        refine J_icmp_ne (tgt := 552) dL_menu_545 (by decide) (i32_n _ (by decide)) (i32_n _ (by decide)) (fun _ => ?_) (fun h => absurd h (by decide))
        refine A_iload dL_menu_552 2 rfl ?_
        refine A_if_eq (tgt := 562) dL_menu_554 (by decide) ⟨by decide, by decide⟩ (fun h => absurd h (by decide)) (fun _ => ?_)
        refine A_iload dL_menu_557 9 rfl ?_
        refine A_goto (tgt := 566) dL_menu_559 (by decide) ?_
        refine J_iast h85 (by first | exact i32_eq (by assumption) | exact i32_eq ⟨by omega, by omega⟩ | with_reducible exact i32_i32 _ | with_reducible exact i32_eq (b2i_inr _) | rfl) (by omega) (by omega) (by decide) dL_menu_566 ?_
        refine A_iinc (lv2 := [(8, _), (15, _), (14, _), (13, _), (12, _), (11, _), (10, _), (9, _), (7, _), (6, _), (0, _), (1, _), (2, _), (3, _), (4, _), (5, _)]) dL_menu_567 7 rfl (by decide) rfl ?_
        refine A_goto (tgt := 213) dL_menu_570 (by decide) ?_
        refine A_lv [0, 8, 9, 10, 11, 12, 13, 14, 15] rfl ?_
        rw [show ((k : Int) + 1) = ((k + 1 : Nat) : Int) from by omega]
        obtain ⟨n, rfl⟩ : ∃ q, n = q + 1 := ⟨n - 1, by omega⟩
        refine A_wid (k2 := kk + 3) (n2 := nn + 14) (by omega) (by omega) ?_
        refine ih n (by omega) (k + 1) _ tx6 _ _ (by omega) (row_up (by decide) (row_up (by decide) (row_up (by decide) (row_up (by decide) hr6)))) (by omega) (by omega) (by omega) (fun i hi => ?_) (fun σ' tx' a b c d e => ?_)
        · rw [up_j _ _ (by omega), up_j _ _ (by omega), up_j _ _ (by omega)]
          by_cases ck : i = k
          · subst ck
            rw [show (4 * (i : Int)).toNat = 4 * i from by omega, up_s, hxx, hs]
          · rw [up_j _ _ (by omega), hq6 85 (by decide), hq5 85 (by decide), hq4 85 (by decide), hq3 85 (by decide), hq2 85 (by decide), hq1 85 (by decide)]
            exact h0 i (by omega)
        · have K2 := K σ' tx' a (by
            rw [b, he6, he5, he4, he3, he2, he1]
            show _ = tx ++ byL (ruleL (rV D (clV L X (4 + (k : Int)))) ++ flat ((rlF L X D (k + 1) n).map ruleL))
            rw [hxx, by_app, show rV D x = (1, fiV x, seV x, naV D x) from by unfold rV; rw [hs]; rfl, by_rule1, hna]
            simp only [nmT, List.append_assoc]) (by omega) (fun q hq => by rw [d q hq, up_r _ _ _ hq.1, up_r _ _ _ hq.1, up_r _ _ _ hq.1, up_r _ _ _ hq.1, hq6 _ hq.2, hq5 _ hq.2, hq4 _ hq.2, hq3 _ hq.2, hq2 _ hq.2, hq1 _ hq.2]) e
          rw [show kk + 3 + 3 * n = kk + 3 * (n + 1) from by omega, show nn + 14 + 14 * n = nn + 14 * (n + 1) from by omega]
          exact K2
    · rw [hs]
      refine A_iload dL_menu_238 0 rfl ?_
      refine A_if_ne (tgt := 256) dL_menu_240 (by decide) ⟨by decide, by decide⟩ (fun _ => ?_) (fun h => absurd h (by decide))
      refine A_iload dL_menu_256 0 rfl ?_
      refine A_iconst dL_menu_258 ?_
      refine J_icmp_ne (tgt := 273) dL_menu_259 (by decide) (i32_n _ (by decide)) (i32_n _ (by decide)) (fun _ => ?_) (fun h => absurd h (by decide))
      refine A_iload dL_menu_273 0 rfl ?_
      refine A_iconst dL_menu_275 ?_
      refine J_icmp_ne (tgt := 292) dL_menu_276 (by decide) (i32_n _ (by decide)) (i32_n _ (by decide)) (fun h => absurd h (by decide)) (fun _ => ?_)
      refine A_iconst dL_menu_279 ?_
      refine A_iload dL_menu_280 1 rfl ?_
      refine A_iconst dL_menu_282 ?_
      refine A_ishr dL_menu_283 ?_
      refine A_iconst dL_menu_284 ?_
      refine A_below (by omega) (Nat.le_of_ble_eq_true rfl) (by omega) (by omega) dL_menu_285 ?_
      refine A_iadd dL_menu_288 ?_
      refine A_goto (tgt := 302) dL_menu_289 (by decide) ?_
      refine A_istore (lv2 := [(11, _), (10, _), (9, _), (8, _), (7, _), (6, _), (0, _), (1, _), (2, _), (3, _), (4, _), (5, _)]) dL_menu_302 (by decide) rfl ?_
      have hfi : fiV x = 1 + blV (ishr x 2) 4 := by unfold fiV; rw [if_neg (by omega), if_neg (by omega), if_pos hs]
      rw [← hfi]
      have hfb : 0 ≤ fiV x ∧ fiV x < 1000 := by rw [hfi]; omega
      refine A_iload dL_menu_304 1 rfl ?_
      refine A_if_ne (tgt := 313) dL_menu_306 (by decide) ⟨by decide, by decide⟩ (fun _ => ?_) (fun h => absurd h (by decide))
      refine A_iload dL_menu_313 1 rfl ?_
      refine A_iconst dL_menu_315 ?_
      refine J_icmp_ne (tgt := 336) dL_menu_316 (by decide) (i32_n _ (by decide)) (i32_n _ (by decide)) (fun _ => ?_) (fun h => absurd h (by decide))
      refine A_iconst dL_menu_336 ?_
      refine A_iload dL_menu_337 2 rfl ?_
      refine A_bipush dL_menu_339 (by decide +kernel) ?_
      refine A_ishr dL_menu_341 ?_
      refine A_iconst dL_menu_342 ?_
      refine A_below (by omega) (Nat.le_of_ble_eq_true rfl) (by omega) (by omega) dL_menu_343 ?_
      refine A_iadd dL_menu_346 ?_
      refine A_istore (lv2 := [(12, _), (11, _), (10, _), (9, _), (8, _), (7, _), (6, _), (0, _), (1, _), (2, _), (3, _), (4, _), (5, _)]) dL_menu_347 (by decide) rfl ?_
      have hse : seV x = 1 + blV (ishr x 12) 5 := by unfold seV; rw [if_neg (by omega), if_neg (by omega)]
      rw [← hse]
      have hsb : 0 ≤ seV x ∧ seV x < 3000 := by rw [hse]; omega
      refine A_iload dL_menu_349 3 rfl ?_
      refine A_bipush dL_menu_351 (by decide +kernel) ?_
      refine A_ishr dL_menu_353 ?_
      refine A_iconst dL_menu_354 ?_
      refine A_below (by omega) (Nat.le_of_ble_eq_true rfl) (by omega) (by omega) dL_menu_355 ?_
      refine J_if_ne (tgt := 365) dL_menu_358 (by decide) (by first | exact i32_eq (by assumption) | exact i32_eq ⟨by omega, by omega⟩ | with_reducible exact i32_i32 _ | with_reducible exact i32_eq (b2i_inr _) | rfl) (fun h358 => ?_) (fun h358 => ?_)
      · try rw [i32_n _ (by omega)] at h358
        refine A_iconst dL_menu_365 ?_
        refine A_istore (lv2 := [(13, _), (12, _), (11, _), (10, _), (9, _), (8, _), (7, _), (6, _), (0, _), (1, _), (2, _), (3, _), (4, _), (5, _)]) dL_menu_366 (by decide) rfl ?_
        refine A_iload dL_menu_368 4 rfl ?_
        refine A_bipush dL_menu_370 (by decide +kernel) ?_
        refine A_ishr dL_menu_372 ?_
        refine A_iload_n dL_menu_373 rfl 10 rfl ?_
        refine A_below (by omega) (Nat.le_of_ble_eq_true rfl) (by omega) (by omega) dL_menu_374 ?_
        refine A_istore (lv2 := [(14, _), (13, _), (12, _), (11, _), (10, _), (9, _), (8, _), (7, _), (6, _), (0, _), (1, _), (2, _), (3, _), (4, _), (5, _)]) dL_menu_377 (by decide) rfl ?_
        obtain ⟨j, hj⟩ : ∃ j : Nat, blV (ishr x 17) (D : Int) = (j : Int) := ⟨(blV (ishr x 17) (D : Int)).toNat, by omega⟩
        rw [hj]
        have hj6 : j < 6 := by omega
        have hna : naV D x = some j := by
          unfold naV
          rw [if_neg h358, hj, Int.toNat_natCast]
        refine A_iconst dL_menu_379 ?_
        refine A_newS (N := 4) hX.2.2.2.2.2.2 cl_L_10 (by decide) (by decide) (by decide) (by omega) dL_menu_380 (fun aS cS hKS => ?_)
        refine A_dup dL_menu_383 rfl ?_
        refine A_iconst dL_menu_384 ?_
        refine A_ldcs (i := 32) (by decide +kernel) dL_menu_385 ?_
        refine A_astS (q := 0) rfl hKS (oi_c ⟨by decide, by decide⟩) (i32_n _ (by decide)) (by decide) (by decide) (by decide) dL_menu_387 ?_
        refine A_dup dL_menu_388 rfl ?_
        refine A_iconst dL_menu_389 ?_
        refine A_ldcs (i := 33) (by decide +kernel) dL_menu_390 ?_
        refine A_astS (q := 0) rfl hKS (oi_c ⟨by decide, by decide⟩) (i32_n _ (by decide)) (by decide) (by decide) (by decide) dL_menu_392 ?_
        refine A_dup dL_menu_393 rfl ?_
        refine A_iconst dL_menu_394 ?_
        refine A_ldcs (i := 34) (by decide +kernel) dL_menu_395 ?_
        refine A_astS (q := 0) rfl hKS (oi_c ⟨by decide, by decide⟩) (i32_n _ (by decide)) (by decide) (by decide) (by decide) dL_menu_397 ?_
        refine A_dup dL_menu_398 rfl ?_
        refine A_iconst dL_menu_399 ?_
        refine A_ldcs (i := 35) (by decide +kernel) dL_menu_400 ?_
        refine A_astS (q := 0) rfl hKS (oi_c ⟨by decide, by decide⟩) (i32_n _ (by decide)) (by decide) (by decide) (by decide) dL_menu_402 ?_
        refine A_astore (lv2 := [(15, _), (14, _), (13, _), (12, _), (11, _), (10, _), (9, _), (8, _), (7, _), (6, _), (0, _), (1, _), (2, _), (3, _), (4, _), (5, _)]) dL_menu_403 (by decide) rfl ?_
        refine A_aload dL_menu_405 15 rfl ?_
        refine A_aload dL_menu_407 0 rfl ?_
        refine A_iload dL_menu_409 5 rfl ?_
        refine A_aldS (q := 0) (x := G.2.2.2.1 34) rfl hKS (i32_n _ (by decide)) (by decide) (by decide) (by decide) rfl dL_menu_411 ?_
        refine A_dropx ?_
        refine A_putk (m := 11) (oi_c ⟨by decide, by decide⟩) hk hr (by decide +kernel) (by omega) (Nat.le_of_ble_eq_true rfl) (by omega) (by omega) dL_menu_412 (fun σ1 tx1 hr1 he1 hn1 hq1 => ?_)
        refine A_aload dL_menu_415 15 rfl ?_
        refine A_iload dL_menu_417 4 rfl ?_
        refine A_putn hk hr1 ⟨hfb.1, by omega⟩ (by omega) (Nat.le_of_ble_eq_true rfl) (by omega) (by omega) dL_menu_419 (fun σ2 tx2 hr2 he2 hn2 hq2 => ?_)
        refine A_iload dL_menu_422 5 rfl ?_
        refine A_iconst dL_menu_424 ?_
        refine J_icmp_ge (tgt := 466) dL_menu_425 (by decide) (i32_n _ (by decide)) (i32_n _ (by decide)) (fun h => absurd h (by decide)) (fun _ => ?_)
        refine A_aload dL_menu_428 15 rfl ?_
        refine A_iload dL_menu_430 2 rfl ?_
        refine A_if_eq (tgt := 440) dL_menu_432 (by decide) ⟨by decide, by decide⟩ (fun _ => ?_) (fun h => absurd h (by decide))
        refine A_ldcs (i := 37) (by decide +kernel) dL_menu_440 ?_
        refine A_putk (m := 2) (oi_c ⟨by decide, by decide⟩) hk hr2 (by decide +kernel) (by omega) (Nat.le_of_ble_eq_true rfl) (by omega) (by omega) dL_menu_442 (fun σ3 tx3 hr3 he3 hn3 hq3 => ?_)
        refine A_iload dL_menu_445 2 rfl ?_
        refine A_if_ne (tgt := 466) dL_menu_447 (by decide) ⟨by decide, by decide⟩ (fun h => absurd h (by decide)) (fun _ => ?_)
        refine A_aload dL_menu_450 15 rfl ?_
        refine A_ldcs (i := 25) (by decide +kernel) dL_menu_452 ?_
        refine A_iload dL_menu_454 1 rfl ?_
        refine A_iload dL_menu_456 1 rfl ?_
        refine A_iconst dL_menu_458 ?_
        refine A_iadd dL_menu_459 ?_
        refine A_putL hj6 hX hk hr3 (by omega) (Nat.le_of_ble_eq_true rfl) (by omega) (by omega) dL_menu_460 dL_menu_463 (fun σ4 tx4 hr4 he4 hn4 hq4 => ?_)
        refine A_iload dL_menu_466 5 rfl ?_
        refine A_if_le (tgt := 496) dL_menu_468 (by decide) ⟨by decide, by decide⟩ (fun h => absurd h (by decide)) (fun _ => ?_)
        refine A_aload dL_menu_471 15 rfl ?_
        refine A_iload dL_menu_473 5 rfl ?_
        refine A_iconst dL_menu_475 ?_
        refine J_icmp_ne (tgt := 484) dL_menu_476 (by decide) (i32_n _ (by decide)) (i32_n _ (by decide)) (fun _ => ?_) (fun h => absurd h (by decide))
        refine A_ldcs (i := 39) (by decide +kernel) dL_menu_484 ?_
        refine A_putk (m := 4) (oi_c ⟨by decide, by decide⟩) hk hr4 (by decide +kernel) (by omega) (Nat.le_of_ble_eq_true rfl) (by omega) (by omega) dL_menu_486 (fun σ5 tx5 hr5 he5 hn5 hq5 => ?_)
        refine A_aload dL_menu_489 15 rfl ?_
        refine A_iload dL_menu_491 3 rfl ?_
        refine A_putn hk hr5 ⟨hsb.1, by omega⟩ (by omega) (Nat.le_of_ble_eq_true rfl) (by omega) (by omega) dL_menu_493 (fun σ6 tx6 hr6 he6 hn6 hq6 => ?_)
        refine A_aload dL_menu_496 15 rfl ?_
        refine A_ldcs (i := 30) (by decide +kernel) dL_menu_498 ?_
        refine A_putk (m := 1) (oi_c ⟨by decide, by decide⟩) hk hr6 (by decide +kernel) (by omega) (Nat.le_of_ble_eq_true rfl) (by omega) (by omega) dL_menu_500 (fun σ7 tx7 hr7 he7 hn7 hq7 => ?_)
        refine A_aload dL_menu_503 14 rfl ?_
        refine A_iconst dL_menu_505 ?_
        refine A_iload dL_menu_506 7 rfl ?_
        refine A_imul dL_menu_508 ?_
        refine A_iload dL_menu_509 5 rfl ?_
        refine J_iast h85 (by first | exact i32_eq (by assumption) | exact i32_eq ⟨by omega, by omega⟩ | with_reducible exact i32_i32 _ | with_reducible exact i32_eq (b2i_inr _) | rfl) (by omega) (by omega) (by decide) dL_menu_511 ?_
        refine A_aload dL_menu_512 14 rfl ?_
        refine A_iconst dL_menu_514 ?_
        refine A_iload dL_menu_515 7 rfl ?_
        refine A_imul dL_menu_517 ?_
        refine A_iconst dL_menu_518 ?_
        refine A_iadd dL_menu_519 ?_
        refine A_iload dL_menu_520 4 rfl ?_
        refine J_iast h85 (by first | exact i32_eq (by assumption) | exact i32_eq ⟨by omega, by omega⟩ | with_reducible exact i32_i32 _ | with_reducible exact i32_eq (b2i_inr _) | rfl) (by omega) (by omega) (by decide) dL_menu_522 ?_
        refine A_aload dL_menu_523 14 rfl ?_
        refine A_iconst dL_menu_525 ?_
        refine A_iload dL_menu_526 7 rfl ?_
        refine A_imul dL_menu_528 ?_
        refine A_iconst dL_menu_529 ?_
        refine A_iadd dL_menu_530 ?_
        refine A_iload dL_menu_531 3 rfl ?_
        refine J_iast h85 (by first | exact i32_eq (by assumption) | exact i32_eq ⟨by omega, by omega⟩ | with_reducible exact i32_i32 _ | with_reducible exact i32_eq (b2i_inr _) | rfl) (by omega) (by omega) (by decide) dL_menu_533 ?_
        refine A_aload dL_menu_534 14 rfl ?_
        refine A_iconst dL_menu_536 ?_
        refine A_iload dL_menu_537 7 rfl ?_
        refine A_imul dL_menu_539 ?_
        refine A_iconst dL_menu_540 ?_
        refine A_iadd dL_menu_541 ?_
        refine A_iload dL_menu_542 5 rfl ?_
        refine A_iconst dL_menu_544 ?_
        refine J_icmp_ne (tgt := 552) dL_menu_545 (by decide) (i32_n _ (by decide)) (i32_n _ (by decide)) (fun _ => ?_) (fun h => absurd h (by decide))
        refine A_iload dL_menu_552 2 rfl ?_
        refine A_if_eq (tgt := 562) dL_menu_554 (by decide) ⟨by decide, by decide⟩ (fun _ => ?_) (fun h => absurd h (by decide))
        refine A_iconst dL_menu_562 ?_
        refine A_iload dL_menu_563 1 rfl ?_
        refine A_ishl dL_menu_565 ?_
        refine J_iast h85 (by first | exact i32_eq (by assumption) | exact i32_eq ⟨by omega, by omega⟩ | with_reducible exact i32_i32 _ | with_reducible exact i32_eq (b2i_inr _) | rfl) (by omega) (by omega) (by decide) dL_menu_566 ?_
        refine A_iinc (lv2 := [(8, _), (15, _), (14, _), (13, _), (12, _), (11, _), (10, _), (9, _), (7, _), (6, _), (0, _), (1, _), (2, _), (3, _), (4, _), (5, _)]) dL_menu_567 7 rfl (by decide) rfl ?_
        refine A_goto (tgt := 213) dL_menu_570 (by decide) ?_
        refine A_lv [0, 8, 9, 10, 11, 12, 13, 14, 15] rfl ?_
        rw [show ((k : Int) + 1) = ((k + 1 : Nat) : Int) from by omega]
        obtain ⟨n, rfl⟩ : ∃ q, n = q + 1 := ⟨n - 1, by omega⟩
        refine A_wid (k2 := kk + 3) (n2 := nn + 14) (by omega) (by omega) ?_
        refine ih n (by omega) (k + 1) _ tx7 _ _ (by omega) (row_up (by decide) (row_up (by decide) (row_up (by decide) (row_up (by decide) hr7)))) (by omega) (by omega) (by omega) (fun i hi => ?_) (fun σ' tx' a b c d e => ?_)
        · rw [up_j _ _ (by omega), up_j _ _ (by omega), up_j _ _ (by omega)]
          by_cases ck : i = k
          · subst ck
            rw [show (4 * (i : Int)).toNat = 4 * i from by omega, up_s, hxx, hs]
          · rw [up_j _ _ (by omega), hq7 85 (by decide), hq6 85 (by decide), hq5 85 (by decide), hq4 85 (by decide), hq3 85 (by decide), hq2 85 (by decide), hq1 85 (by decide)]
            exact h0 i (by omega)
        · have K2 := K σ' tx' a (by
            rw [b, he7, he6, he5, he4, he3, he2, he1]
            show _ = tx ++ byL (ruleL (rV D (clV L X (4 + (k : Int)))) ++ flat ((rlF L X D (k + 1) n).map ruleL))
            rw [hxx, by_app, show rV D x = (2, fiV x, seV x, naV D x) from by unfold rV; rw [hs]; rfl, by_rule2, hna]
            simp only [nmT, List.append_assoc]) (by omega) (fun q hq => by rw [d q hq, up_r _ _ _ hq.1, up_r _ _ _ hq.1, up_r _ _ _ hq.1, up_r _ _ _ hq.1, hq7 _ hq.2, hq6 _ hq.2, hq5 _ hq.2, hq4 _ hq.2, hq3 _ hq.2, hq2 _ hq.2, hq1 _ hq.2]) e
          rw [show kk + 3 + 3 * n = kk + 3 * (n + 1) from by omega, show nn + 14 + 14 * n = nn + 14 * (n + 1) from by omega]
          exact K2
      · try rw [i32_n _ (by omega)] at h358
        refine A_iconst dL_menu_361 ?_
        refine A_goto (tgt := 366) dL_menu_362 (by decide) ?_
        refine A_istore (lv2 := [(13, _), (12, _), (11, _), (10, _), (9, _), (8, _), (7, _), (6, _), (0, _), (1, _), (2, _), (3, _), (4, _), (5, _)]) dL_menu_366 (by decide) rfl ?_
        refine A_iload dL_menu_368 4 rfl ?_
        refine A_bipush dL_menu_370 (by decide +kernel) ?_
        refine A_ishr dL_menu_372 ?_
        refine A_iload_n dL_menu_373 rfl 10 rfl ?_
        refine A_below (by omega) (Nat.le_of_ble_eq_true rfl) (by omega) (by omega) dL_menu_374 ?_
        refine A_istore (lv2 := [(14, _), (13, _), (12, _), (11, _), (10, _), (9, _), (8, _), (7, _), (6, _), (0, _), (1, _), (2, _), (3, _), (4, _), (5, _)]) dL_menu_377 (by decide) rfl ?_
        obtain ⟨j, hj⟩ : ∃ j : Nat, blV (ishr x 17) (D : Int) = (j : Int) := ⟨(blV (ishr x 17) (D : Int)).toNat, by omega⟩
        rw [hj]
        have hj6 : j < 6 := by omega
        have hna : naV D x = none := if_pos h358
        refine A_iconst dL_menu_379 ?_
        refine A_newS (N := 4) hX.2.2.2.2.2.2 cl_L_10 (by decide) (by decide) (by decide) (by omega) dL_menu_380 (fun aS cS hKS => ?_)
        refine A_dup dL_menu_383 rfl ?_
        refine A_iconst dL_menu_384 ?_
        refine A_ldcs (i := 32) (by decide +kernel) dL_menu_385 ?_
        refine A_astS (q := 0) rfl hKS (oi_c ⟨by decide, by decide⟩) (i32_n _ (by decide)) (by decide) (by decide) (by decide) dL_menu_387 ?_
        refine A_dup dL_menu_388 rfl ?_
        refine A_iconst dL_menu_389 ?_
        refine A_ldcs (i := 33) (by decide +kernel) dL_menu_390 ?_
        refine A_astS (q := 0) rfl hKS (oi_c ⟨by decide, by decide⟩) (i32_n _ (by decide)) (by decide) (by decide) (by decide) dL_menu_392 ?_
        refine A_dup dL_menu_393 rfl ?_
        refine A_iconst dL_menu_394 ?_
        refine A_ldcs (i := 34) (by decide +kernel) dL_menu_395 ?_
        refine A_astS (q := 0) rfl hKS (oi_c ⟨by decide, by decide⟩) (i32_n _ (by decide)) (by decide) (by decide) (by decide) dL_menu_397 ?_
        refine A_dup dL_menu_398 rfl ?_
        refine A_iconst dL_menu_399 ?_
        refine A_ldcs (i := 35) (by decide +kernel) dL_menu_400 ?_
        refine A_astS (q := 0) rfl hKS (oi_c ⟨by decide, by decide⟩) (i32_n _ (by decide)) (by decide) (by decide) (by decide) dL_menu_402 ?_
        refine A_astore (lv2 := [(15, _), (14, _), (13, _), (12, _), (11, _), (10, _), (9, _), (8, _), (7, _), (6, _), (0, _), (1, _), (2, _), (3, _), (4, _), (5, _)]) dL_menu_403 (by decide) rfl ?_
        refine A_aload dL_menu_405 15 rfl ?_
        refine A_aload dL_menu_407 0 rfl ?_
        refine A_iload dL_menu_409 5 rfl ?_
        refine A_aldS (q := 0) (x := G.2.2.2.1 34) rfl hKS (i32_n _ (by decide)) (by decide) (by decide) (by decide) rfl dL_menu_411 ?_
        refine A_dropx ?_
        refine A_putk (m := 11) (oi_c ⟨by decide, by decide⟩) hk hr (by decide +kernel) (by omega) (Nat.le_of_ble_eq_true rfl) (by omega) (by omega) dL_menu_412 (fun σ1 tx1 hr1 he1 hn1 hq1 => ?_)
        refine A_aload dL_menu_415 15 rfl ?_
        refine A_iload dL_menu_417 4 rfl ?_
        refine A_putn hk hr1 ⟨hfb.1, by omega⟩ (by omega) (Nat.le_of_ble_eq_true rfl) (by omega) (by omega) dL_menu_419 (fun σ2 tx2 hr2 he2 hn2 hq2 => ?_)
        refine A_iload dL_menu_422 5 rfl ?_
        refine A_iconst dL_menu_424 ?_
        refine J_icmp_ge (tgt := 466) dL_menu_425 (by decide) (i32_n _ (by decide)) (i32_n _ (by decide)) (fun h => absurd h (by decide)) (fun _ => ?_)
        refine A_aload dL_menu_428 15 rfl ?_
        refine A_iload dL_menu_430 2 rfl ?_
        refine A_if_eq (tgt := 440) dL_menu_432 (by decide) ⟨by decide, by decide⟩ (fun h => absurd h (by decide)) (fun _ => ?_)
        refine A_ldcs (i := 36) (by decide +kernel) dL_menu_435 ?_
        refine A_goto (tgt := 442) dL_menu_437 (by decide) ?_
        refine A_putk (m := 2) (oi_c ⟨by decide, by decide⟩) hk hr2 (by decide +kernel) (by omega) (Nat.le_of_ble_eq_true rfl) (by omega) (by omega) dL_menu_442 (fun σ3 tx3 hr3 he3 hn3 hq3 => ?_)
        refine A_iload dL_menu_445 2 rfl ?_
        refine A_if_ne (tgt := 466) dL_menu_447 (by decide) ⟨by decide, by decide⟩ (fun _ => ?_) (fun h => absurd h (by decide))
        refine A_iload dL_menu_466 5 rfl ?_
        refine A_if_le (tgt := 496) dL_menu_468 (by decide) ⟨by decide, by decide⟩ (fun h => absurd h (by decide)) (fun _ => ?_)
        refine A_aload dL_menu_471 15 rfl ?_
        refine A_iload dL_menu_473 5 rfl ?_
        refine A_iconst dL_menu_475 ?_
        refine J_icmp_ne (tgt := 484) dL_menu_476 (by decide) (i32_n _ (by decide)) (i32_n _ (by decide)) (fun _ => ?_) (fun h => absurd h (by decide))
        refine A_ldcs (i := 39) (by decide +kernel) dL_menu_484 ?_
        refine A_putk (m := 4) (oi_c ⟨by decide, by decide⟩) hk hr3 (by decide +kernel) (by omega) (Nat.le_of_ble_eq_true rfl) (by omega) (by omega) dL_menu_486 (fun σ4 tx4 hr4 he4 hn4 hq4 => ?_)
        refine A_aload dL_menu_489 15 rfl ?_
        refine A_iload dL_menu_491 3 rfl ?_
        refine A_putn hk hr4 ⟨hsb.1, by omega⟩ (by omega) (Nat.le_of_ble_eq_true rfl) (by omega) (by omega) dL_menu_493 (fun σ5 tx5 hr5 he5 hn5 hq5 => ?_)
        refine A_aload dL_menu_496 15 rfl ?_
        refine A_ldcs (i := 30) (by decide +kernel) dL_menu_498 ?_
        refine A_putk (m := 1) (oi_c ⟨by decide, by decide⟩) hk hr5 (by decide +kernel) (by omega) (Nat.le_of_ble_eq_true rfl) (by omega) (by omega) dL_menu_500 (fun σ6 tx6 hr6 he6 hn6 hq6 => ?_)
        refine A_aload dL_menu_503 14 rfl ?_
        refine A_iconst dL_menu_505 ?_
        refine A_iload dL_menu_506 7 rfl ?_
        refine A_imul dL_menu_508 ?_
        refine A_iload dL_menu_509 5 rfl ?_
        refine J_iast h85 (by first | exact i32_eq (by assumption) | exact i32_eq ⟨by omega, by omega⟩ | with_reducible exact i32_i32 _ | with_reducible exact i32_eq (b2i_inr _) | rfl) (by omega) (by omega) (by decide) dL_menu_511 ?_
        refine A_aload dL_menu_512 14 rfl ?_
        refine A_iconst dL_menu_514 ?_
        refine A_iload dL_menu_515 7 rfl ?_
        refine A_imul dL_menu_517 ?_
        refine A_iconst dL_menu_518 ?_
        refine A_iadd dL_menu_519 ?_
        refine A_iload dL_menu_520 4 rfl ?_
        refine J_iast h85 (by first | exact i32_eq (by assumption) | exact i32_eq ⟨by omega, by omega⟩ | with_reducible exact i32_i32 _ | with_reducible exact i32_eq (b2i_inr _) | rfl) (by omega) (by omega) (by decide) dL_menu_522 ?_
        refine A_aload dL_menu_523 14 rfl ?_
        refine A_iconst dL_menu_525 ?_
        refine A_iload dL_menu_526 7 rfl ?_
        refine A_imul dL_menu_528 ?_
        refine A_iconst dL_menu_529 ?_
        refine A_iadd dL_menu_530 ?_
        refine A_iload dL_menu_531 3 rfl ?_
        refine J_iast h85 (by first | exact i32_eq (by assumption) | exact i32_eq ⟨by omega, by omega⟩ | with_reducible exact i32_i32 _ | with_reducible exact i32_eq (b2i_inr _) | rfl) (by omega) (by omega) (by decide) dL_menu_533 ?_
        refine A_aload dL_menu_534 14 rfl ?_
        refine A_iconst dL_menu_536 ?_
        refine A_iload dL_menu_537 7 rfl ?_
        refine A_imul dL_menu_539 ?_
        refine A_iconst dL_menu_540 ?_
        refine A_iadd dL_menu_541 ?_
        refine A_iload dL_menu_542 5 rfl ?_
        refine A_iconst dL_menu_544 ?_
        refine J_icmp_ne (tgt := 552) dL_menu_545 (by decide) (i32_n _ (by decide)) (i32_n _ (by decide)) (fun _ => ?_) (fun h => absurd h (by decide))
        refine A_iload dL_menu_552 2 rfl ?_
        refine A_if_eq (tgt := 562) dL_menu_554 (by decide) ⟨by decide, by decide⟩ (fun h => absurd h (by decide)) (fun _ => ?_)
        refine A_iload dL_menu_557 9 rfl ?_
        refine A_goto (tgt := 566) dL_menu_559 (by decide) ?_
        refine J_iast h85 (by first | exact i32_eq (by assumption) | exact i32_eq ⟨by omega, by omega⟩ | with_reducible exact i32_i32 _ | with_reducible exact i32_eq (b2i_inr _) | rfl) (by omega) (by omega) (by decide) dL_menu_566 ?_
        refine A_iinc (lv2 := [(8, _), (15, _), (14, _), (13, _), (12, _), (11, _), (10, _), (9, _), (7, _), (6, _), (0, _), (1, _), (2, _), (3, _), (4, _), (5, _)]) dL_menu_567 7 rfl (by decide) rfl ?_
        refine A_goto (tgt := 213) dL_menu_570 (by decide) ?_
        refine A_lv [0, 8, 9, 10, 11, 12, 13, 14, 15] rfl ?_
        rw [show ((k : Int) + 1) = ((k + 1 : Nat) : Int) from by omega]
        obtain ⟨n, rfl⟩ : ∃ q, n = q + 1 := ⟨n - 1, by omega⟩
        refine A_wid (k2 := kk + 3) (n2 := nn + 14) (by omega) (by omega) ?_
        refine ih n (by omega) (k + 1) _ tx6 _ _ (by omega) (row_up (by decide) (row_up (by decide) (row_up (by decide) (row_up (by decide) hr6)))) (by omega) (by omega) (by omega) (fun i hi => ?_) (fun σ' tx' a b c d e => ?_)
        · rw [up_j _ _ (by omega), up_j _ _ (by omega), up_j _ _ (by omega)]
          by_cases ck : i = k
          · subst ck
            rw [show (4 * (i : Int)).toNat = 4 * i from by omega, up_s, hxx, hs]
          · rw [up_j _ _ (by omega), hq6 85 (by decide), hq5 85 (by decide), hq4 85 (by decide), hq3 85 (by decide), hq2 85 (by decide), hq1 85 (by decide)]
            exact h0 i (by omega)
        · have K2 := K σ' tx' a (by
            rw [b, he6, he5, he4, he3, he2, he1]
            show _ = tx ++ byL (ruleL (rV D (clV L X (4 + (k : Int)))) ++ flat ((rlF L X D (k + 1) n).map ruleL))
            rw [hxx, by_app, show rV D x = (2, fiV x, seV x, naV D x) from by unfold rV; rw [hs]; rfl, by_rule2, hna]
            simp only [nmT, List.append_assoc]) (by omega) (fun q hq => by rw [d q hq, up_r _ _ _ hq.1, up_r _ _ _ hq.1, up_r _ _ _ hq.1, up_r _ _ _ hq.1, hq6 _ hq.2, hq5 _ hq.2, hq4 _ hq.2, hq3 _ hq.2, hq2 _ hq.2, hq1 _ hq.2]) e
          rw [show kk + 3 + 3 * n = kk + 3 * (n + 1) from by omega, show nn + 14 + 14 * n = nn + 14 * (n + 1) from by omega]
          exact K2
    · rw [hs]
      refine A_iload dL_menu_238 0 rfl ?_
      refine A_if_ne (tgt := 256) dL_menu_240 (by decide) ⟨by decide, by decide⟩ (fun _ => ?_) (fun h => absurd h (by decide))
      refine A_iload dL_menu_256 0 rfl ?_
      refine A_iconst dL_menu_258 ?_
      refine J_icmp_ne (tgt := 273) dL_menu_259 (by decide) (i32_n _ (by decide)) (i32_n _ (by decide)) (fun _ => ?_) (fun h => absurd h (by decide))
      refine A_iload dL_menu_273 0 rfl ?_
      refine A_iconst dL_menu_275 ?_
      refine J_icmp_ne (tgt := 292) dL_menu_276 (by decide) (i32_n _ (by decide)) (i32_n _ (by decide)) (fun _ => ?_) (fun h => absurd h (by decide))
      refine A_iload dL_menu_292 1 rfl ?_
      refine A_iconst dL_menu_294 ?_
      refine A_ishr dL_menu_295 ?_
      refine A_sipush dL_menu_296 (by decide +kernel) ?_
      refine A_below (by omega) (Nat.le_of_ble_eq_true rfl) (by omega) (by omega) dL_menu_299 ?_
      refine A_istore (lv2 := [(11, _), (10, _), (9, _), (8, _), (7, _), (6, _), (0, _), (1, _), (2, _), (3, _), (4, _), (5, _)]) dL_menu_302 (by decide) rfl ?_
      have hfi : fiV x = blV (ishr x 2) 900 := by unfold fiV; rw [if_neg (by omega), if_neg (by omega), if_neg (by omega)]
      rw [← hfi]
      have hfb : 0 ≤ fiV x ∧ fiV x < 1000 := by rw [hfi]; omega
      refine A_iload dL_menu_304 1 rfl ?_
      refine A_if_ne (tgt := 313) dL_menu_306 (by decide) ⟨by decide, by decide⟩ (fun _ => ?_) (fun h => absurd h (by decide))
      refine A_iload dL_menu_313 1 rfl ?_
      refine A_iconst dL_menu_315 ?_
      refine J_icmp_ne (tgt := 336) dL_menu_316 (by decide) (i32_n _ (by decide)) (i32_n _ (by decide)) (fun h => absurd h (by decide)) (fun _ => ?_)
      refine A_iload dL_menu_319 0 rfl ?_
      refine A_iload dL_menu_321 2 rfl ?_
      refine A_bipush dL_menu_323 (by decide +kernel) ?_
      refine A_ishr dL_menu_325 ?_
      refine A_sipush dL_menu_326 (by decide +kernel) ?_
      refine A_below (by omega) (Nat.le_of_ble_eq_true rfl) (by omega) (by omega) dL_menu_329 ?_
      refine A_iadd dL_menu_332 ?_
      refine A_goto (tgt := 347) dL_menu_333 (by decide) ?_
      refine A_istore (lv2 := [(12, _), (11, _), (10, _), (9, _), (8, _), (7, _), (6, _), (0, _), (1, _), (2, _), (3, _), (4, _), (5, _)]) dL_menu_347 (by decide) rfl ?_
      have hse : seV x = fiV x + blV (ishr x 12) 900 := by unfold seV; rw [if_neg (by omega), if_pos hs]
      rw [← hse]
      have hsb : 0 ≤ seV x ∧ seV x < 3000 := by rw [hse]; omega
      refine A_iload dL_menu_349 3 rfl ?_
      refine A_bipush dL_menu_351 (by decide +kernel) ?_
      refine A_ishr dL_menu_353 ?_
      refine A_iconst dL_menu_354 ?_
      refine A_below (by omega) (Nat.le_of_ble_eq_true rfl) (by omega) (by omega) dL_menu_355 ?_
      refine J_if_ne (tgt := 365) dL_menu_358 (by decide) (by first | exact i32_eq (by assumption) | exact i32_eq ⟨by omega, by omega⟩ | with_reducible exact i32_i32 _ | with_reducible exact i32_eq (b2i_inr _) | rfl) (fun h358 => ?_) (fun h358 => ?_)
      · try rw [i32_n _ (by omega)] at h358
        refine A_iconst dL_menu_365 ?_
        refine A_istore (lv2 := [(13, _), (12, _), (11, _), (10, _), (9, _), (8, _), (7, _), (6, _), (0, _), (1, _), (2, _), (3, _), (4, _), (5, _)]) dL_menu_366 (by decide) rfl ?_
        refine A_iload dL_menu_368 4 rfl ?_
        refine A_bipush dL_menu_370 (by decide +kernel) ?_
        refine A_ishr dL_menu_372 ?_
        refine A_iload_n dL_menu_373 rfl 10 rfl ?_
        refine A_below (by omega) (Nat.le_of_ble_eq_true rfl) (by omega) (by omega) dL_menu_374 ?_
        refine A_istore (lv2 := [(14, _), (13, _), (12, _), (11, _), (10, _), (9, _), (8, _), (7, _), (6, _), (0, _), (1, _), (2, _), (3, _), (4, _), (5, _)]) dL_menu_377 (by decide) rfl ?_
        obtain ⟨j, hj⟩ : ∃ j : Nat, blV (ishr x 17) (D : Int) = (j : Int) := ⟨(blV (ishr x 17) (D : Int)).toNat, by omega⟩
        rw [hj]
        have hj6 : j < 6 := by omega
        have hna : naV D x = some j := by
          unfold naV
          rw [if_neg h358, hj, Int.toNat_natCast]
        refine A_iconst dL_menu_379 ?_
        refine A_newS (N := 4) hX.2.2.2.2.2.2 cl_L_10 (by decide) (by decide) (by decide) (by omega) dL_menu_380 (fun aS cS hKS => ?_)
        refine A_dup dL_menu_383 rfl ?_
        refine A_iconst dL_menu_384 ?_
        refine A_ldcs (i := 32) (by decide +kernel) dL_menu_385 ?_
        refine A_astS (q := 0) rfl hKS (oi_c ⟨by decide, by decide⟩) (i32_n _ (by decide)) (by decide) (by decide) (by decide) dL_menu_387 ?_
        refine A_dup dL_menu_388 rfl ?_
        refine A_iconst dL_menu_389 ?_
        refine A_ldcs (i := 33) (by decide +kernel) dL_menu_390 ?_
        refine A_astS (q := 0) rfl hKS (oi_c ⟨by decide, by decide⟩) (i32_n _ (by decide)) (by decide) (by decide) (by decide) dL_menu_392 ?_
        refine A_dup dL_menu_393 rfl ?_
        refine A_iconst dL_menu_394 ?_
        refine A_ldcs (i := 34) (by decide +kernel) dL_menu_395 ?_
        refine A_astS (q := 0) rfl hKS (oi_c ⟨by decide, by decide⟩) (i32_n _ (by decide)) (by decide) (by decide) (by decide) dL_menu_397 ?_
        refine A_dup dL_menu_398 rfl ?_
        refine A_iconst dL_menu_399 ?_
        refine A_ldcs (i := 35) (by decide +kernel) dL_menu_400 ?_
        refine A_astS (q := 0) rfl hKS (oi_c ⟨by decide, by decide⟩) (i32_n _ (by decide)) (by decide) (by decide) (by decide) dL_menu_402 ?_
        refine A_astore (lv2 := [(15, _), (14, _), (13, _), (12, _), (11, _), (10, _), (9, _), (8, _), (7, _), (6, _), (0, _), (1, _), (2, _), (3, _), (4, _), (5, _)]) dL_menu_403 (by decide) rfl ?_
        refine A_aload dL_menu_405 15 rfl ?_
        refine A_aload dL_menu_407 0 rfl ?_
        refine A_iload dL_menu_409 5 rfl ?_
        refine A_aldS (q := 0) (x := G.2.2.2.1 35) rfl hKS (i32_n _ (by decide)) (by decide) (by decide) (by decide) rfl dL_menu_411 ?_
        refine A_dropx ?_
        refine A_putk (m := 12) (oi_c ⟨by decide, by decide⟩) hk hr (by decide +kernel) (by omega) (Nat.le_of_ble_eq_true rfl) (by omega) (by omega) dL_menu_412 (fun σ1 tx1 hr1 he1 hn1 hq1 => ?_)
        refine A_aload dL_menu_415 15 rfl ?_
        refine A_iload dL_menu_417 4 rfl ?_
        refine A_putn hk hr1 ⟨hfb.1, by omega⟩ (by omega) (Nat.le_of_ble_eq_true rfl) (by omega) (by omega) dL_menu_419 (fun σ2 tx2 hr2 he2 hn2 hq2 => ?_)
        refine A_iload dL_menu_422 5 rfl ?_
        refine A_iconst dL_menu_424 ?_
        refine J_icmp_ge (tgt := 466) dL_menu_425 (by decide) (i32_n _ (by decide)) (i32_n _ (by decide)) (fun _ => ?_) (fun h => absurd h (by decide))
        refine A_iload dL_menu_466 5 rfl ?_
        refine A_if_le (tgt := 496) dL_menu_468 (by decide) ⟨by decide, by decide⟩ (fun h => absurd h (by decide)) (fun _ => ?_)
        refine A_aload dL_menu_471 15 rfl ?_
        refine A_iload dL_menu_473 5 rfl ?_
        refine A_iconst dL_menu_475 ?_
        refine J_icmp_ne (tgt := 484) dL_menu_476 (by decide) (i32_n _ (by decide)) (i32_n _ (by decide)) (fun h => absurd h (by decide)) (fun _ => ?_)
        refine A_ldcs (i := 38) (by decide +kernel) dL_menu_479 ?_
        refine A_goto (tgt := 486) dL_menu_481 (by decide) ?_
        refine A_putk (m := 4) (oi_c ⟨by decide, by decide⟩) hk hr2 (by decide +kernel) (by omega) (Nat.le_of_ble_eq_true rfl) (by omega) (by omega) dL_menu_486 (fun σ3 tx3 hr3 he3 hn3 hq3 => ?_)
        refine A_aload dL_menu_489 15 rfl ?_
        refine A_iload dL_menu_491 3 rfl ?_
        refine A_putn hk hr3 ⟨hsb.1, by omega⟩ (by omega) (Nat.le_of_ble_eq_true rfl) (by omega) (by omega) dL_menu_493 (fun σ4 tx4 hr4 he4 hn4 hq4 => ?_)
        refine A_aload dL_menu_496 15 rfl ?_
        refine A_ldcs (i := 30) (by decide +kernel) dL_menu_498 ?_
        refine A_putk (m := 1) (oi_c ⟨by decide, by decide⟩) hk hr4 (by decide +kernel) (by omega) (Nat.le_of_ble_eq_true rfl) (by omega) (by omega) dL_menu_500 (fun σ5 tx5 hr5 he5 hn5 hq5 => ?_)
        refine A_aload dL_menu_503 14 rfl ?_
        refine A_iconst dL_menu_505 ?_
        refine A_iload dL_menu_506 7 rfl ?_
        refine A_imul dL_menu_508 ?_
        refine A_iload dL_menu_509 5 rfl ?_
        refine J_iast h85 (by first | exact i32_eq (by assumption) | exact i32_eq ⟨by omega, by omega⟩ | with_reducible exact i32_i32 _ | with_reducible exact i32_eq (b2i_inr _) | rfl) (by omega) (by omega) (by decide) dL_menu_511 ?_
        refine A_aload dL_menu_512 14 rfl ?_
        refine A_iconst dL_menu_514 ?_
        refine A_iload dL_menu_515 7 rfl ?_
        refine A_imul dL_menu_517 ?_
        refine A_iconst dL_menu_518 ?_
        refine A_iadd dL_menu_519 ?_
        refine A_iload dL_menu_520 4 rfl ?_
        refine J_iast h85 (by first | exact i32_eq (by assumption) | exact i32_eq ⟨by omega, by omega⟩ | with_reducible exact i32_i32 _ | with_reducible exact i32_eq (b2i_inr _) | rfl) (by omega) (by omega) (by decide) dL_menu_522 ?_
        refine A_aload dL_menu_523 14 rfl ?_
        refine A_iconst dL_menu_525 ?_
        refine A_iload dL_menu_526 7 rfl ?_
        refine A_imul dL_menu_528 ?_
        refine A_iconst dL_menu_529 ?_
        refine A_iadd dL_menu_530 ?_
        refine A_iload dL_menu_531 3 rfl ?_
        refine J_iast h85 (by first | exact i32_eq (by assumption) | exact i32_eq ⟨by omega, by omega⟩ | with_reducible exact i32_i32 _ | with_reducible exact i32_eq (b2i_inr _) | rfl) (by omega) (by omega) (by decide) dL_menu_533 ?_
        refine A_aload dL_menu_534 14 rfl ?_
        refine A_iconst dL_menu_536 ?_
        refine A_iload dL_menu_537 7 rfl ?_
        refine A_imul dL_menu_539 ?_
        refine A_iconst dL_menu_540 ?_
        refine A_iadd dL_menu_541 ?_
        refine A_iload dL_menu_542 5 rfl ?_
        refine A_iconst dL_menu_544 ?_
        refine J_icmp_ne (tgt := 552) dL_menu_545 (by decide) (i32_n _ (by decide)) (i32_n _ (by decide)) (fun h => absurd h (by decide)) (fun _ => ?_)
        refine A_iconst dL_menu_548 ?_
        refine A_goto (tgt := 566) dL_menu_549 (by decide) ?_
        refine J_iast h85 (by first | exact i32_eq (by assumption) | exact i32_eq ⟨by omega, by omega⟩ | with_reducible exact i32_i32 _ | with_reducible exact i32_eq (b2i_inr _) | rfl) (by omega) (by omega) (by decide) dL_menu_566 ?_
        refine A_iinc (lv2 := [(8, _), (15, _), (14, _), (13, _), (12, _), (11, _), (10, _), (9, _), (7, _), (6, _), (0, _), (1, _), (2, _), (3, _), (4, _), (5, _)]) dL_menu_567 7 rfl (by decide) rfl ?_
        refine A_goto (tgt := 213) dL_menu_570 (by decide) ?_
        refine A_lv [0, 8, 9, 10, 11, 12, 13, 14, 15] rfl ?_
        rw [show ((k : Int) + 1) = ((k + 1 : Nat) : Int) from by omega]
        obtain ⟨n, rfl⟩ : ∃ q, n = q + 1 := ⟨n - 1, by omega⟩
        refine A_wid (k2 := kk + 3) (n2 := nn + 14) (by omega) (by omega) ?_
        refine ih n (by omega) (k + 1) _ tx5 _ _ (by omega) (row_up (by decide) (row_up (by decide) (row_up (by decide) (row_up (by decide) hr5)))) (by omega) (by omega) (by omega) (fun i hi => ?_) (fun σ' tx' a b c d e => ?_)
        · rw [up_j _ _ (by omega), up_j _ _ (by omega), up_j _ _ (by omega)]
          by_cases ck : i = k
          · subst ck
            rw [show (4 * (i : Int)).toNat = 4 * i from by omega, up_s, hxx, hs]
          · rw [up_j _ _ (by omega), hq5 85 (by decide), hq4 85 (by decide), hq3 85 (by decide), hq2 85 (by decide), hq1 85 (by decide)]
            exact h0 i (by omega)
        · have K2 := K σ' tx' a (by
            rw [b, he5, he4, he3, he2, he1]
            show _ = tx ++ byL (ruleL (rV D (clV L X (4 + (k : Int)))) ++ flat ((rlF L X D (k + 1) n).map ruleL))
            rw [hxx, by_app, show rV D x = (3, fiV x, seV x, naV D x) from by unfold rV; rw [hs]; rfl, by_rule3]
            simp only [nmT, List.append_assoc]) (by omega) (fun q hq => by rw [d q hq, up_r _ _ _ hq.1, up_r _ _ _ hq.1, up_r _ _ _ hq.1, up_r _ _ _ hq.1, hq5 _ hq.2, hq4 _ hq.2, hq3 _ hq.2, hq2 _ hq.2, hq1 _ hq.2]) e
          rw [show kk + 3 + 3 * n = kk + 3 * (n + 1) from by omega, show nn + 14 + 14 * n = nn + 14 * (n + 1) from by omega]
          exact K2
      · try rw [i32_n _ (by omega)] at h358
        refine A_iconst dL_menu_361 ?_
        refine A_goto (tgt := 366) dL_menu_362 (by decide) ?_
        refine A_istore (lv2 := [(13, _), (12, _), (11, _), (10, _), (9, _), (8, _), (7, _), (6, _), (0, _), (1, _), (2, _), (3, _), (4, _), (5, _)]) dL_menu_366 (by decide) rfl ?_
        refine A_iload dL_menu_368 4 rfl ?_
        refine A_bipush dL_menu_370 (by decide +kernel) ?_
        refine A_ishr dL_menu_372 ?_
        refine A_iload_n dL_menu_373 rfl 10 rfl ?_
        refine A_below (by omega) (Nat.le_of_ble_eq_true rfl) (by omega) (by omega) dL_menu_374 ?_
        refine A_istore (lv2 := [(14, _), (13, _), (12, _), (11, _), (10, _), (9, _), (8, _), (7, _), (6, _), (0, _), (1, _), (2, _), (3, _), (4, _), (5, _)]) dL_menu_377 (by decide) rfl ?_
        obtain ⟨j, hj⟩ : ∃ j : Nat, blV (ishr x 17) (D : Int) = (j : Int) := ⟨(blV (ishr x 17) (D : Int)).toNat, by omega⟩
        rw [hj]
        have hj6 : j < 6 := by omega
        have hna : naV D x = none := if_pos h358
        refine A_iconst dL_menu_379 ?_
        refine A_newS (N := 4) hX.2.2.2.2.2.2 cl_L_10 (by decide) (by decide) (by decide) (by omega) dL_menu_380 (fun aS cS hKS => ?_)
        refine A_dup dL_menu_383 rfl ?_
        refine A_iconst dL_menu_384 ?_
        refine A_ldcs (i := 32) (by decide +kernel) dL_menu_385 ?_
        refine A_astS (q := 0) rfl hKS (oi_c ⟨by decide, by decide⟩) (i32_n _ (by decide)) (by decide) (by decide) (by decide) dL_menu_387 ?_
        refine A_dup dL_menu_388 rfl ?_
        refine A_iconst dL_menu_389 ?_
        refine A_ldcs (i := 33) (by decide +kernel) dL_menu_390 ?_
        refine A_astS (q := 0) rfl hKS (oi_c ⟨by decide, by decide⟩) (i32_n _ (by decide)) (by decide) (by decide) (by decide) dL_menu_392 ?_
        refine A_dup dL_menu_393 rfl ?_
        refine A_iconst dL_menu_394 ?_
        refine A_ldcs (i := 34) (by decide +kernel) dL_menu_395 ?_
        refine A_astS (q := 0) rfl hKS (oi_c ⟨by decide, by decide⟩) (i32_n _ (by decide)) (by decide) (by decide) (by decide) dL_menu_397 ?_
        refine A_dup dL_menu_398 rfl ?_
        refine A_iconst dL_menu_399 ?_
        refine A_ldcs (i := 35) (by decide +kernel) dL_menu_400 ?_
        refine A_astS (q := 0) rfl hKS (oi_c ⟨by decide, by decide⟩) (i32_n _ (by decide)) (by decide) (by decide) (by decide) dL_menu_402 ?_
        refine A_astore (lv2 := [(15, _), (14, _), (13, _), (12, _), (11, _), (10, _), (9, _), (8, _), (7, _), (6, _), (0, _), (1, _), (2, _), (3, _), (4, _), (5, _)]) dL_menu_403 (by decide) rfl ?_
        refine A_aload dL_menu_405 15 rfl ?_
        refine A_aload dL_menu_407 0 rfl ?_
        refine A_iload dL_menu_409 5 rfl ?_
        refine A_aldS (q := 0) (x := G.2.2.2.1 35) rfl hKS (i32_n _ (by decide)) (by decide) (by decide) (by decide) rfl dL_menu_411 ?_
        refine A_dropx ?_
        refine A_putk (m := 12) (oi_c ⟨by decide, by decide⟩) hk hr (by decide +kernel) (by omega) (Nat.le_of_ble_eq_true rfl) (by omega) (by omega) dL_menu_412 (fun σ1 tx1 hr1 he1 hn1 hq1 => ?_)
        refine A_aload dL_menu_415 15 rfl ?_
        refine A_iload dL_menu_417 4 rfl ?_
        refine A_putn hk hr1 ⟨hfb.1, by omega⟩ (by omega) (Nat.le_of_ble_eq_true rfl) (by omega) (by omega) dL_menu_419 (fun σ2 tx2 hr2 he2 hn2 hq2 => ?_)
        refine A_iload dL_menu_422 5 rfl ?_
        refine A_iconst dL_menu_424 ?_
        refine J_icmp_ge (tgt := 466) dL_menu_425 (by decide) (i32_n _ (by decide)) (i32_n _ (by decide)) (fun _ => ?_) (fun h => absurd h (by decide))
        refine A_iload dL_menu_466 5 rfl ?_
        refine A_if_le (tgt := 496) dL_menu_468 (by decide) ⟨by decide, by decide⟩ (fun h => absurd h (by decide)) (fun _ => ?_)
        refine A_aload dL_menu_471 15 rfl ?_
        refine A_iload dL_menu_473 5 rfl ?_
        refine A_iconst dL_menu_475 ?_
        refine J_icmp_ne (tgt := 484) dL_menu_476 (by decide) (i32_n _ (by decide)) (i32_n _ (by decide)) (fun h => absurd h (by decide)) (fun _ => ?_)
        refine A_ldcs (i := 38) (by decide +kernel) dL_menu_479 ?_
        refine A_goto (tgt := 486) dL_menu_481 (by decide) ?_
        refine A_putk (m := 4) (oi_c ⟨by decide, by decide⟩) hk hr2 (by decide +kernel) (by omega) (Nat.le_of_ble_eq_true rfl) (by omega) (by omega) dL_menu_486 (fun σ3 tx3 hr3 he3 hn3 hq3 => ?_)
        refine A_aload dL_menu_489 15 rfl ?_
        refine A_iload dL_menu_491 3 rfl ?_
        refine A_putn hk hr3 ⟨hsb.1, by omega⟩ (by omega) (Nat.le_of_ble_eq_true rfl) (by omega) (by omega) dL_menu_493 (fun σ4 tx4 hr4 he4 hn4 hq4 => ?_)
        refine A_aload dL_menu_496 15 rfl ?_
        refine A_ldcs (i := 30) (by decide +kernel) dL_menu_498 ?_
        refine A_putk (m := 1) (oi_c ⟨by decide, by decide⟩) hk hr4 (by decide +kernel) (by omega) (Nat.le_of_ble_eq_true rfl) (by omega) (by omega) dL_menu_500 (fun σ5 tx5 hr5 he5 hn5 hq5 => ?_)
        refine A_aload dL_menu_503 14 rfl ?_
        refine A_iconst dL_menu_505 ?_
        refine A_iload dL_menu_506 7 rfl ?_
        refine A_imul dL_menu_508 ?_
        refine A_iload dL_menu_509 5 rfl ?_
        refine J_iast h85 (by first | exact i32_eq (by assumption) | exact i32_eq ⟨by omega, by omega⟩ | with_reducible exact i32_i32 _ | with_reducible exact i32_eq (b2i_inr _) | rfl) (by omega) (by omega) (by decide) dL_menu_511 ?_
        refine A_aload dL_menu_512 14 rfl ?_
        refine A_iconst dL_menu_514 ?_
        refine A_iload dL_menu_515 7 rfl ?_
        refine A_imul dL_menu_517 ?_
        refine A_iconst dL_menu_518 ?_
        refine A_iadd dL_menu_519 ?_
        refine A_iload dL_menu_520 4 rfl ?_
        refine J_iast h85 (by first | exact i32_eq (by assumption) | exact i32_eq ⟨by omega, by omega⟩ | with_reducible exact i32_i32 _ | with_reducible exact i32_eq (b2i_inr _) | rfl) (by omega) (by omega) (by decide) dL_menu_522 ?_
        refine A_aload dL_menu_523 14 rfl ?_
        refine A_iconst dL_menu_525 ?_
        refine A_iload dL_menu_526 7 rfl ?_
        refine A_imul dL_menu_528 ?_
        refine A_iconst dL_menu_529 ?_
        refine A_iadd dL_menu_530 ?_
        refine A_iload dL_menu_531 3 rfl ?_
        refine J_iast h85 (by first | exact i32_eq (by assumption) | exact i32_eq ⟨by omega, by omega⟩ | with_reducible exact i32_i32 _ | with_reducible exact i32_eq (b2i_inr _) | rfl) (by omega) (by omega) (by decide) dL_menu_533 ?_
        refine A_aload dL_menu_534 14 rfl ?_
        refine A_iconst dL_menu_536 ?_
        refine A_iload dL_menu_537 7 rfl ?_
        refine A_imul dL_menu_539 ?_
        refine A_iconst dL_menu_540 ?_
        refine A_iadd dL_menu_541 ?_
        refine A_iload dL_menu_542 5 rfl ?_
        refine A_iconst dL_menu_544 ?_
        refine J_icmp_ne (tgt := 552) dL_menu_545 (by decide) (i32_n _ (by decide)) (i32_n _ (by decide)) (fun h => absurd h (by decide)) (fun _ => ?_)
        refine A_iconst dL_menu_548 ?_
        refine A_goto (tgt := 566) dL_menu_549 (by decide) ?_
        refine J_iast h85 (by first | exact i32_eq (by assumption) | exact i32_eq ⟨by omega, by omega⟩ | with_reducible exact i32_i32 _ | with_reducible exact i32_eq (b2i_inr _) | rfl) (by omega) (by omega) (by decide) dL_menu_566 ?_
        refine A_iinc (lv2 := [(8, _), (15, _), (14, _), (13, _), (12, _), (11, _), (10, _), (9, _), (7, _), (6, _), (0, _), (1, _), (2, _), (3, _), (4, _), (5, _)]) dL_menu_567 7 rfl (by decide) rfl ?_
        refine A_goto (tgt := 213) dL_menu_570 (by decide) ?_
        refine A_lv [0, 8, 9, 10, 11, 12, 13, 14, 15] rfl ?_
        rw [show ((k : Int) + 1) = ((k + 1 : Nat) : Int) from by omega]
        obtain ⟨n, rfl⟩ : ∃ q, n = q + 1 := ⟨n - 1, by omega⟩
        refine A_wid (k2 := kk + 3) (n2 := nn + 14) (by omega) (by omega) ?_
        refine ih n (by omega) (k + 1) _ tx5 _ _ (by omega) (row_up (by decide) (row_up (by decide) (row_up (by decide) (row_up (by decide) hr5)))) (by omega) (by omega) (by omega) (fun i hi => ?_) (fun σ' tx' a b c d e => ?_)
        · rw [up_j _ _ (by omega), up_j _ _ (by omega), up_j _ _ (by omega)]
          by_cases ck : i = k
          · subst ck
            rw [show (4 * (i : Int)).toNat = 4 * i from by omega, up_s, hxx, hs]
          · rw [up_j _ _ (by omega), hq5 85 (by decide), hq4 85 (by decide), hq3 85 (by decide), hq2 85 (by decide), hq1 85 (by decide)]
            exact h0 i (by omega)
        · have K2 := K σ' tx' a (by
            rw [b, he5, he4, he3, he2, he1]
            show _ = tx ++ byL (ruleL (rV D (clV L X (4 + (k : Int)))) ++ flat ((rlF L X D (k + 1) n).map ruleL))
            rw [hxx, by_app, show rV D x = (3, fiV x, seV x, naV D x) from by unfold rV; rw [hs]; rfl, by_rule3]
            simp only [nmT, List.append_assoc]) (by omega) (fun q hq => by rw [d q hq, up_r _ _ _ hq.1, up_r _ _ _ hq.1, up_r _ _ _ hq.1, up_r _ _ _ hq.1, hq5 _ hq.2, hq4 _ hq.2, hq3 _ hq.2, hq2 _ hq.2, hq1 _ hq.2]) e
          rw [show kk + 3 + 3 * n = kk + 3 * (n + 1) from by omega, show nn + 14 + 14 * n = nn + 14 * (n + 1) from by omega]
          exact K2
end S79j
