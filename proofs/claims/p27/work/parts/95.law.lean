/-! the law's loop over four plans -/
section S95
variable {l : Launch} {G : Gx} {f : Fm} {Q : State → Prop} {bA L aK aV : Nat} {X : Nat → Int32}
set_option maxRecDepth 100000 in
set_option maxHeartbeats 4000000 in
theorem w_lawT (hlt : l.stackTraces = false) (hX : Scr f bA L X aK aV) (hL : L ≤ 2147483647) (h85 : (lkG G)[85]? = some (.inr (1, 24, 0))) {D many : Nat} (hD : 2 ≤ D ∧ D ≤ 6) (hm5 : many ≤ 5) {so : Nat → Int} (hso : ∀ i, 0 ≤ so i ∧ so i < 4) (K : ∀ (kk nn : Nat) (lv : List (Nat × Value)) (σ : Sg), kk ≤ 600086 → nn ≤ 7301442 → AW l G f (RL, cL_law, 16, some .boolean) (60, 600086, 7301442) Q [] kk nn 428 lv [] σ) : ∀ (n t : Nat) (σ y : Sg) (kk nn : Nat), t + n = 4 → Rel σ y → JT D many so y → (∀ i, i < many → σ 85 (4 * i) = so i) → kk + 47 * n ≤ 600086 → nn + 282 * n ≤ 7301442 → AW l G f (RL, cL_law, 16, some .boolean) (60, 600086, 7301442) Q [] kk nn 52 [(6, .int (I32 (t : Int))), (1, .ref (lay G 0)), (0, .ref bA), (2, .int (I32 (D : Int))), (3, .ref (lay G 84)), (4, .ref (lay G 85)), (5, .int (I32 (many : Int)))] [] σ := by
  intro n
  induction n using Nat.strongRecOn with | _ n ih =>
  intro t σ y kk nn hn h hj hs hk1 hk2
  refine A_iload dL_law_52 0 rfl ?_
  refine A_iconst dL_law_54 ?_
  refine J_icmp_ge (tgt := 428) dL_law_55 (by decide) (by first | with_reducible exact iand_i32 _ _ | exact i32_eq ⟨by omega, by omega⟩ | with_reducible exact i32_i32 _ | rfl) (by first | with_reducible exact iand_i32 _ _ | exact i32_eq ⟨by omega, by omega⟩ | with_reducible exact i32_i32 _ | rfl) (fun h55 => ?_) (fun h55 => ?_)
  · exact K _ _ _ _ (by omega) (by omega)
  · refine A_iconst dL_law_58 ?_
    refine A_aload_n dL_law_59 rfl 2 rfl ?_
    refine A_bipush dL_law_60 (by decide +kernel) ?_
    refine A_cell hX hL ⟨by omega, by omega⟩ (Nat.le_of_ble_eq_true rfl) (by omega) (by omega) dL_law_62 ?_
    refine A_iconst dL_law_65 ?_
    refine A_iload dL_law_66 0 rfl ?_
    refine A_imul dL_law_68 ?_
    refine A_ishr dL_law_69 ?_
    refine A_bipush dL_law_70 (by decide +kernel) ?_
    refine A_below (by omega) (Nat.le_of_ble_eq_true rfl) (by omega) (by omega) dL_law_72 ?_
    refine A_iadd dL_law_75 ?_
    have hdb := blV_bd (ishr (clV L X 9) (3 * (t : Int))) (n := 8) (by decide)
    obtain ⟨days, hdays⟩ : ∃ days : Nat, 1 + blV (ishr (clV L X 9) (3 * (t : Int))) 8 = (days : Int) := ⟨(1 + blV (ishr (clV L X 9) (3 * (t : Int))) 8).toNat, by omega⟩
    rw [hdays]
    have hd1 : 1 ≤ days ∧ days ≤ 8 := by omega
    refine A_istore (lv2 := [(7, _), (6, _), (1, _), (0, _), (2, _), (3, _), (4, _), (5, _)]) dL_law_76 (by decide) rfl ?_
    refine A_aload_n dL_law_78 rfl 2 rfl ?_
    refine A_iload dL_law_79 0 rfl ?_
    refine A_Vm1 (k2 := _) (n2 := _) mv_L_97 lk_0 rfl rfl (L_pl hlt h hj hD.1 (d := days) ⟨by omega, by omega⟩) (Nat.le_of_ble_eq_true rfl) (by omega) (by omega) rfl rfl dL_law_81 ?_
    obtain ⟨p1, hz, jz, z39, qz⟩ := st_plan h hj hD.1 (d := (days : Int)) ⟨by omega, by omega⟩
    have sz : ∀ i, i < many → plS σ (days : Int) 85 (4 * i) = so i := fun i hi => by rw [plS_c (by decide)]; exact hs i hi
    generalize plT y (days : Int) = z at hz jz z39 qz ⊢
    generalize plS σ (days : Int) = s at hz sz ⊢
    have hF := afV_bd (σ := z)
    refine A_istore (lv2 := [(8, _), (7, _), (6, _), (1, _), (0, _), (2, _), (3, _), (4, _), (5, _)]) dL_law_84 (by decide) rfl ?_
    refine A_iload dL_law_86 0 rfl ?_
    refine A_aload_n dL_law_88 rfl 3 rfl ?_
    refine A_Va0 mv_L_100 lk_0 rfl rfl (L_fa hz) (Nat.le_of_ble_eq_true rfl) (by omega) (by omega) dL_law_89 ?_
    refine J_icmp_ne (tgt := 106) dL_law_92 (by decide) (by first | with_reducible exact iand_i32 _ _ | exact i32_eq ⟨by omega, by omega⟩ | with_reducible exact i32_i32 _ | rfl) (by first | with_reducible exact iand_i32 _ _ | exact i32_eq ⟨by omega, by omega⟩ | with_reducible exact i32_i32 _ | rfl) (fun h92 => ?_) (fun h92 => ?_)
    · exact absurd rfl h92
      --end
    · refine A_aload_n dL_law_95 rfl 3 rfl ?_
      refine A_bipush dL_law_96 (by decide +kernel) ?_
      refine A_Vm1 (k2 := _) (n2 := _) mv_L_25 lk_0 rfl rfl (L_cn hlt hz) (Nat.le_of_ble_eq_true rfl) (by omega) (by omega) rfl rfl dL_law_98 ?_
      rw [z39]
      refine A_iload dL_law_101 1 rfl ?_
      refine J_icmp_eq (tgt := 108) dL_law_103 (by decide) (by first | with_reducible exact iand_i32 _ _ | exact i32_eq ⟨by omega, by omega⟩ | with_reducible exact i32_i32 _ | rfl) (by first | with_reducible exact iand_i32 _ _ | exact i32_eq ⟨by omega, by omega⟩ | with_reducible exact i32_i32 _ | rfl) (fun h103 => ?_) (fun h103 => ?_)
      · refine A_iconst dL_law_108 ?_
        refine A_istore (lv2 := [(9, _), (8, _), (7, _), (6, _), (1, _), (0, _), (2, _), (3, _), (4, _), (5, _)]) dL_law_109 (by decide) rfl ?_
        refine A_iconst dL_law_111 ?_
        refine A_istore (lv2 := [(10, _), (9, _), (8, _), (7, _), (6, _), (1, _), (0, _), (2, _), (3, _), (4, _), (5, _)]) dL_law_112 (by decide) rfl ?_
        refine A_lv [0, 1, 2, 3, 4, 5, 6, 7, 8, 9, 10] rfl ?_
        refine w_law1 hlt hz jz.2.1 qz z39 hd1.2 days 0 _ _ (Nat.zero_add _) (by omega) (by omega) ?_
        refine A_iload dL_law_189 0 rfl ?_
        refine A_istore (lv2 := [(10, _), (9, _), (8, _), (7, _), (6, _), (1, _), (0, _), (2, _), (3, _), (4, _), (5, _)]) dL_law_191 (by decide) rfl ?_
        refine A_iconst dL_law_193 ?_
        refine A_istore (lv2 := [(11, _), (10, _), (9, _), (8, _), (7, _), (6, _), (1, _), (0, _), (2, _), (3, _), (4, _), (5, _)]) dL_law_194 (by decide) rfl ?_
        refine A_lv [0, 1, 2, 3, 4, 5, 6, 7, 8, 9, 10, 11] rfl ?_
        have gS_z : gS z days = gapV z + sm (ruV z) 0 := by rw [gS_all hz.1 jz.2.1 z39]; exact (Int.add_zero _).symm
        rw [gS_z]
        refine w_law2 hlt h85 hz jz qz hm5 hso sz many 0 _ _ (Nat.zero_add _) (by omega) (by omega) ?_
        rw [← af_all hz.1 jz.2.2.1, show gapV z + sm (ruV z) 0 = gapV z from Int.add_zero _]
        refine A_iload dL_law_242 0 rfl ?_
        refine A_iload dL_law_244 2 rfl ?_
        refine J_icmp_eq (tgt := 251) dL_law_246 (by decide) (by first | with_reducible exact iand_i32 _ _ | exact i32_eq ⟨by omega, by omega⟩ | with_reducible exact i32_i32 _ | rfl) (by first | with_reducible exact iand_i32 _ _ | exact i32_eq ⟨by omega, by omega⟩ | with_reducible exact i32_i32 _ | rfl) (fun h246 => ?_) (fun h246 => ?_)
        · refine A_iconst dL_law_251 ?_
          refine A_istore (lv2 := [(11, _), (10, _), (9, _), (8, _), (7, _), (6, _), (1, _), (0, _), (2, _), (3, _), (4, _), (5, _)]) dL_law_252 (by decide) rfl ?_
          refine A_iconst dL_law_254 ?_
          refine A_istore (lv2 := [(12, _), (11, _), (10, _), (9, _), (8, _), (7, _), (6, _), (1, _), (0, _), (2, _), (3, _), (4, _), (5, _)]) dL_law_255 (by decide) rfl ?_
          refine A_lv [0, 1, 2, 3, 4, 5, 6, 7, 8, 9, 10, 11, 12] rfl ?_
          refine w_law3 hlt hz jz.1 hD.2 D 0 _ _ (Nat.zero_add _) (by omega) (by omega) ?_
          have hti := ti_sumL hz.1 jz.1 jz.2.1 z39
          refine A_iload dL_law_280 0 rfl ?_
          refine A_iload dL_law_282 1 rfl ?_
          refine A_iadd dL_law_284 ?_
          rw [hti]
          refine A_iconst dL_law_285 ?_
          refine A_iload dL_law_286 3 rfl ?_
          refine A_imul dL_law_288 ?_
          refine J_icmp_eq (tgt := 294) dL_law_289 (by decide) (by first | with_reducible exact iand_i32 _ _ | exact i32_eq ⟨by omega, by omega⟩ | with_reducible exact i32_i32 _ | rfl) (by first | with_reducible exact iand_i32 _ _ | exact i32_eq ⟨by omega, by omega⟩ | with_reducible exact i32_i32 _ | rfl) (fun h289 => ?_) (fun h289 => ?_)
          · refine A_aload_n dL_law_294 rfl 5 rfl ?_
            refine A_Va0 mv_L_116 lk_0 rfl rfl (L_dg hz) (Nat.le_of_ble_eq_true rfl) (by omega) (by omega) dL_law_295 ?_
            refine A_lstore (lv2 := [(12, _), (11, _), (9, _), (8, _), (7, _), (6, _), (1, _), (0, _), (2, _), (3, _), (4, _), (5, _)]) dL_law_298 (by decide) rfl ?_
            refine A_iload dL_law_300 4 rfl ?_
            refine A_iconst dL_law_302 ?_
            refine J_icmp_le (tgt := 362) dL_law_303 (by decide) (by first | with_reducible exact iand_i32 _ _ | exact i32_eq ⟨by omega, by omega⟩ | with_reducible exact i32_i32 _ | rfl) (by first | with_reducible exact iand_i32 _ _ | exact i32_eq ⟨by omega, by omega⟩ | with_reducible exact i32_i32 _ | rfl) (fun h303 => ?_) (fun h303 => ?_)
            · refine A_iconst dL_law_362 ?_
              refine A_istore (lv2 := [(14, _), (12, _), (11, _), (9, _), (8, _), (7, _), (6, _), (1, _), (0, _), (2, _), (3, _), (4, _), (5, _)]) dL_law_363 (by decide) rfl ?_
              refine A_lv [0, 4, 5, 6, 7, 8, 9, 10, 11, 12] rfl ?_
              refine w_law4 _ _ (by omega) (by omega) 3 0 _ _ (by decide) hz jz sz (fun F σ5 y5 h5 j5 s5 => ?_)
              refine A_aload_n dL_law_405 rfl 3 rfl ?_
              refine A_Va0 mv_L_126 lk_0 rfl rfl (L_su h5 j5) (Nat.le_of_ble_eq_true rfl) (by omega) (by omega) dL_law_406 ?_
              refine J_if_ne (tgt := 420) dL_law_409 (by decide) (by first | with_reducible exact iand_i32 _ _ | exact i32_eq ⟨by omega, by omega⟩ | with_reducible exact i32_i32 _ | rfl) (fun h409 => ?_) (fun h409 => ?_)
              · exact absurd rfl h409
                --end
              · refine A_aload_n dL_law_412 rfl 3 rfl ?_
                refine A_Va0 mv_L_129 lk_0 rfl rfl (L_er h5 j5) (Nat.le_of_ble_eq_true rfl) (by omega) (by omega) dL_law_413 ?_
                refine A_iconst dL_law_416 ?_
                refine J_icmp_eq (tgt := 422) dL_law_417 (by decide) (by first | with_reducible exact iand_i32 _ _ | exact i32_eq ⟨by omega, by omega⟩ | with_reducible exact i32_i32 _ | rfl) (by first | with_reducible exact iand_i32 _ _ | exact i32_eq ⟨by omega, by omega⟩ | with_reducible exact i32_i32 _ | rfl) (fun h417 => ?_) (fun h417 => ?_)
                · refine A_iinc (lv2 := [(6, _), (8, _), (7, _), (1, _), (0, _), (2, _), (3, _), (4, _), (5, _)]) dL_law_422 2 rfl (by decide) rfl ?_
                  refine A_goto (tgt := 52) dL_law_425 (by decide) ?_
                  refine A_lv [0, 3, 4, 5, 6, 7, 8] rfl ?_
                  rw [show ((t : Int) + 1) = ((t + 1 : Nat) : Int) from by omega]
                  obtain ⟨n, rfl⟩ : ∃ q, n = q + 1 := ⟨n - 1, by omega⟩
                  exact ih n (by omega) (t + 1) σ5 y5 _ _ (by omega) h5 j5 s5 (by omega) (by omega)
                · exact absurd rfl h417
                  --end
            · refine A_aload_n dL_law_306 rfl 7 rfl ?_
              refine A_bipush dL_law_307 (by decide +kernel) ?_
              refine A_cell hX hL ⟨by omega, by omega⟩ (Nat.le_of_ble_eq_true rfl) (by omega) (by omega) dL_law_309 ?_
              refine A_iload dL_law_312 5 rfl ?_
              refine A_ishr dL_law_314 ?_
              refine A_iload dL_law_315 4 rfl ?_
              refine A_iconst dL_law_317 ?_
              refine A_isub dL_law_318 ?_
              refine A_below (by omega) (Nat.le_of_ble_eq_true rfl) (by omega) (by omega) dL_law_319 ?_
              obtain ⟨hb0, hb1⟩ := blV_bd (ishr (clV L X 10) (t : Int)) (n := (days : Int) - 1) (by omega)
              generalize blV (ishr (clV L X 10) (t : Int)) ((days : Int) - 1) = a at hb0 hb1 ⊢
              obtain ⟨x1, hz1, jz1, z391⟩ := st_ex hz jz (a := a) (b := (days : Int) - 1) ⟨by omega, by omega⟩ ⟨by omega, by omega⟩ (by omega)
              obtain ⟨x2, hz2, jz2, z392⟩ := st_ex hz1 jz1 (a := (days : Int) - 1) (b := a) ⟨by omega, by omega⟩ ⟨by omega, by omega⟩ (by omega)
              obtain ⟨tw1, tw2⟩ := ex_twice hz.1 hz.2.1 (a := a) (b := (days : Int) - 1) (by omega) ⟨by omega, by omega⟩ ⟨by omega, by omega⟩
              have sz2 : ∀ i, i < many → xcS (xcS s a ((days : Int) - 1)) ((days : Int) - 1) a 85 (4 * i) = so i := fun i hi => by rw [xcS_c (by decide), xcS_c (by decide)]; exact sz i hi
              refine A_istore (lv2 := [(14, _), (12, _), (11, _), (9, _), (8, _), (7, _), (6, _), (1, _), (0, _), (2, _), (3, _), (4, _), (5, _)]) dL_law_322 (by decide) rfl ?_
              refine A_aload_n dL_law_324 rfl 7 rfl ?_
              refine A_iload dL_law_325 0 rfl ?_
              refine A_iload dL_law_327 5 rfl ?_
              refine A_iconst dL_law_329 ?_
              refine A_isub dL_law_330 ?_
              refine A_Vm2 (k2 := _) (n2 := _) mv_L_120 lk_0 rfl rfl (L_ex hlt hz jz (a := a) (b := (days : Int) - 1) ⟨by omega, by omega⟩ ⟨by omega, by omega⟩ (by omega)) (Nat.le_of_ble_eq_true rfl) (by omega) (by omega) rfl rfl dL_law_331 ?_
              refine A_pop dL_law_334 rfl ?_
              refine A_aload_n dL_law_335 rfl 7 rfl ?_
              refine A_iload dL_law_336 5 rfl ?_
              refine A_iconst dL_law_338 ?_
              refine A_isub dL_law_339 ?_
              refine A_iload dL_law_340 0 rfl ?_
              refine A_Vm2 (k2 := _) (n2 := _) mv_L_120 lk_0 rfl rfl (L_ex hlt hz1 jz1 (a := (days : Int) - 1) (b := a) ⟨by omega, by omega⟩ ⟨by omega, by omega⟩ (by omega)) (Nat.le_of_ble_eq_true rfl) (by omega) (by omega) rfl rfl dL_law_342 ?_
              rw [tw1]
              refine A_iload dL_law_345 4 rfl ?_
              refine J_icmp_ne (tgt := 360) dL_law_347 (by decide) (by first | with_reducible exact iand_i32 _ _ | exact i32_eq ⟨by omega, by omega⟩ | with_reducible exact i32_i32 _ | rfl) (by first | with_reducible exact iand_i32 _ _ | exact i32_eq ⟨by omega, by omega⟩ | with_reducible exact i32_i32 _ | rfl) (fun h347 => ?_) (fun h347 => ?_)
              · exact absurd rfl h347
                --end
              · refine A_aload_n dL_law_350 rfl 7 rfl ?_
                refine A_Va0 mv_L_116 lk_0 rfl rfl (L_dg hz2) (Nat.le_of_ble_eq_true rfl) (by omega) (by omega) dL_law_351 ?_
                rw [tw2]
                refine A_lload dL_law_354 1 rfl ?_
                refine A_lcmpE dL_law_356 ?_
                refine A_if_eq_e (tgt := 362) dL_law_357 (by decide) (fun h357 => ?_) (fun h357 => ?_)
                · refine A_iconst dL_law_362 ?_
                  refine A_istore (lv2 := [(14, _), (12, _), (11, _), (9, _), (8, _), (7, _), (6, _), (1, _), (0, _), (2, _), (3, _), (4, _), (5, _)]) dL_law_363 (by decide) rfl ?_
                  refine A_lv [0, 4, 5, 6, 7, 8, 9, 10, 11, 12] rfl ?_
                  rw [← tw1]
                  refine w_law4 _ _ (by omega) (by omega) 3 0 _ _ (by decide) hz2 jz2 sz2 (fun F σ5 y5 h5 j5 s5 => ?_)
                  refine A_aload_n dL_law_405 rfl 3 rfl ?_
                  refine A_Va0 mv_L_126 lk_0 rfl rfl (L_su h5 j5) (Nat.le_of_ble_eq_true rfl) (by omega) (by omega) dL_law_406 ?_
                  refine J_if_ne (tgt := 420) dL_law_409 (by decide) (by first | with_reducible exact iand_i32 _ _ | exact i32_eq ⟨by omega, by omega⟩ | with_reducible exact i32_i32 _ | rfl) (fun h409 => ?_) (fun h409 => ?_)
                  · exact absurd rfl h409
                    --end
                  · refine A_aload_n dL_law_412 rfl 3 rfl ?_
                    refine A_Va0 mv_L_129 lk_0 rfl rfl (L_er h5 j5) (Nat.le_of_ble_eq_true rfl) (by omega) (by omega) dL_law_413 ?_
                    refine A_iconst dL_law_416 ?_
                    refine J_icmp_eq (tgt := 422) dL_law_417 (by decide) (by first | with_reducible exact iand_i32 _ _ | exact i32_eq ⟨by omega, by omega⟩ | with_reducible exact i32_i32 _ | rfl) (by first | with_reducible exact iand_i32 _ _ | exact i32_eq ⟨by omega, by omega⟩ | with_reducible exact i32_i32 _ | rfl) (fun h417 => ?_) (fun h417 => ?_)
                    · refine A_iinc (lv2 := [(6, _), (8, _), (7, _), (1, _), (0, _), (2, _), (3, _), (4, _), (5, _)]) dL_law_422 2 rfl (by decide) rfl ?_
                      refine A_goto (tgt := 52) dL_law_425 (by decide) ?_
                      refine A_lv [0, 3, 4, 5, 6, 7, 8] rfl ?_
                      rw [show ((t : Int) + 1) = ((t + 1 : Nat) : Int) from by omega]
                      obtain ⟨n, rfl⟩ : ∃ q, n = q + 1 := ⟨n - 1, by omega⟩
                      exact ih n (by omega) (t + 1) σ5 y5 _ _ (by omega) h5 j5 s5 (by omega) (by omega)
                    · exact absurd rfl h417
                      --end
                · exact absurd rfl h357
                  --end
          · exact absurd rfl h289
            --end
        · exact absurd rfl h246
          --end
      · exact absurd rfl h103
        --end
end S95
