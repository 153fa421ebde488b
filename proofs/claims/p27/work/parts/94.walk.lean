/-! the law, over what its menu left -/
section S94
variable {l : Launch} {G : Gx} {f : Fm} {Q : State → Prop} {bA L : Nat} {X : Nat → Int32} {σ y : Sg}
theorem L_at (hlt : l.stackTraces = false) (h : Rel σ y) {d c : Int} (hd : 0 ≤ d ∧ d < y 84 39) (hc : 0 ≤ c ∧ c < y 84 25) : Ct l G yX10_at cX10_at 3 (some .int) 6 1 6 [.ref (lay G 0), .int (I32 d), .int (I32 c)] σ (some (.int (I32 (dA y d c)))) (σ) := by
  have a := c_X10_at (l := l) (G := G) σ d c hlt
  rw [st_at h hd hc] at a
  exact a.ct
theorem L_ch (hlt : l.stackTraces = false) (h : Rel σ y) {c : Int} (hc : 0 ≤ c ∧ c < y 84 25) : Ct l G yX10_choice cX10_choice 3 (some .int) 6 1 6 [.ref (lay G 0), .int (I32 c), .int (I32 0)] σ (some (.int (I32 (y 102 c.toNat)))) (σ) := by
  have a := c_X10_choice (l := l) (G := G) σ c false hlt
  rw [st_ch h hc] at a
  exact a.ct
theorem L_fo (hlt : l.stackTraces = false) (h : Rel σ y) {r : Int} (hr : 0 ≤ r ∧ r < y 84 30) : Ct l G yX10_faultsOf cX10_faultsOf 2 (some .int) 6 1 6 [.ref (lay G 0), .int (I32 r)] σ (some (.int (I32 (ruV y r)))) (σ) := by
  have a := c_X10_faultsOf (l := l) (G := G) σ r hlt
  rw [st_fo h hr] at a
  exact a.ct
theorem L_ti (hlt : l.stackTraces = false) (h : Rel σ y) {x : Int} (hx : 0 ≤ x ∧ x < y 84 15) : Ct l G yX10_times cX10_times 2 (some .int) 6 1 6 [.ref (lay G 0), .int (I32 x)] σ (some (.int (I32 (tiV y x)))) (σ) := by
  have a := c_X10_times (l := l) (G := G) σ x hlt
  rw [st_ti h hx] at a
  exact a.ct
theorem L_cn (hlt : l.stackTraces = false) (h : Rel σ y)   : Ct l G yX10_count cX10_count 2 (some .int) 6 1 6 [.ref (lay G 0), .int (I32 6)] σ (some (.int (I32 (y 84 39)))) (σ) := by
  have a := c_X10_count (l := l) (G := G) σ 6 hlt
  rw [st_cnt h] at a
  exact a.ct
theorem L_pl (hlt : l.stackTraces = false) (h : Rel σ y) {D many : Nat} {so : Nat → Int} {d : Int} (j : JT D many so y) (hD : 2 ≤ D) (hd : 1 ≤ d ∧ d ≤ 14) : Ct l G yX10_plan cX10_plan 2 (some .int) 6 1 6 [.ref (lay G 0), .int (I32 d)] σ (some (.int (I32 (afV (plT y d))))) (plS σ d) := by
  have a := c_X10_plan (l := l) (G := G) σ d hlt
  rw [(st_plan h j hD hd).1] at a
  exact a.ct
theorem L_ex (hlt : l.stackTraces = false) (h : Rel σ y) {D many : Nat} {so : Nat → Int} {a b : Int} (j : JT D many so y) (ha : 0 ≤ a ∧ a < y 84 39) (hb : 0 ≤ b ∧ b < y 84 39) (hab : a ≠ b) : Ct l G yX10_exchange cX10_exchange 5 (some .int) 6 1 6 [.ref (lay G 0), .int (I32 a), .int (I32 b)] σ (some (.int (I32 (afV (exT y a b))))) (xcS σ a b) := by
  have q := c_X10_exchange (l := l) (G := G) σ a b hlt
  rw [(st_ex h j ha hb hab).1] at q
  exact q.ct
theorem L_fa (h : Rel σ y) : Ct l G yX10_faults cX10_faults 1 (some .int) 1 0 0 [.ref (lay G 0)] σ (some (.int (I32 (afV y)))) σ := by
  rw [← st_fa h]
  exact c_X10_faults σ
theorem L_im {D many : Nat} {so : Nat → Int} (h : Rel σ y) (j : JT D many so y) : Ct l G yX10_improve cX10_improve 1 (some .int) 6 0 0 [.ref (lay G 0)] σ (some (.int (I32 (imRV y)))) (cbC σ) := by
  rw [← (st_im h j).1]
  exact c_X10_improve σ
theorem L_dg (h : Rel σ y) : Ct l G yX10_digest cX10_digest 4 (some .long) 4 0 0 [.ref (lay G 0)] σ (some (.long (I64 (dgT2 (up y 84 0 0))))) σ := by
  rw [← h.digest]
  exact c_X10_digest σ
theorem L_su {D many : Nat} {so : Nat → Int} (h : Rel σ y) (j : JT D many so y) : Ct l G yX10_suited cX10_suited 1 (some .int) 0 0 0 [.ref (lay G 0)] σ (some (.int (I32 0))) σ := by
  have a := c_X10_suited (l := l) (G := G) σ
  rw [(st_er h j).2] at a
  exact a
theorem L_er {D many : Nat} {so : Nat → Int} (h : Rel σ y) (j : JT D many so y) : Ct l G yX10_errorAt cX10_errorAt 1 (some .int) 0 0 0 [.ref (lay G 0)] σ (some (.int (I32 (-1)))) σ := by
  have a := c_X10_errorAt (l := l) (G := G) σ
  rw [(st_er h j).1] at a
  exact a
set_option maxRecDepth 100000 in
set_option maxHeartbeats 4000000 in
theorem w_law1 (hlt : l.stackTraces = false) {D many t days : Nat} {F : Int} (h : Rel σ y) (h25 : y 84 25 = 2) (hq : Pq y) (h39 : y 84 39 = (days : Int)) (hd8 : days ≤ 8) : ∀ (n d kk nn : Nat), d + n = days → kk + 4 * n ≤ 600086 → nn + 24 * n ≤ 7301442 → AW l G f (RL, cL_law, 16, some .boolean) (60, 600086, 7301442) Q [] (kk + 4 * n) (nn + 24 * n) 189 [(9, .int (I32 (gS y days))), (8, .int (I32 F)), (7, .int (I32 (days : Int))), (6, .int (I32 (t : Int))), (1, .ref (lay G 0)), (0, .ref bA), (2, .int (I32 (D : Int))), (3, .ref (lay G 84)), (4, .ref (lay G 85)), (5, .int (I32 (many : Int)))] [] σ → AW l G f (RL, cL_law, 16, some .boolean) (60, 600086, 7301442) Q [] kk nn 114 [(10, .int (I32 (d : Int))), (9, .int (I32 (gS y d))), (8, .int (I32 F)), (7, .int (I32 (days : Int))), (6, .int (I32 (t : Int))), (1, .ref (lay G 0)), (0, .ref bA), (2, .int (I32 (D : Int))), (3, .ref (lay G 84)), (4, .ref (lay G 85)), (5, .int (I32 (many : Int)))] [] σ := by
  intro n
  induction n using Nat.strongRecOn with | _ n ih =>
  intro d kk nn hn hk1 hk2 K
  refine A_iload dL_law_114 0 rfl ?_
  refine A_iload dL_law_116 3 rfl ?_
  refine J_icmp_ge (tgt := 189) dL_law_118 (by decide) (by first | with_reducible exact iand_i32 _ _ | exact i32_eq ⟨by omega, by omega⟩ | with_reducible exact i32_i32 _ | rfl) (by first | with_reducible exact iand_i32 _ _ | exact i32_eq ⟨by omega, by omega⟩ | with_reducible exact i32_i32 _ | rfl) (fun h118 => ?_) (fun h118 => ?_)
  · obtain rfl : n = 0 := by omega
    obtain rfl : d = days := by omega
    refine A_lv [1, 2, 3, 4, 5, 6, 7, 8, 9, 10] rfl ?_
    exact K
  · have hb0 := h.1.dA (d := d) (c := 0) ⟨by omega, by omega⟩ ⟨by omega, by omega⟩
    have hb1 := h.1.dA (d := d) (c := 1) ⟨by omega, by omega⟩ ⟨by omega, by omega⟩
    have hb15 := h.1.1.2.1
    refine A_iconst dL_law_121 ?_
    refine A_istore (lv2 := [(11, _), (10, _), (9, _), (8, _), (7, _), (6, _), (1, _), (0, _), (2, _), (3, _), (4, _), (5, _)]) dL_law_122 (by decide) rfl ?_
    refine A_iload dL_law_124 0 rfl ?_
    refine A_iconst dL_law_126 ?_
    refine J_icmp_ge (tgt := 183) dL_law_127 (by decide) (i32_n _ (by decide)) (i32_n _ (by decide)) (fun h => absurd h (by decide)) (fun _ => ?_)
    refine A_aload_n dL_law_130 rfl 6 rfl ?_
    refine A_iload dL_law_131 1 rfl ?_
    refine A_iload dL_law_133 0 rfl ?_
    refine A_Vm2 (k2 := _) (n2 := _) mv_L_103 lk_0 rfl rfl (L_at hlt h (d := d) (c := 0) ⟨by omega, by omega⟩ ⟨by omega, by omega⟩) (Nat.le_of_ble_eq_true rfl) (by omega) (by omega) rfl rfl dL_law_135 ?_
    refine A_istore (lv2 := [(12, _), (11, _), (10, _), (9, _), (8, _), (7, _), (6, _), (1, _), (0, _), (2, _), (3, _), (4, _), (5, _)]) dL_law_138 (by decide) rfl ?_
    refine A_iload dL_law_140 3 rfl ?_
    refine A_iload dL_law_142 0 rfl ?_
    refine J_if_ge (tgt := 151) dL_law_144 (by decide) (by first | with_reducible exact iand_i32 _ _ | exact i32_eq ⟨by omega, by omega⟩ | with_reducible exact i32_i32 _ | rfl) (fun h144 => ?_) (fun h144 => ?_)
    · have g0 := h144
      refine A_iconst dL_law_151 ?_
      refine A_iadd dL_law_152 ?_
      refine A_istore (lv2 := [(9, _), (12, _), (11, _), (10, _), (8, _), (7, _), (6, _), (1, _), (0, _), (2, _), (3, _), (4, _), (5, _)]) dL_law_153 (by decide) rfl ?_
      refine A_iload dL_law_155 1 rfl ?_
      refine J_if_lt (tgt := 177) dL_law_157 (by decide) (by first | with_reducible exact iand_i32 _ _ | exact i32_eq ⟨by omega, by omega⟩ | with_reducible exact i32_i32 _ | rfl) (fun h157 => ?_) (fun h157 => ?_)
      · exfalso; omega
        --end
      · refine A_aload_n dL_law_160 rfl 7 rfl ?_
        refine A_iload dL_law_161 2 rfl ?_
        refine A_iconst dL_law_163 ?_
        refine A_Vm2 (k2 := _) (n2 := _) mv_L_106 lk_0 rfl rfl (L_ch hlt h (c := 0) ⟨by omega, by omega⟩) (Nat.le_of_ble_eq_true rfl) (by omega) (by omega) rfl rfl dL_law_164 ?_
        refine A_iload dL_law_167 1 rfl ?_
        refine A_ishr dL_law_169 ?_
        refine A_iconst dL_law_170 ?_
        refine A_iand dL_law_171 ?_
        refine J_if_ne (tgt := 177) dL_law_172 (by decide) (by first | with_reducible exact iand_i32 _ _ | exact i32_eq ⟨by omega, by omega⟩ | with_reducible exact i32_i32 _ | rfl) (fun h172 => ?_) (fun h172 => ?_)
        · refine A_iinc (lv2 := [(11, _), (9, _), (12, _), (10, _), (8, _), (7, _), (6, _), (1, _), (0, _), (2, _), (3, _), (4, _), (5, _)]) dL_law_177 2 rfl (by decide) rfl ?_
          rw [show (((0 : Int)) + 1) = 1 from rfl]
          refine A_goto (tgt := 124) dL_law_180 (by decide) ?_
          refine A_iload dL_law_124 0 rfl ?_
          refine A_iconst dL_law_126 ?_
          refine J_icmp_ge (tgt := 183) dL_law_127 (by decide) (i32_n _ (by decide)) (i32_n _ (by decide)) (fun h => absurd h (by decide)) (fun _ => ?_)
          refine A_aload_n dL_law_130 rfl 7 rfl ?_
          refine A_iload dL_law_131 3 rfl ?_
          refine A_iload dL_law_133 0 rfl ?_
          refine A_Vm2 (k2 := _) (n2 := _) mv_L_103 lk_0 rfl rfl (L_at hlt h (d := d) (c := 1) ⟨by omega, by omega⟩ ⟨by omega, by omega⟩) (Nat.le_of_ble_eq_true rfl) (by omega) (by omega) rfl rfl dL_law_135 ?_
          refine A_istore (lv2 := [(12, _), (11, _), (9, _), (10, _), (8, _), (7, _), (6, _), (1, _), (0, _), (2, _), (3, _), (4, _), (5, _)]) dL_law_138 (by decide) rfl ?_
          refine A_iload dL_law_140 2 rfl ?_
          refine A_iload dL_law_142 0 rfl ?_
          refine J_if_ge (tgt := 151) dL_law_144 (by decide) (by first | with_reducible exact iand_i32 _ _ | exact i32_eq ⟨by omega, by omega⟩ | with_reducible exact i32_i32 _ | rfl) (fun h144 => ?_) (fun h144 => ?_)
          · have g1 := h144
            refine A_iconst dL_law_151 ?_
            refine A_iadd dL_law_152 ?_
            refine A_istore (lv2 := [(9, _), (12, _), (11, _), (10, _), (8, _), (7, _), (6, _), (1, _), (0, _), (2, _), (3, _), (4, _), (5, _)]) dL_law_153 (by decide) rfl ?_
            refine A_iload dL_law_155 1 rfl ?_
            refine J_if_lt (tgt := 177) dL_law_157 (by decide) (by first | with_reducible exact iand_i32 _ _ | exact i32_eq ⟨by omega, by omega⟩ | with_reducible exact i32_i32 _ | rfl) (fun h157 => ?_) (fun h157 => ?_)
            · exfalso; omega
              --end
            · refine A_aload_n dL_law_160 rfl 7 rfl ?_
              refine A_iload dL_law_161 2 rfl ?_
              refine A_iconst dL_law_163 ?_
              refine A_Vm2 (k2 := _) (n2 := _) mv_L_106 lk_0 rfl rfl (L_ch hlt h (c := 1) ⟨by omega, by omega⟩) (Nat.le_of_ble_eq_true rfl) (by omega) (by omega) rfl rfl dL_law_164 ?_
              refine A_iload dL_law_167 1 rfl ?_
              refine A_ishr dL_law_169 ?_
              refine A_iconst dL_law_170 ?_
              refine A_iand dL_law_171 ?_
              refine J_if_ne (tgt := 177) dL_law_172 (by decide) (by first | with_reducible exact iand_i32 _ _ | exact i32_eq ⟨by omega, by omega⟩ | with_reducible exact i32_i32 _ | rfl) (fun h172 => ?_) (fun h172 => ?_)
              · refine A_iinc (lv2 := [(11, _), (9, _), (12, _), (10, _), (8, _), (7, _), (6, _), (1, _), (0, _), (2, _), (3, _), (4, _), (5, _)]) dL_law_177 2 rfl (by decide) rfl ?_
                rw [show (((1 : Int)) + 1) = 2 from rfl]
                refine A_goto (tgt := 124) dL_law_180 (by decide) ?_
                refine A_iload dL_law_124 0 rfl ?_
                refine A_iconst dL_law_126 ?_
                refine J_icmp_ge (tgt := 183) dL_law_127 (by decide) (i32_n _ (by decide)) (i32_n _ (by decide)) (fun _ => ?_) (fun h => absurd h (by decide))
                refine A_iinc (lv2 := [(10, _), (11, _), (9, _), (12, _), (8, _), (7, _), (6, _), (1, _), (0, _), (2, _), (3, _), (4, _), (5, _)]) dL_law_183 3 rfl (by decide) rfl ?_
                refine A_goto (tgt := 114) dL_law_186 (by decide) ?_
                refine A_lv [0, 2, 4, 5, 6, 7, 8, 9, 10, 11, 12] rfl ?_
                rw [show gS y d + 0 + 0 = gS y (d + 1) from by
                  show _ = gS y d + (if dA y d 0 < 0 then 1 else 0) + (if dA y d 1 < 0 then 1 else 0)
                  rw [if_neg (by omega), if_neg (by omega)], show ((d : Int) + 1) = ((d + 1 : Nat) : Int) from by omega]
                obtain ⟨n, rfl⟩ : ∃ q, n = q + 1 := ⟨n - 1, by omega⟩
                refine A_wid (k2 := kk + 4) (n2 := nn + 24) (by omega) (by omega) ?_
                refine ih n (by omega) (d + 1) _ _ (by omega) (by omega) (by omega) ?_
                rw [show kk + 4 + 4 * n = kk + 4 * (n + 1) from by omega, show nn + 24 + 24 * n = nn + 24 * (n + 1) from by omega]
                exact K
              · exfalso
                rcases hq.2 d 1 (by omega) (by omega) (by omega) (by omega) with w | w
                · omega
                · exact w h172
                --end
          · have g1 := h144
            refine A_iconst dL_law_147 ?_
            refine A_goto (tgt := 152) dL_law_148 (by decide) ?_
            refine A_iadd dL_law_152 ?_
            refine A_istore (lv2 := [(9, _), (12, _), (11, _), (10, _), (8, _), (7, _), (6, _), (1, _), (0, _), (2, _), (3, _), (4, _), (5, _)]) dL_law_153 (by decide) rfl ?_
            refine A_iload dL_law_155 1 rfl ?_
            refine J_if_lt (tgt := 177) dL_law_157 (by decide) (by first | with_reducible exact iand_i32 _ _ | exact i32_eq ⟨by omega, by omega⟩ | with_reducible exact i32_i32 _ | rfl) (fun h157 => ?_) (fun h157 => ?_)
            · refine A_iinc (lv2 := [(11, _), (9, _), (12, _), (10, _), (8, _), (7, _), (6, _), (1, _), (0, _), (2, _), (3, _), (4, _), (5, _)]) dL_law_177 2 rfl (by decide) rfl ?_
              rw [show (((1 : Int)) + 1) = 2 from rfl]
              refine A_goto (tgt := 124) dL_law_180 (by decide) ?_
              refine A_iload dL_law_124 0 rfl ?_
              refine A_iconst dL_law_126 ?_
              refine J_icmp_ge (tgt := 183) dL_law_127 (by decide) (i32_n _ (by decide)) (i32_n _ (by decide)) (fun _ => ?_) (fun h => absurd h (by decide))
              refine A_iinc (lv2 := [(10, _), (11, _), (9, _), (12, _), (8, _), (7, _), (6, _), (1, _), (0, _), (2, _), (3, _), (4, _), (5, _)]) dL_law_183 3 rfl (by decide) rfl ?_
              refine A_goto (tgt := 114) dL_law_186 (by decide) ?_
              refine A_lv [0, 2, 4, 5, 6, 7, 8, 9, 10, 11, 12] rfl ?_
              rw [show gS y d + 0 + 1 = gS y (d + 1) from by
                show _ = gS y d + (if dA y d 0 < 0 then 1 else 0) + (if dA y d 1 < 0 then 1 else 0)
                rw [if_neg (by omega), if_pos (by omega)], show ((d : Int) + 1) = ((d + 1 : Nat) : Int) from by omega]
              obtain ⟨n, rfl⟩ : ∃ q, n = q + 1 := ⟨n - 1, by omega⟩
              refine A_wid (k2 := kk + 4) (n2 := nn + 24) (by omega) (by omega) ?_
              refine ih n (by omega) (d + 1) _ _ (by omega) (by omega) (by omega) ?_
              rw [show kk + 4 + 4 * n = kk + 4 * (n + 1) from by omega, show nn + 24 + 24 * n = nn + 24 * (n + 1) from by omega]
              exact K
            · exfalso; omega
              --end
        · exfalso
          rcases hq.2 d 0 (by omega) (by omega) (by omega) (by omega) with w | w
          · omega
          · exact w h172
          --end
    · have g0 := h144
      refine A_iconst dL_law_147 ?_
      refine A_goto (tgt := 152) dL_law_148 (by decide) ?_
      refine A_iadd dL_law_152 ?_
      refine A_istore (lv2 := [(9, _), (12, _), (11, _), (10, _), (8, _), (7, _), (6, _), (1, _), (0, _), (2, _), (3, _), (4, _), (5, _)]) dL_law_153 (by decide) rfl ?_
      refine A_iload dL_law_155 1 rfl ?_
      refine J_if_lt (tgt := 177) dL_law_157 (by decide) (by first | with_reducible exact iand_i32 _ _ | exact i32_eq ⟨by omega, by omega⟩ | with_reducible exact i32_i32 _ | rfl) (fun h157 => ?_) (fun h157 => ?_)
      · refine A_iinc (lv2 := [(11, _), (9, _), (12, _), (10, _), (8, _), (7, _), (6, _), (1, _), (0, _), (2, _), (3, _), (4, _), (5, _)]) dL_law_177 2 rfl (by decide) rfl ?_
        rw [show (((0 : Int)) + 1) = 1 from rfl]
        refine A_goto (tgt := 124) dL_law_180 (by decide) ?_
        refine A_iload dL_law_124 0 rfl ?_
        refine A_iconst dL_law_126 ?_
        refine J_icmp_ge (tgt := 183) dL_law_127 (by decide) (i32_n _ (by decide)) (i32_n _ (by decide)) (fun h => absurd h (by decide)) (fun _ => ?_)
        refine A_aload_n dL_law_130 rfl 7 rfl ?_
        refine A_iload dL_law_131 3 rfl ?_
        refine A_iload dL_law_133 0 rfl ?_
        refine A_Vm2 (k2 := _) (n2 := _) mv_L_103 lk_0 rfl rfl (L_at hlt h (d := d) (c := 1) ⟨by omega, by omega⟩ ⟨by omega, by omega⟩) (Nat.le_of_ble_eq_true rfl) (by omega) (by omega) rfl rfl dL_law_135 ?_
        refine A_istore (lv2 := [(12, _), (11, _), (9, _), (10, _), (8, _), (7, _), (6, _), (1, _), (0, _), (2, _), (3, _), (4, _), (5, _)]) dL_law_138 (by decide) rfl ?_
        refine A_iload dL_law_140 2 rfl ?_
        refine A_iload dL_law_142 0 rfl ?_
        refine J_if_ge (tgt := 151) dL_law_144 (by decide) (by first | with_reducible exact iand_i32 _ _ | exact i32_eq ⟨by omega, by omega⟩ | with_reducible exact i32_i32 _ | rfl) (fun h144 => ?_) (fun h144 => ?_)
        · have g1 := h144
          refine A_iconst dL_law_151 ?_
          refine A_iadd dL_law_152 ?_
          refine A_istore (lv2 := [(9, _), (12, _), (11, _), (10, _), (8, _), (7, _), (6, _), (1, _), (0, _), (2, _), (3, _), (4, _), (5, _)]) dL_law_153 (by decide) rfl ?_
          refine A_iload dL_law_155 1 rfl ?_
          refine J_if_lt (tgt := 177) dL_law_157 (by decide) (by first | with_reducible exact iand_i32 _ _ | exact i32_eq ⟨by omega, by omega⟩ | with_reducible exact i32_i32 _ | rfl) (fun h157 => ?_) (fun h157 => ?_)
          · exfalso; omega
            --end
          · refine A_aload_n dL_law_160 rfl 7 rfl ?_
            refine A_iload dL_law_161 2 rfl ?_
            refine A_iconst dL_law_163 ?_
            refine A_Vm2 (k2 := _) (n2 := _) mv_L_106 lk_0 rfl rfl (L_ch hlt h (c := 1) ⟨by omega, by omega⟩) (Nat.le_of_ble_eq_true rfl) (by omega) (by omega) rfl rfl dL_law_164 ?_
            refine A_iload dL_law_167 1 rfl ?_
            refine A_ishr dL_law_169 ?_
            refine A_iconst dL_law_170 ?_
            refine A_iand dL_law_171 ?_
            refine J_if_ne (tgt := 177) dL_law_172 (by decide) (by first | with_reducible exact iand_i32 _ _ | exact i32_eq ⟨by omega, by omega⟩ | with_reducible exact i32_i32 _ | rfl) (fun h172 => ?_) (fun h172 => ?_)
            · refine A_iinc (lv2 := [(11, _), (9, _), (12, _), (10, _), (8, _), (7, _), (6, _), (1, _), (0, _), (2, _), (3, _), (4, _), (5, _)]) dL_law_177 2 rfl (by decide) rfl ?_
              rw [show (((1 : Int)) + 1) = 2 from rfl]
              refine A_goto (tgt := 124) dL_law_180 (by decide) ?_
              refine A_iload dL_law_124 0 rfl ?_
              refine A_iconst dL_law_126 ?_
              refine J_icmp_ge (tgt := 183) dL_law_127 (by decide) (i32_n _ (by decide)) (i32_n _ (by decide)) (fun _ => ?_) (fun h => absurd h (by decide))
              refine A_iinc (lv2 := [(10, _), (11, _), (9, _), (12, _), (8, _), (7, _), (6, _), (1, _), (0, _), (2, _), (3, _), (4, _), (5, _)]) dL_law_183 3 rfl (by decide) rfl ?_
              refine A_goto (tgt := 114) dL_law_186 (by decide) ?_
              refine A_lv [0, 2, 4, 5, 6, 7, 8, 9, 10, 11, 12] rfl ?_
              rw [show gS y d + 1 + 0 = gS y (d + 1) from by
                show _ = gS y d + (if dA y d 0 < 0 then 1 else 0) + (if dA y d 1 < 0 then 1 else 0)
                rw [if_pos (by omega), if_neg (by omega)], show ((d : Int) + 1) = ((d + 1 : Nat) : Int) from by omega]
              obtain ⟨n, rfl⟩ : ∃ q, n = q + 1 := ⟨n - 1, by omega⟩
              refine A_wid (k2 := kk + 4) (n2 := nn + 24) (by omega) (by omega) ?_
              refine ih n (by omega) (d + 1) _ _ (by omega) (by omega) (by omega) ?_
              rw [show kk + 4 + 4 * n = kk + 4 * (n + 1) from by omega, show nn + 24 + 24 * n = nn + 24 * (n + 1) from by omega]
              exact K
            · exfalso
              rcases hq.2 d 1 (by omega) (by omega) (by omega) (by omega) with w | w
              · omega
              · exact w h172
              --end
        · have g1 := h144
          refine A_iconst dL_law_147 ?_
          refine A_goto (tgt := 152) dL_law_148 (by decide) ?_
          refine A_iadd dL_law_152 ?_
          refine A_istore (lv2 := [(9, _), (12, _), (11, _), (10, _), (8, _), (7, _), (6, _), (1, _), (0, _), (2, _), (3, _), (4, _), (5, _)]) dL_law_153 (by decide) rfl ?_
          refine A_iload dL_law_155 1 rfl ?_
          refine J_if_lt (tgt := 177) dL_law_157 (by decide) (by first | with_reducible exact iand_i32 _ _ | exact i32_eq ⟨by omega, by omega⟩ | with_reducible exact i32_i32 _ | rfl) (fun h157 => ?_) (fun h157 => ?_)
          · refine A_iinc (lv2 := [(11, _), (9, _), (12, _), (10, _), (8, _), (7, _), (6, _), (1, _), (0, _), (2, _), (3, _), (4, _), (5, _)]) dL_law_177 2 rfl (by decide) rfl ?_
            rw [show (((1 : Int)) + 1) = 2 from rfl]
            refine A_goto (tgt := 124) dL_law_180 (by decide) ?_
            refine A_iload dL_law_124 0 rfl ?_
            refine A_iconst dL_law_126 ?_
            refine J_icmp_ge (tgt := 183) dL_law_127 (by decide) (i32_n _ (by decide)) (i32_n _ (by decide)) (fun _ => ?_) (fun h => absurd h (by decide))
            refine A_iinc (lv2 := [(10, _), (11, _), (9, _), (12, _), (8, _), (7, _), (6, _), (1, _), (0, _), (2, _), (3, _), (4, _), (5, _)]) dL_law_183 3 rfl (by decide) rfl ?_
            refine A_goto (tgt := 114) dL_law_186 (by decide) ?_
            refine A_lv [0, 2, 4, 5, 6, 7, 8, 9, 10, 11, 12] rfl ?_
            rw [show gS y d + 1 + 1 = gS y (d + 1) from by
              show _ = gS y d + (if dA y d 0 < 0 then 1 else 0) + (if dA y d 1 < 0 then 1 else 0)
              rw [if_pos (by omega), if_pos (by omega)], show ((d : Int) + 1) = ((d + 1 : Nat) : Int) from by omega]
            obtain ⟨n, rfl⟩ : ∃ q, n = q + 1 := ⟨n - 1, by omega⟩
            refine A_wid (k2 := kk + 4) (n2 := nn + 24) (by omega) (by omega) ?_
            refine ih n (by omega) (d + 1) _ _ (by omega) (by omega) (by omega) ?_
            rw [show kk + 4 + 4 * n = kk + 4 * (n + 1) from by omega, show nn + 24 + 24 * n = nn + 24 * (n + 1) from by omega]
            exact K
          · exfalso; omega
            --end
      · exfalso; omega
        --end
set_option maxRecDepth 100000 in
set_option maxHeartbeats 4000000 in
theorem w_law2 (hlt : l.stackTraces = false) (h85 : (lkG G)[85]? = some (.inr (1, 24, 0))) {D many t days : Nat} {F : Int} {so : Nat → Int} {e : Int} (h : Rel σ y) (hj : JT D many so y) (hq : Pq y) (hm5 : many ≤ 5) (hso : ∀ i, 0 ≤ so i ∧ so i < 4) (hs : ∀ i, i < many → σ 85 (4 * i) = so i) : ∀ (n k kk nn : Nat), k + n = many → kk + 1 * n ≤ 600086 → nn + 6 * n ≤ 7301442 → AW l G f (RL, cL_law, 16, some .boolean) (60, 600086, 7301442) Q [] (kk + 1 * n) (nn + 6 * n) 242 [(10, .int (I32 (gapV y + sm (ruV y) many))), (9, .int (I32 e)), (8, .int (I32 F)), (7, .int (I32 (days : Int))), (6, .int (I32 (t : Int))), (1, .ref (lay G 0)), (0, .ref bA), (2, .int (I32 (D : Int))), (3, .ref (lay G 84)), (4, .ref (lay G 85)), (5, .int (I32 (many : Int)))] [] σ → AW l G f (RL, cL_law, 16, some .boolean) (60, 600086, 7301442) Q [] kk nn 196 [(11, .int (I32 (k : Int))), (10, .int (I32 (gapV y + sm (ruV y) k))), (9, .int (I32 e)), (8, .int (I32 F)), (7, .int (I32 (days : Int))), (6, .int (I32 (t : Int))), (1, .ref (lay G 0)), (0, .ref bA), (2, .int (I32 (D : Int))), (3, .ref (lay G 84)), (4, .ref (lay G 85)), (5, .int (I32 (many : Int)))] [] σ := by
  intro n
  have h30 := hj.2.2.1
  induction n using Nat.strongRecOn with | _ n ih =>
  intro k kk nn hn hk1 hk2 K
  refine A_iload dL_law_196 0 rfl ?_
  refine A_iload dL_law_198 11 rfl ?_
  refine J_icmp_ge (tgt := 242) dL_law_200 (by decide) (by first | with_reducible exact iand_i32 _ _ | exact i32_eq ⟨by omega, by omega⟩ | with_reducible exact i32_i32 _ | rfl) (by first | with_reducible exact iand_i32 _ _ | exact i32_eq ⟨by omega, by omega⟩ | with_reducible exact i32_i32 _ | rfl) (fun h200 => ?_) (fun h200 => ?_)
  · obtain rfl : n = 0 := by omega
    obtain rfl : k = many := by omega
    refine A_lv [1, 2, 3, 4, 5, 6, 7, 8, 9, 10, 11] rfl ?_
    exact K
  · have hru := ruV_bd (σ := y) (k : Int)
    have hsk := hso k
    refine A_aload_n dL_law_203 rfl 6 rfl ?_
    refine A_iload dL_law_204 0 rfl ?_
    refine A_Vm1 (k2 := _) (n2 := _) mv_L_110 lk_0 rfl rfl (L_fo hlt h (r := k) ⟨by omega, by omega⟩) (Nat.le_of_ble_eq_true rfl) (by omega) (by omega) rfl rfl dL_law_206 ?_
    refine A_istore (lv2 := [(12, _), (11, _), (10, _), (9, _), (8, _), (7, _), (6, _), (1, _), (0, _), (2, _), (3, _), (4, _), (5, _)]) dL_law_209 (by decide) rfl ?_
    refine A_iload dL_law_211 2 rfl ?_
    refine A_iload dL_law_213 0 rfl ?_
    refine A_iadd dL_law_215 ?_
    refine A_istore (lv2 := [(10, _), (12, _), (11, _), (9, _), (8, _), (7, _), (6, _), (1, _), (0, _), (2, _), (3, _), (4, _), (5, _)]) dL_law_216 (by decide) rfl ?_
    refine A_aload dL_law_218 11 rfl ?_
    refine A_iconst dL_law_220 ?_
    refine A_iload dL_law_221 2 rfl ?_
    refine A_imul dL_law_223 ?_
    refine J_iald h85 (by first | with_reducible exact iand_i32 _ _ | exact i32_eq ⟨by omega, by omega⟩ | with_reducible exact i32_i32 _ | rfl) (by omega) (by omega) (by decide) dL_law_224 ?_
    try simp (disch := omega) only [up_k, up_j, up_s]
    rw [show (4 * (k : Int)).toNat = 4 * k from by omega, hs k (by omega)]
    refine A_iconst dL_law_225 ?_
    refine J_icmp_ge (tgt := 236) dL_law_226 (by decide) (by first | with_reducible exact iand_i32 _ _ | exact i32_eq ⟨by omega, by omega⟩ | with_reducible exact i32_i32 _ | rfl) (by first | with_reducible exact iand_i32 _ _ | exact i32_eq ⟨by omega, by omega⟩ | with_reducible exact i32_i32 _ | rfl) (fun h226 => ?_) (fun h226 => ?_)
    · refine A_iinc (lv2 := [(11, _), (10, _), (12, _), (9, _), (8, _), (7, _), (6, _), (1, _), (0, _), (2, _), (3, _), (4, _), (5, _)]) dL_law_236 2 rfl (by decide) rfl ?_
      refine A_goto (tgt := 196) dL_law_239 (by decide) ?_
      refine A_lv [0, 1, 3, 4, 5, 6, 7, 8, 9, 10, 11, 12] rfl ?_
      rw [show gapV y + sm (ruV y) k + ruV y k = gapV y + sm (ruV y) (k + 1) from Int.add_assoc _ _ _, show ((k : Int) + 1) = ((k + 1 : Nat) : Int) from by omega]
      obtain ⟨n, rfl⟩ : ∃ q, n = q + 1 := ⟨n - 1, by omega⟩
      refine ih n (by omega) (k + 1) _ _ (by omega) (by omega) (by omega) ?_
      rw [show kk + 1 + 1 * n = kk + 1 * (n + 1) from by omega, show nn + 6 + 6 * n = nn + 6 * (n + 1) from by omega]
      exact K
    · refine A_iload dL_law_229 1 rfl ?_
      refine J_if_le (tgt := 236) dL_law_231 (by decide) (by first | with_reducible exact iand_i32 _ _ | exact i32_eq ⟨by omega, by omega⟩ | with_reducible exact i32_i32 _ | rfl) (fun h231 => ?_) (fun h231 => ?_)
      · refine A_iinc (lv2 := [(11, _), (10, _), (12, _), (9, _), (8, _), (7, _), (6, _), (1, _), (0, _), (2, _), (3, _), (4, _), (5, _)]) dL_law_236 2 rfl (by decide) rfl ?_
        refine A_goto (tgt := 196) dL_law_239 (by decide) ?_
        refine A_lv [0, 1, 3, 4, 5, 6, 7, 8, 9, 10, 11, 12] rfl ?_
        rw [show gapV y + sm (ruV y) k + ruV y k = gapV y + sm (ruV y) (k + 1) from Int.add_assoc _ _ _, show ((k : Int) + 1) = ((k + 1 : Nat) : Int) from by omega]
        obtain ⟨n, rfl⟩ : ∃ q, n = q + 1 := ⟨n - 1, by omega⟩
        refine ih n (by omega) (k + 1) _ _ (by omega) (by omega) (by omega) ?_
        rw [show kk + 1 + 1 * n = kk + 1 * (n + 1) from by omega, show nn + 6 + 6 * n = nn + 6 * (n + 1) from by omega]
        exact K
      · exfalso
        have w := Pq_ru h.1 hq (r := k) ⟨by omega, by omega⟩ (by rw [show ((k : Int)).toNat = k from by omega, hj.2.2.2.1 k (by omega)]; omega)
        omega
        --end
set_option maxRecDepth 100000 in
set_option maxHeartbeats 4000000 in
theorem w_law3 (hlt : l.stackTraces = false) {D many t days : Nat} {F : Int} {e g : Int} (h : Rel σ y) (h15 : y 84 15 = (D : Int)) (hD : D ≤ 6) : ∀ (n k kk nn : Nat), k + n = D → kk + 1 * n ≤ 600086 → nn + 6 * n ≤ 7301442 → AW l G f (RL, cL_law, 16, some .boolean) (60, 600086, 7301442) Q [] (kk + 1 * n) (nn + 6 * n) 280 [(11, .int (I32 (sm (tiV y) D))), (9, .int (I32 e)), (8, .int (I32 F)), (7, .int (I32 (days : Int))), (6, .int (I32 (t : Int))), (1, .ref (lay G 0)), (0, .ref bA), (2, .int (I32 (D : Int))), (3, .ref (lay G 84)), (4, .ref (lay G 85)), (5, .int (I32 (many : Int)))] [] σ → AW l G f (RL, cL_law, 16, some .boolean) (60, 600086, 7301442) Q [] kk nn 257 [(12, .int (I32 (k : Int))), (11, .int (I32 (sm (tiV y) k))), (10, .int (I32 g)), (9, .int (I32 e)), (8, .int (I32 F)), (7, .int (I32 (days : Int))), (6, .int (I32 (t : Int))), (1, .ref (lay G 0)), (0, .ref bA), (2, .int (I32 (D : Int))), (3, .ref (lay G 84)), (4, .ref (lay G 85)), (5, .int (I32 (many : Int)))] [] σ := by
  intro n
  induction n using Nat.strongRecOn with | _ n ih =>
  intro k kk nn hn hk1 hk2 K
  refine A_iload dL_law_257 0 rfl ?_
  refine A_iload_n dL_law_259 rfl 9 rfl ?_
  refine J_icmp_ge (tgt := 280) dL_law_260 (by decide) (by first | with_reducible exact iand_i32 _ _ | exact i32_eq ⟨by omega, by omega⟩ | with_reducible exact i32_i32 _ | rfl) (by first | with_reducible exact iand_i32 _ _ | exact i32_eq ⟨by omega, by omega⟩ | with_reducible exact i32_i32 _ | rfl) (fun h260 => ?_) (fun h260 => ?_)
  · obtain rfl : n = 0 := by omega
    obtain rfl : k = D := by omega
    refine A_lv [1, 3, 4, 5, 6, 7, 8, 9, 10, 11, 12] rfl ?_
    exact K
  · refine A_iload dL_law_263 1 rfl ?_
    refine A_aload_n dL_law_265 rfl 7 rfl ?_
    refine A_iload dL_law_266 0 rfl ?_
    refine A_Vm1 (k2 := _) (n2 := _) mv_L_113 lk_0 rfl rfl (L_ti hlt h (x := k) ⟨by omega, by omega⟩) (Nat.le_of_ble_eq_true rfl) (by omega) (by omega) rfl rfl dL_law_268 ?_
    refine A_iadd dL_law_271 ?_
    refine A_istore (lv2 := [(11, _), (12, _), (10, _), (9, _), (8, _), (7, _), (6, _), (1, _), (0, _), (2, _), (3, _), (4, _), (5, _)]) dL_law_272 (by decide) rfl ?_
    refine A_iinc (lv2 := [(12, _), (11, _), (10, _), (9, _), (8, _), (7, _), (6, _), (1, _), (0, _), (2, _), (3, _), (4, _), (5, _)]) dL_law_274 1 rfl (by decide) rfl ?_
    refine A_goto (tgt := 257) dL_law_277 (by decide) ?_
    refine A_lv [0, 1, 2, 3, 4, 5, 6, 7, 8, 9, 10, 11, 12] rfl ?_
    rw [show sm (tiV y) k + tiV y k = sm (tiV y) (k + 1) from rfl, show ((k : Int) + 1) = ((k + 1 : Nat) : Int) from by omega]
    obtain ⟨n, rfl⟩ : ∃ q, n = q + 1 := ⟨n - 1, by omega⟩
    refine ih n (by omega) (k + 1) _ _ (by omega) (by omega) (by omega) ?_
    rw [show kk + 1 + 1 * n = kk + 1 * (n + 1) from by omega, show nn + 6 + 6 * n = nn + 6 * (n + 1) from by omega]
    exact K
set_option maxRecDepth 100000 in
set_option maxHeartbeats 4000000 in
theorem w_law4 {D many t days : Nat} {so : Nat → Int} (kk nn : Nat) (hk1 : kk ≤ 600086) (hk2 : nn ≤ 7301442) : ∀ (n k : Nat) (σ y : Sg), k + n = 3 → Rel σ y → JT D many so y → (∀ i, i < many → σ 85 (4 * i) = so i) → (∀ (F : Int) (σ y : Sg), Rel σ y → JT D many so y → (∀ i, i < many → σ 85 (4 * i) = so i) → AW l G f (RL, cL_law, 16, some .boolean) (60, 600086, 7301442) Q [] kk nn 405 [(8, .int (I32 F)), (7, .int (I32 (days : Int))), (6, .int (I32 (t : Int))), (1, .ref (lay G 0)), (0, .ref bA), (2, .int (I32 (D : Int))), (3, .ref (lay G 84)), (4, .ref (lay G 85)), (5, .int (I32 (many : Int)))] [] σ) → AW l G f (RL, cL_law, 16, some .boolean) (60, 600086, 7301442) Q [] kk nn 365 [(14, .int (I32 (k : Int))), (8, .int (I32 (afV y))), (7, .int (I32 (days : Int))), (6, .int (I32 (t : Int))), (1, .ref (lay G 0)), (0, .ref bA), (2, .int (I32 (D : Int))), (3, .ref (lay G 84)), (4, .ref (lay G 85)), (5, .int (I32 (many : Int)))] [] σ := by
  intro n
  induction n using Nat.strongRecOn with | _ n ih =>
  intro k σ y hn h hj hs K
  refine A_iload dL_law_365 0 rfl ?_
  refine A_iconst dL_law_367 ?_
  refine J_icmp_ge (tgt := 405) dL_law_368 (by decide) (by first | with_reducible exact iand_i32 _ _ | exact i32_eq ⟨by omega, by omega⟩ | with_reducible exact i32_i32 _ | rfl) (by first | with_reducible exact iand_i32 _ _ | exact i32_eq ⟨by omega, by omega⟩ | with_reducible exact i32_i32 _ | rfl) (fun h368 => ?_) (fun h368 => ?_)
  · obtain rfl : n = 0 := by omega
    refine A_lv [1, 2, 3, 4, 5, 6, 7, 8, 9] rfl ?_
    exact K (afV y) σ y h hj hs
  · obtain ⟨a1, h2, j2, b1, b2⟩ := st_im h hj
    have hF := afV_bd (σ := y)
    have hF2 := afV_bd (σ := imRS y)
    refine A_aload_n dL_law_371 rfl 4 rfl ?_
    refine A_Va0 mv_L_123 lk_0 rfl rfl (L_im h hj) (Nat.le_of_ble_eq_true rfl) (by omega) (by omega) dL_law_372 ?_
    refine A_istore (lv2 := [(15, _), (14, _), (8, _), (7, _), (6, _), (1, _), (0, _), (2, _), (3, _), (4, _), (5, _)]) dL_law_375 (by decide) rfl ?_
    refine A_iload dL_law_377 0 rfl ?_
    refine A_iload dL_law_379 2 rfl ?_
    refine J_icmp_gt (tgt := 393) dL_law_381 (by decide) (by first | with_reducible exact iand_i32 _ _ | exact i32_eq ⟨by omega, by omega⟩ | with_reducible exact i32_i32 _ | rfl) (by first | with_reducible exact iand_i32 _ _ | exact i32_eq ⟨by omega, by omega⟩ | with_reducible exact i32_i32 _ | rfl) (fun h381 => ?_) (fun h381 => ?_)
    · exfalso; omega
      --end
    · refine A_iload dL_law_384 0 rfl ?_
      refine A_aload_n dL_law_386 rfl 5 rfl ?_
      refine A_Va0 mv_L_100 lk_0 rfl rfl (L_fa h2) (Nat.le_of_ble_eq_true rfl) (by omega) (by omega) dL_law_387 ?_
      refine J_icmp_eq (tgt := 395) dL_law_390 (by decide) (by first | with_reducible exact iand_i32 _ _ | exact i32_eq ⟨by omega, by omega⟩ | with_reducible exact i32_i32 _ | rfl) (by first | with_reducible exact iand_i32 _ _ | exact i32_eq ⟨by omega, by omega⟩ | with_reducible exact i32_i32 _ | rfl) (fun h390 => ?_) (fun h390 => ?_)
      · refine A_iload dL_law_395 0 rfl ?_
        refine A_istore (lv2 := [(8, _), (15, _), (14, _), (7, _), (6, _), (1, _), (0, _), (2, _), (3, _), (4, _), (5, _)]) dL_law_397 (by decide) rfl ?_
        refine A_iinc (lv2 := [(14, _), (8, _), (15, _), (7, _), (6, _), (1, _), (0, _), (2, _), (3, _), (4, _), (5, _)]) dL_law_399 2 rfl (by decide) rfl ?_
        refine A_goto (tgt := 365) dL_law_402 (by decide) ?_
        refine A_lv [0, 1, 3, 4, 5, 6, 7, 8, 9, 10] rfl ?_
        rw [show ((k : Int) + 1) = ((k + 1 : Nat) : Int) from by omega, ← b2]
        obtain ⟨n, rfl⟩ : ∃ q, n = q + 1 := ⟨n - 1, by omega⟩
        exact ih n (by omega) (k + 1) (cbC σ) (imRS y) (by omega) h2 j2 (fun i hi => by rw [cbC_c (by decide)]; exact hs i hi) K
      · exfalso; exact h390 b2.symm
        --end
end S94
