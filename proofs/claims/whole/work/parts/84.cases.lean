/-! the cases of the law: printed by program (wip/whole/gen/law.py) -/
section S84
variable {l : Launch} {G : Gx} {σ : Sg}
theorem Rel.tb (h : Rel σ σ) : Rb σ := h.2.2.2.2.2.2.2.2.1.1
theorem Rel.tt (h : Rel σ σ) : Rt σ := h.2.2.2.2.2.2.2.2.1.2.1
theorem Rel.t9 (h : Rel σ σ) : 0 ≤ σ 84 9 ∧ σ 84 9 ≤ 1500 := h.2.2.2.2.2.2.2.2.1.2.2
theorem Rel.tf (h : Rel σ σ) : σ 84 3 = 0 ∨ σ 84 3 = 1 := h.2.2.2.2.2.2.2.2.2.2.imp And.left And.left
theorem Rel.tc {z : Sg} (h : Rel z σ) : Rb σ ∧ Rt σ ∧ 0 ≤ σ 84 9 ∧ σ 84 9 ≤ 1500 := h.2.2.2.2.2.2.2.2.1
theorem Rel.tfl {z : Sg} (h : Rel z σ) : σ 84 3 = 0 ∨ σ 84 3 = 1 := h.2.2.2.2.2.2.2.2.2.2.imp And.left And.left
theorem cmp_self0 (a : Int) : i32 (cmpI a a) = 0 := by unfold cmpI; rw [if_neg (by omega), if_pos rfl]; rfl
abbrev LW (l : Launch) (G : Gx) (f : Fm) (Q : State → Prop) (k n pc : Nat) (lv : List (Nat × Value)) (st : List Value) (σ : Sg) : Prop := AW l G f (RL, cL_law, 9, some .boolean) (60, 601024, 7293034) Q [] k n pc lv st σ
abbrev lvL (G : Gx) (bA : Nat) (i : Int) : List (Nat × Value) := [(4, .int (I32 i)), (0, .ref bA), (1, .ref (lay G 0)), (2, .ref (lay G 84)), (3, .ref (lay G 112))]
theorem A_SH3 {f : Fm} {own : String} {cc : ByteArray} {nL : Nat} {rt : Option FieldType} {dd rc rs : Nat} {Q : State → Prop} {xs : va_W} {k n pc k2 n2 : Nat} {lv : List (Nat × Value)} {rest : List Value} {σ σ1 : Sg} {y : MethodName} {idx : Nat} {c2 : ByteArray} {nL2 : Nat} {rt2 : Option FieldType} {d mc ms : Nat} {hh : List (Nat × Nat × Nat × Nat)} {vr : Value} {v0 v1 v2 : Value} (ml : MSH own idx y c2 nL2 rt2 hh 3) (hct : CtH l G y c2 nL2 rt2 hh d mc ms [v0, v1, v2] σ (some vr) σ1) (hroom : (rest.map fun v => v.category).sum ≤ 8) (hd : d + 1 ≤ dd) (hm : k + mc ≤ rc ∧ n + ms ≤ rs) (e1 : k + mc = k2) (e2 : n + ms = n2) (dec : decode cc pc = .ok (.invokestatic idx, 3))
    (g : AW l G f (own, cc, nL, rt) (dd, rc, rs) Q xs k2 n2 (pc + 3) lv (vr :: rest) σ1) : AW l G f (own, cc, nL, rt) (dd, rc, rs) Q xs k n pc lv (v2 :: v1 :: v0 :: rest) σ := by
  subst e1; subst e2
  exact A_callSH (As := [v0, v1, v2]) (r := some vr) ml hct rfl hroom hd hm dec g
theorem A_SH4 {f : Fm} {own : String} {cc : ByteArray} {nL : Nat} {rt : Option FieldType} {dd rc rs : Nat} {Q : State → Prop} {xs : va_W} {k n pc k2 n2 : Nat} {lv : List (Nat × Value)} {rest : List Value} {σ σ1 : Sg} {y : MethodName} {idx : Nat} {c2 : ByteArray} {nL2 : Nat} {rt2 : Option FieldType} {d mc ms : Nat} {hh : List (Nat × Nat × Nat × Nat)} {vr : Value} {v0 v1 v2 v3 : Value} (ml : MSH own idx y c2 nL2 rt2 hh 4) (hct : CtH l G y c2 nL2 rt2 hh d mc ms [v0, v1, v2, v3] σ (some vr) σ1) (hroom : (rest.map fun v => v.category).sum ≤ 8) (hd : d + 1 ≤ dd) (hm : k + mc ≤ rc ∧ n + ms ≤ rs) (e1 : k + mc = k2) (e2 : n + ms = n2) (dec : decode cc pc = .ok (.invokestatic idx, 3))
    (g : AW l G f (own, cc, nL, rt) (dd, rc, rs) Q xs k2 n2 (pc + 3) lv (vr :: rest) σ1) : AW l G f (own, cc, nL, rt) (dd, rc, rs) Q xs k n pc lv (v3 :: v2 :: v1 :: v0 :: rest) σ := by
  subst e1; subst e2
  exact A_callSH (As := [v0, v1, v2, v3]) (r := some vr) ml hct rfl hroom hd hm dec g
theorem A_SH5 {f : Fm} {own : String} {cc : ByteArray} {nL : Nat} {rt : Option FieldType} {dd rc rs : Nat} {Q : State → Prop} {xs : va_W} {k n pc k2 n2 : Nat} {lv : List (Nat × Value)} {rest : List Value} {σ σ1 : Sg} {y : MethodName} {idx : Nat} {c2 : ByteArray} {nL2 : Nat} {rt2 : Option FieldType} {d mc ms : Nat} {hh : List (Nat × Nat × Nat × Nat)} {vr : Value} {v0 v1 v2 v3 v4 : Value} (ml : MSH own idx y c2 nL2 rt2 hh 5) (hct : CtH l G y c2 nL2 rt2 hh d mc ms [v0, v1, v2, v3, v4] σ (some vr) σ1) (hroom : (rest.map fun v => v.category).sum ≤ 8) (hd : d + 1 ≤ dd) (hm : k + mc ≤ rc ∧ n + ms ≤ rs) (e1 : k + mc = k2) (e2 : n + ms = n2) (dec : decode cc pc = .ok (.invokestatic idx, 3))
    (g : AW l G f (own, cc, nL, rt) (dd, rc, rs) Q xs k2 n2 (pc + 3) lv (vr :: rest) σ1) : AW l G f (own, cc, nL, rt) (dd, rc, rs) Q xs k n pc lv (v4 :: v3 :: v2 :: v1 :: v0 :: rest) σ := by
  subst e1; subst e2
  exact A_callSH (As := [v0, v1, v2, v3, v4]) (r := some vr) ml hct rfl hroom hd hm dec g
theorem A_SH7 {f : Fm} {own : String} {cc : ByteArray} {nL : Nat} {rt : Option FieldType} {dd rc rs : Nat} {Q : State → Prop} {xs : va_W} {k n pc k2 n2 : Nat} {lv : List (Nat × Value)} {rest : List Value} {σ σ1 : Sg} {y : MethodName} {idx : Nat} {c2 : ByteArray} {nL2 : Nat} {rt2 : Option FieldType} {d mc ms : Nat} {hh : List (Nat × Nat × Nat × Nat)} {vr : Value} {v0 v1 v2 v3 v4 v5 v6 : Value} (ml : MSH own idx y c2 nL2 rt2 hh 7) (hct : CtH l G y c2 nL2 rt2 hh d mc ms [v0, v1, v2, v3, v4, v5, v6] σ (some vr) σ1) (hroom : (rest.map fun v => v.category).sum ≤ 8) (hd : d + 1 ≤ dd) (hm : k + mc ≤ rc ∧ n + ms ≤ rs) (e1 : k + mc = k2) (e2 : n + ms = n2) (dec : decode cc pc = .ok (.invokestatic idx, 3))
    (g : AW l G f (own, cc, nL, rt) (dd, rc, rs) Q xs k2 n2 (pc + 3) lv (vr :: rest) σ1) : AW l G f (own, cc, nL, rt) (dd, rc, rs) Q xs k n pc lv (v6 :: v5 :: v4 :: v3 :: v2 :: v1 :: v0 :: rest) σ := by
  subst e1; subst e2
  exact A_callSH (As := [v0, v1, v2, v3, v4, v5, v6]) (r := some vr) ml hct rfl hroom hd hm dec g
set_option maxRecDepth 100000 in
set_option maxHeartbeats 4000000 in
theorem law_0 {f : Fm} {Q : State → Prop} {bA L : Nat} {X : Nat → Int32} (hlt : l.stackTraces = false) (hS : Scr f bA L X) (hL : L ≤ 2147483647) {i : Int} (i0 : 0 ≤ i) (i1 : i + 6 ≤ L) {k n : Nat} (hk : k + 20 ≤ 601024) (hn : n + 100 ≤ 7293034) (hR : Rel σ σ) (K : ∀ (y : Sg) (k2 n2 : Nat), Rel y y → k2 ≤ k + 20 → n2 ≤ n + 100 → LW l G f Q k2 n2 1392 (lvL G bA i) [] y) : LW l G f Q k n 152 (lvL G bA i) [] σ := by
  obtain ⟨kv, s2, hw, hR2, h84, hkv, h112, hR3⟩ := ok_feed (σ := σ) hR ((X (i + 1).toNat).toInt) ((X (i + 2).toNat).toInt) ((X (i + 3).toNat).toInt) ((X (i + 4).toNat).toInt) ((X (i + 5).toNat).toInt)
  have hkl : kv ≤ 2 := Int.le_trans hkv.2 (by decide)
  have ek : i32 kv = kv := i32_eq ⟨by omega, by omega⟩
  refine A_aload_n dL_law_152 rfl 2 rfl ?_
  refine A_aload_n dL_law_153 rfl 1 rfl ?_
  refine A_iload dL_law_154 0 rfl ?_
  refine A_iconst dL_law_156 ?_
  refine A_iadd dL_law_157 ?_
  refine A_sld (j := i + 1) hS (by omega) (by omega) hL dL_law_158 ?_
  refine A_aload_n dL_law_159 rfl 1 rfl ?_
  refine A_iload dL_law_160 0 rfl ?_
  refine A_iconst dL_law_162 ?_
  refine A_iadd dL_law_163 ?_
  refine A_sld (j := i + 2) hS (by omega) (by omega) hL dL_law_164 ?_
  refine A_aload_n dL_law_165 rfl 1 rfl ?_
  refine A_iload dL_law_166 0 rfl ?_
  refine A_iconst dL_law_168 ?_
  refine A_iadd dL_law_169 ?_
  refine A_sld (j := i + 3) hS (by omega) (by omega) hL dL_law_170 ?_
  refine A_aload_n dL_law_171 rfl 1 rfl ?_
  refine A_iload dL_law_172 0 rfl ?_
  refine A_iconst dL_law_174 ?_
  refine A_iadd dL_law_175 ?_
  refine A_sld (j := i + 4) hS (by omega) (by omega) hL dL_law_176 ?_
  refine A_aload_n dL_law_177 rfl 1 rfl ?_
  refine A_iload dL_law_178 0 rfl ?_
  refine A_iconst dL_law_180 ?_
  refine A_iadd dL_law_181 ?_
  refine A_sld (j := i + 5) hS (by omega) (by omega) hL dL_law_182 ?_
  refine A_aload_n dL_law_183 rfl 4 rfl ?_
  refine A_SH7 ml_feed (c_L_feed σ ((X (i + 1).toNat).toInt) ((X (i + 2).toNat).toInt) ((X (i + 3).toNat).toInt) ((X (i + 4).toNat).toInt) ((X (i + 5).toNat).toInt) hlt hw) (Nat.le_of_ble_eq_true rfl) (by decide) ⟨by omega, by omega⟩ rfl rfl dL_law_184 ?_
  refine A_istore dL_law_187 (by decide) rfl ?_
  refine A_aload_n dL_law_189 rfl 4 rfl ?_
  refine A_aload_n dL_law_190 rfl 2 rfl ?_
  refine A_iload dL_law_191 1 rfl ?_
  refine A_iconst dL_law_193 ?_
  refine A_iadd dL_law_194 ?_
  refine A_sld (j := i + 1) hS (by omega) (by omega) hL dL_law_195 ?_
  refine A_aload_n dL_law_196 rfl 2 rfl ?_
  refine A_iload dL_law_197 1 rfl ?_
  refine A_iconst dL_law_199 ?_
  refine A_iadd dL_law_200 ?_
  refine A_sld (j := i + 2) hS (by omega) (by omega) hL dL_law_201 ?_
  refine A_aload_n dL_law_202 rfl 2 rfl ?_
  refine A_iload dL_law_203 1 rfl ?_
  refine A_iconst dL_law_205 ?_
  refine A_iadd dL_law_206 ?_
  refine A_sld (j := i + 3) hS (by omega) (by omega) hL dL_law_207 ?_
  refine A_aload_n dL_law_208 rfl 2 rfl ?_
  refine A_iload dL_law_209 1 rfl ?_
  refine A_iconst dL_law_211 ?_
  refine A_iadd dL_law_212 ?_
  refine A_sld (j := i + 4) hS (by omega) (by omega) hL dL_law_213 ?_
  refine A_aload_n dL_law_214 rfl 2 rfl ?_
  refine A_iload dL_law_215 1 rfl ?_
  refine A_iconst dL_law_217 ?_
  refine A_iadd dL_law_218 ?_
  refine A_sld (j := i + 5) hS (by omega) (by omega) hL dL_law_219 ?_
  refine A_Vm5 mv_L_78 lk_84 rfl rfl (c_X11_feed s2 ((X (i + 1).toNat).toInt) ((X (i + 2).toNat).toInt) ((X (i + 3).toNat).toInt) ((X (i + 4).toNat).toInt) ((X (i + 5).toNat).toInt) hR2.tc.1) (Nat.le_of_ble_eq_true rfl) (by decide) ⟨by omega, by omega⟩ rfl rfl dL_law_220 ?_
  refine A_istore dL_law_223 (by decide) rfl ?_
  refine A_aload_n dL_law_225 rfl 5 rfl ?_
  refine A_Vm0 mv_L_79 lk_84 rfl rfl (c_X11_thrown _) (Nat.le_of_ble_eq_true rfl) (by decide) ⟨by omega, by omega⟩ rfl rfl dL_law_226 ?_
  refine A_iload dL_law_229 1 rfl ?_
  refine J_icmp_eq (tgt := 236) dL_law_231 (by decide) (congrArg i32 h84) rfl (fun _ => ?_) (fun z => absurd rfl z)
  refine A_iload dL_law_236 1 rfl ?_
  refine J_if_ne (tgt := 253) dL_law_238 (by decide) ek (fun _ => ?_) (fun hk0 => ?_)
  · refine A_goto dL_law_253 (tgt := 1392) (by decide) ?_
    refine A_lv [2, 3, 4, 5, 6] rfl ?_
    exact K _ _ _ hR3 (by omega) (by omega)
  · refine A_aload_n dL_law_241 rfl 6 rfl ?_
    refine A_iconst dL_law_242 ?_
    refine J_lald (z1 := 0) lk_112 rfl (by decide) (by decide) (by decide) dL_law_243 ?_
    refine A_iload dL_law_244 0 rfl ?_
    refine J_i2l dL_law_246 rfl ?_
    refine J_lcmp dL_law_247 (congrArg i64 (h112 hk0)) rfl ?_
    refine J_if_eq (tgt := 253) dL_law_248 (by decide) (cmp_self0 _) (fun _ => ?_) (fun z => absurd rfl z)
    refine A_goto dL_law_253 (tgt := 1392) (by decide) ?_
    refine A_lv [2, 3, 4, 5, 6] rfl ?_
    exact K _ _ _ hR3 (by omega) (by omega)
set_option maxRecDepth 100000 in
set_option maxHeartbeats 4000000 in
theorem law_1 {f : Fm} {Q : State → Prop} {bA L : Nat} {X : Nat → Int32} (hlt : l.stackTraces = false) (hS : Scr f bA L X) (hL : L ≤ 2147483647) {i : Int} (i0 : 0 ≤ i) (i1 : i + 6 ≤ L) {k n : Nat} (hk : k + 20 ≤ 601024) (hn : n + 100 ≤ 7293034) (hR : Rel σ σ) (K : ∀ (y : Sg) (k2 n2 : Nat), Rel y y → k2 ≤ k + 20 → n2 ≤ n + 100 → LW l G f Q k2 n2 1392 (lvL G bA i) [] y) : LW l G f Q k n 256 (lvL G bA i) [] σ := by
  obtain ⟨kv, s2, hw, hR2, h84, hkv, h112, hR3⟩ := ok_trim (σ := σ) hR (a := (X (i + 1).toNat).toInt) (I32_inr _)
  have hkl : kv ≤ 2 := Int.le_trans hkv.2 (by decide)
  have ek : i32 kv = kv := i32_eq ⟨by omega, by omega⟩
  refine A_aload_n dL_law_256 rfl 2 rfl ?_
  refine A_aload_n dL_law_257 rfl 1 rfl ?_
  refine A_iload dL_law_258 0 rfl ?_
  refine A_iconst dL_law_260 ?_
  refine A_iadd dL_law_261 ?_
  refine A_sld (j := i + 1) hS (by omega) (by omega) hL dL_law_262 ?_
  refine A_aload_n dL_law_263 rfl 4 rfl ?_
  refine A_SH3 ml_trim (c_L_trim σ ((X (i + 1).toNat).toInt) hlt hw) (Nat.le_of_ble_eq_true rfl) (by decide) ⟨by omega, by omega⟩ rfl rfl dL_law_264 ?_
  refine A_istore dL_law_267 (by decide) rfl ?_
  refine A_aload_n dL_law_269 rfl 4 rfl ?_
  refine A_aload_n dL_law_270 rfl 2 rfl ?_
  refine A_iload dL_law_271 1 rfl ?_
  refine A_iconst dL_law_273 ?_
  refine A_iadd dL_law_274 ?_
  refine A_sld (j := i + 1) hS (by omega) (by omega) hL dL_law_275 ?_
  refine A_Vm1 mv_L_86 lk_84 rfl rfl (c_X11_trim s2 ((X (i + 1).toNat).toInt) ) (Nat.le_of_ble_eq_true rfl) (by decide) ⟨by omega, by omega⟩ rfl rfl dL_law_276 ?_
  refine A_istore dL_law_279 (by decide) rfl ?_
  refine A_aload_n dL_law_281 rfl 5 rfl ?_
  refine A_Vm0 mv_L_79 lk_84 rfl rfl (c_X11_thrown _) (Nat.le_of_ble_eq_true rfl) (by decide) ⟨by omega, by omega⟩ rfl rfl dL_law_282 ?_
  refine A_iload dL_law_285 1 rfl ?_
  refine J_icmp_eq (tgt := 292) dL_law_287 (by decide) (congrArg i32 h84) rfl (fun _ => ?_) (fun z => absurd rfl z)
  refine A_iload dL_law_292 1 rfl ?_
  refine J_if_ne (tgt := 309) dL_law_294 (by decide) ek (fun _ => ?_) (fun hk0 => ?_)
  · refine A_goto dL_law_309 (tgt := 1392) (by decide) ?_
    refine A_lv [2, 3, 4, 5, 6] rfl ?_
    exact K _ _ _ hR3 (by omega) (by omega)
  · refine A_aload_n dL_law_297 rfl 6 rfl ?_
    refine A_iconst dL_law_298 ?_
    refine J_lald (z1 := 0) lk_112 rfl (by decide) (by decide) (by decide) dL_law_299 ?_
    refine A_iload dL_law_300 0 rfl ?_
    refine J_i2l dL_law_302 rfl ?_
    refine J_lcmp dL_law_303 (congrArg i64 (h112 hk0)) rfl ?_
    refine J_if_eq (tgt := 309) dL_law_304 (by decide) (cmp_self0 _) (fun _ => ?_) (fun z => absurd rfl z)
    refine A_goto dL_law_309 (tgt := 1392) (by decide) ?_
    refine A_lv [2, 3, 4, 5, 6] rfl ?_
    exact K _ _ _ hR3 (by omega) (by omega)
set_option maxRecDepth 100000 in
set_option maxHeartbeats 4000000 in
theorem law_2 {f : Fm} {Q : State → Prop} {bA L : Nat} {X : Nat → Int32} (hlt : l.stackTraces = false) (hS : Scr f bA L X) (hL : L ≤ 2147483647) {i : Int} (i0 : 0 ≤ i) (i1 : i + 6 ≤ L) {k n : Nat} (hk : k + 20 ≤ 601024) (hn : n + 100 ≤ 7293034) (hR : Rel σ σ) (K : ∀ (y : Sg) (k2 n2 : Nat), Rel y y → k2 ≤ k + 20 → n2 ≤ n + 100 → LW l G f Q k2 n2 1392 (lvL G bA i) [] y) : LW l G f Q k n 312 (lvL G bA i) [] σ := by
  obtain ⟨r1, r2⟩ := ok_S rzS hR (fun τ ht => ht.compile.2) (fun k hk => hR.compile_c hk) (fun τ ht k hk => ht.compile_r hk) (cmS σ) (fun _ _ => rfl)
  refine A_aload_n dL_law_312 rfl 2 rfl ?_
  refine A_Vm0 mv_L_87 lk_0 rfl rfl (c_X10_compile σ hR.len) (Nat.le_of_ble_eq_true rfl) (by decide) ⟨by omega, by omega⟩ rfl rfl dL_law_313 ?_
  refine A_aload_n dL_law_316 rfl 3 rfl ?_
  refine A_Vm0 mv_L_90 lk_84 rfl rfl (c_X11_compile (σ := cmS σ) r1.tc.1 r1.tc.2.1 r1.tc.2.2) (Nat.le_of_ble_eq_true rfl) (by decide) ⟨by omega, by omega⟩ rfl rfl dL_law_317 ?_
  refine J_icmp_eq (tgt := 1392) dL_law_320 (by decide) (congrArg Int32.toInt r1.compile.1) rfl (fun _ => ?_) (fun z => absurd rfl z)
  exact K _ _ _ r2 (by omega) (by omega)
set_option maxRecDepth 100000 in
set_option maxHeartbeats 4000000 in
theorem law_3 {f : Fm} {Q : State → Prop} {bA L : Nat} {X : Nat → Int32} (hlt : l.stackTraces = false) (hS : Scr f bA L X) (hL : L ≤ 2147483647) {i : Int} (i0 : 0 ≤ i) (i1 : i + 6 ≤ L) {k n : Nat} (hk : k + 20 ≤ 601024) (hn : n + 100 ≤ 7293034) (hR : Rel σ σ) (K : ∀ (y : Sg) (k2 n2 : Nat), Rel y y → k2 ≤ k + 20 → n2 ≤ n + 100 → LW l G f Q k2 n2 1392 (lvL G bA i) [] y) : LW l G f Q k n 325 (lvL G bA i) [] σ := by
  refine A_aload_n dL_law_325 rfl 2 rfl ?_
  refine A_Vm0 mv_L_91 lk_0 rfl rfl (c_X10_errorAt σ) (Nat.le_of_ble_eq_true rfl) (by decide) ⟨by omega, by omega⟩ rfl rfl dL_law_326 ?_
  refine A_aload_n dL_law_329 rfl 3 rfl ?_
  refine A_Vm0 mv_L_94 lk_84 rfl rfl (c_X11_errorAt) (Nat.le_of_ble_eq_true rfl) (by decide) ⟨by omega, by omega⟩ rfl rfl dL_law_330 ?_
  refine J_icmp_eq (tgt := 1392) dL_law_333 (by decide) (congrArg i32 hR.2.2.2.2.2.2.2.2.2.1.1) rfl (fun _ => ?_) (fun z => absurd rfl z)
  exact K _ _ _ ((hR.no 0).cg1 (fun k hk => up_r _ _ _ (by omega))) (by omega) (by omega)
set_option maxRecDepth 100000 in
set_option maxHeartbeats 4000000 in
theorem law_4 {f : Fm} {Q : State → Prop} {bA L : Nat} {X : Nat → Int32} (hlt : l.stackTraces = false) (hS : Scr f bA L X) (hL : L ≤ 2147483647) {i : Int} (i0 : 0 ≤ i) (i1 : i + 6 ≤ L) {k n : Nat} (hk : k + 20 ≤ 601024) (hn : n + 100 ≤ 7293034) (hR : Rel σ σ) (K : ∀ (y : Sg) (k2 n2 : Nat), Rel y y → k2 ≤ k + 20 → n2 ≤ n + 100 → LW l G f Q k2 n2 1392 (lvL G bA i) [] y) : LW l G f Q k n 338 (lvL G bA i) [] σ := by
  obtain ⟨kv, s2, hw, hR2, h84, hkv, h112, hR3⟩ := ok_count (σ := σ) hR (a := (X (i + 1).toNat).toInt) (I32_inr _)
  have hkl : kv ≤ 2 := Int.le_trans hkv.2 (by decide)
  have ek : i32 kv = kv := i32_eq ⟨by omega, by omega⟩
  refine A_aload_n dL_law_338 rfl 2 rfl ?_
  refine A_aload_n dL_law_339 rfl 1 rfl ?_
  refine A_iload dL_law_340 0 rfl ?_
  refine A_iconst dL_law_342 ?_
  refine A_iadd dL_law_343 ?_
  refine A_sld (j := i + 1) hS (by omega) (by omega) hL dL_law_344 ?_
  refine A_aload_n dL_law_345 rfl 4 rfl ?_
  refine A_SH3 ml_count (c_L_count σ ((X (i + 1).toNat).toInt) hlt hw) (Nat.le_of_ble_eq_true rfl) (by decide) ⟨by omega, by omega⟩ rfl rfl dL_law_346 ?_
  refine A_istore dL_law_349 (by decide) rfl ?_
  refine A_aload_n dL_law_351 rfl 4 rfl ?_
  refine A_aload_n dL_law_352 rfl 2 rfl ?_
  refine A_iload dL_law_353 1 rfl ?_
  refine A_iconst dL_law_355 ?_
  refine A_iadd dL_law_356 ?_
  refine A_sld (j := i + 1) hS (by omega) (by omega) hL dL_law_357 ?_
  refine A_Vm1 mv_L_97 lk_84 rfl rfl (c_X11_count ((X (i + 1).toNat).toInt) (I32_inr _)) (Nat.le_of_ble_eq_true rfl) (by decide) ⟨by omega, by omega⟩ rfl rfl dL_law_358 ?_
  refine A_istore dL_law_361 (by decide) rfl ?_
  refine A_aload_n dL_law_363 rfl 5 rfl ?_
  refine A_Vm0 mv_L_79 lk_84 rfl rfl (c_X11_thrown _) (Nat.le_of_ble_eq_true rfl) (by decide) ⟨by omega, by omega⟩ rfl rfl dL_law_364 ?_
  refine A_iload dL_law_367 1 rfl ?_
  refine J_icmp_eq (tgt := 374) dL_law_369 (by decide) (congrArg i32 h84) rfl (fun _ => ?_) (fun z => absurd rfl z)
  refine A_iload dL_law_374 1 rfl ?_
  refine J_if_ne (tgt := 391) dL_law_376 (by decide) ek (fun _ => ?_) (fun hk0 => ?_)
  · refine A_goto dL_law_391 (tgt := 1392) (by decide) ?_
    refine A_lv [2, 3, 4, 5, 6] rfl ?_
    exact K _ _ _ hR3 (by omega) (by omega)
  · refine A_aload_n dL_law_379 rfl 6 rfl ?_
    refine A_iconst dL_law_380 ?_
    refine J_lald (z1 := 0) lk_112 rfl (by decide) (by decide) (by decide) dL_law_381 ?_
    refine A_iload dL_law_382 0 rfl ?_
    refine J_i2l dL_law_384 rfl ?_
    refine J_lcmp dL_law_385 (congrArg i64 (h112 hk0)) rfl ?_
    refine J_if_eq (tgt := 391) dL_law_386 (by decide) (cmp_self0 _) (fun _ => ?_) (fun z => absurd rfl z)
    refine A_goto dL_law_391 (tgt := 1392) (by decide) ?_
    refine A_lv [2, 3, 4, 5, 6] rfl ?_
    exact K _ _ _ hR3 (by omega) (by omega)
set_option maxRecDepth 100000 in
set_option maxHeartbeats 4000000 in
theorem law_5 {f : Fm} {Q : State → Prop} {bA L : Nat} {X : Nat → Int32} (hlt : l.stackTraces = false) (hS : Scr f bA L X) (hL : L ≤ 2147483647) {i : Int} (i0 : 0 ≤ i) (i1 : i + 6 ≤ L) {k n : Nat} (hk : k + 20 ≤ 601024) (hn : n + 100 ≤ 7293034) (hR : Rel σ σ) (K : ∀ (y : Sg) (k2 n2 : Nat), Rel y y → k2 ≤ k + 20 → n2 ≤ n + 100 → LW l G f Q k2 n2 1392 (lvL G bA i) [] y) : LW l G f Q k n 394 (lvL G bA i) [] σ := by
  obtain ⟨r1, r2⟩ := ok_S rtS hR (fun τ ht => ht.test.2) (fun k hk => teS_c hk) (fun τ ht k hk => ht.test_r hk) (teS σ) (fun _ _ => rfl)
  refine A_aload_n dL_law_394 rfl 2 rfl ?_
  refine A_Vm0 mv_L_98 lk_0 rfl rfl (c_X10_test σ hR.len) (Nat.le_of_ble_eq_true rfl) (by decide) ⟨by omega, by omega⟩ rfl rfl dL_law_395 ?_
  refine A_aload_n dL_law_398 rfl 3 rfl ?_
  refine A_Vm0 mv_L_101 lk_84 rfl rfl (c_X11_test (σ := teS σ) r1.tc.1 r1.tc.2.1 r1.tc.2.2 r1.1.1) (Nat.le_of_ble_eq_true rfl) (by decide) ⟨by omega, by omega⟩ rfl rfl dL_law_399 ?_
  refine J_icmp_eq (tgt := 1392) dL_law_402 (by decide) (congrArg Int32.toInt r1.test.1) rfl (fun _ => ?_) (fun z => absurd rfl z)
  exact K _ _ _ r2 (by omega) (by omega)
set_option maxRecDepth 100000 in
set_option maxHeartbeats 4000000 in
theorem law_6 {f : Fm} {Q : State → Prop} {bA L : Nat} {X : Nat → Int32} (hlt : l.stackTraces = false) (hS : Scr f bA L X) (hL : L ≤ 2147483647) {i : Int} (i0 : 0 ≤ i) (i1 : i + 6 ≤ L) {k n : Nat} (hk : k + 20 ≤ 601024) (hn : n + 100 ≤ 7293034) (hR : Rel σ σ) (K : ∀ (y : Sg) (k2 n2 : Nat), Rel y y → k2 ≤ k + 20 → n2 ≤ n + 100 → LW l G f Q k2 n2 1392 (lvL G bA i) [] y) : LW l G f Q k n 407 (lvL G bA i) [] σ := by
  refine A_aload_n dL_law_407 rfl 2 rfl ?_
  refine A_Vm0 mv_L_102 lk_0 rfl rfl (c_X10_suited σ) (Nat.le_of_ble_eq_true rfl) (by decide) ⟨by omega, by omega⟩ rfl rfl dL_law_408 ?_
  refine A_aload_n dL_law_411 rfl 3 rfl ?_
  refine A_Vm0 mv_L_105 lk_84 rfl rfl (c_X11_suited) (Nat.le_of_ble_eq_true rfl) (by decide) ⟨by omega, by omega⟩ rfl rfl dL_law_412 ?_
  refine J_icmp_eq (tgt := 1392) dL_law_415 (by decide) (congrArg i32 hR.2.2.2.2.2.2.2.2.2.1.2) rfl (fun _ => ?_) (fun z => absurd rfl z)
  exact K _ _ _ ((hR.no 0).cg1 (fun k hk => up_r _ _ _ (by omega))) (by omega) (by omega)
set_option maxRecDepth 100000 in
set_option maxHeartbeats 4000000 in
theorem law_7 {f : Fm} {Q : State → Prop} {bA L : Nat} {X : Nat → Int32} (hlt : l.stackTraces = false) (hS : Scr f bA L X) (hL : L ≤ 2147483647) {i : Int} (i0 : 0 ≤ i) (i1 : i + 6 ≤ L) {k n : Nat} (hk : k + 20 ≤ 601024) (hn : n + 100 ≤ 7293034) (hR : Rel σ σ) (K : ∀ (y : Sg) (k2 n2 : Nat), Rel y y → k2 ≤ k + 20 → n2 ≤ n + 100 → LW l G f Q k2 n2 1392 (lvL G bA i) [] y) : LW l G f Q k n 420 (lvL G bA i) [] σ := by
  obtain ⟨kv, s2, hw, hR2, h84, hkv, h112, hR3⟩ := ok_food (σ := σ) hR (a := (X (i + 1).toNat).toInt) (b := (X (i + 2).toNat).toInt) (I32_inr _) (I32_inr _)
  have hkl : kv ≤ 2 := Int.le_trans hkv.2 (by decide)
  have ek : i32 kv = kv := i32_eq ⟨by omega, by omega⟩
  refine A_aload_n dL_law_420 rfl 2 rfl ?_
  refine A_aload_n dL_law_421 rfl 1 rfl ?_
  refine A_iload dL_law_422 0 rfl ?_
  refine A_iconst dL_law_424 ?_
  refine A_iadd dL_law_425 ?_
  refine A_sld (j := i + 1) hS (by omega) (by omega) hL dL_law_426 ?_
  refine A_aload_n dL_law_427 rfl 1 rfl ?_
  refine A_iload dL_law_428 0 rfl ?_
  refine A_iconst dL_law_430 ?_
  refine A_iadd dL_law_431 ?_
  refine A_sld (j := i + 2) hS (by omega) (by omega) hL dL_law_432 ?_
  refine A_aload_n dL_law_433 rfl 4 rfl ?_
  refine A_SH4 ml_food (c_L_food σ ((X (i + 1).toNat).toInt) ((X (i + 2).toNat).toInt) hlt hw) (Nat.le_of_ble_eq_true rfl) (by decide) ⟨by omega, by omega⟩ rfl rfl dL_law_434 ?_
  refine A_istore dL_law_437 (by decide) rfl ?_
  refine A_aload_n dL_law_439 rfl 4 rfl ?_
  refine A_aload_n dL_law_440 rfl 2 rfl ?_
  refine A_iload dL_law_441 1 rfl ?_
  refine A_iconst dL_law_443 ?_
  refine A_iadd dL_law_444 ?_
  refine A_sld (j := i + 1) hS (by omega) (by omega) hL dL_law_445 ?_
  refine A_aload_n dL_law_446 rfl 2 rfl ?_
  refine A_iload dL_law_447 1 rfl ?_
  refine A_iconst dL_law_449 ?_
  refine A_iadd dL_law_450 ?_
  refine A_sld (j := i + 2) hS (by omega) (by omega) hL dL_law_451 ?_
  refine A_Vm2 mv_L_109 lk_84 rfl rfl (c_X11_food_ ((X (i + 1).toNat).toInt) ((X (i + 2).toNat).toInt) hR2.1 (I32_inr _) (I32_inr _)) (Nat.le_of_ble_eq_true rfl) (by decide) ⟨by omega, by omega⟩ rfl rfl dL_law_452 ?_
  refine A_istore dL_law_455 (by decide) rfl ?_
  refine A_aload_n dL_law_457 rfl 5 rfl ?_
  refine A_Vm0 mv_L_79 lk_84 rfl rfl (c_X11_thrown _) (Nat.le_of_ble_eq_true rfl) (by decide) ⟨by omega, by omega⟩ rfl rfl dL_law_458 ?_
  refine A_iload dL_law_461 1 rfl ?_
  refine J_icmp_eq (tgt := 468) dL_law_463 (by decide) (congrArg i32 h84) rfl (fun _ => ?_) (fun z => absurd rfl z)
  refine A_iload dL_law_468 1 rfl ?_
  refine J_if_ne (tgt := 485) dL_law_470 (by decide) ek (fun _ => ?_) (fun hk0 => ?_)
  · refine A_goto dL_law_485 (tgt := 1392) (by decide) ?_
    refine A_lv [2, 3, 4, 5, 6] rfl ?_
    exact K _ _ _ hR3 (by omega) (by omega)
  · refine A_aload_n dL_law_473 rfl 6 rfl ?_
    refine A_iconst dL_law_474 ?_
    refine J_lald (z1 := 0) lk_112 rfl (by decide) (by decide) (by decide) dL_law_475 ?_
    refine A_iload dL_law_476 0 rfl ?_
    refine J_i2l dL_law_478 rfl ?_
    refine J_lcmp dL_law_479 (congrArg i64 (h112 hk0)) rfl ?_
    refine J_if_eq (tgt := 485) dL_law_480 (by decide) (cmp_self0 _) (fun _ => ?_) (fun z => absurd rfl z)
    refine A_goto dL_law_485 (tgt := 1392) (by decide) ?_
    refine A_lv [2, 3, 4, 5, 6] rfl ?_
    exact K _ _ _ hR3 (by omega) (by omega)
set_option maxRecDepth 100000 in
set_option maxHeartbeats 4000000 in
theorem law_8 {f : Fm} {Q : State → Prop} {bA L : Nat} {X : Nat → Int32} (hlt : l.stackTraces = false) (hS : Scr f bA L X) (hL : L ≤ 2147483647) {i : Int} (i0 : 0 ≤ i) (i1 : i + 6 ≤ L) {k n : Nat} (hk : k + 20 ≤ 601024) (hn : n + 100 ≤ 7293034) (hR : Rel σ σ) (K : ∀ (y : Sg) (k2 n2 : Nat), Rel y y → k2 ≤ k + 20 → n2 ≤ n + 100 → LW l G f Q k2 n2 1392 (lvL G bA i) [] y) : LW l G f Q k n 488 (lvL G bA i) [] σ := by
  obtain ⟨kv, s2, hw, hR2, h84, hkv, h112, hR3⟩ := ok_dish (σ := σ) hR (a := (X (i + 1).toNat).toInt) (b := (X (i + 2).toNat).toInt) (I32_inr _) (I32_inr _)
  have hkl : kv ≤ 2 := Int.le_trans hkv.2 (by decide)
  have ek : i32 kv = kv := i32_eq ⟨by omega, by omega⟩
  refine A_aload_n dL_law_488 rfl 2 rfl ?_
  refine A_aload_n dL_law_489 rfl 1 rfl ?_
  refine A_iload dL_law_490 0 rfl ?_
  refine A_iconst dL_law_492 ?_
  refine A_iadd dL_law_493 ?_
  refine A_sld (j := i + 1) hS (by omega) (by omega) hL dL_law_494 ?_
  refine A_aload_n dL_law_495 rfl 1 rfl ?_
  refine A_iload dL_law_496 0 rfl ?_
  refine A_iconst dL_law_498 ?_
  refine A_iadd dL_law_499 ?_
  refine A_sld (j := i + 2) hS (by omega) (by omega) hL dL_law_500 ?_
  refine A_aload_n dL_law_501 rfl 4 rfl ?_
  refine A_SH4 ml_dish (c_L_dish σ ((X (i + 1).toNat).toInt) ((X (i + 2).toNat).toInt) hlt hw) (Nat.le_of_ble_eq_true rfl) (by decide) ⟨by omega, by omega⟩ rfl rfl dL_law_502 ?_
  refine A_istore dL_law_505 (by decide) rfl ?_
  refine A_aload_n dL_law_507 rfl 4 rfl ?_
  refine A_aload_n dL_law_508 rfl 2 rfl ?_
  refine A_iload dL_law_509 1 rfl ?_
  refine A_iconst dL_law_511 ?_
  refine A_iadd dL_law_512 ?_
  refine A_sld (j := i + 1) hS (by omega) (by omega) hL dL_law_513 ?_
  refine A_aload_n dL_law_514 rfl 2 rfl ?_
  refine A_iload dL_law_515 1 rfl ?_
  refine A_iconst dL_law_517 ?_
  refine A_iadd dL_law_518 ?_
  refine A_sld (j := i + 2) hS (by omega) (by omega) hL dL_law_519 ?_
  refine A_Vm2 mv_L_112 lk_84 rfl rfl (c_X11_dish_ ((X (i + 1).toNat).toInt) ((X (i + 2).toNat).toInt) hR2.1 (I32_inr _) (I32_inr _)) (Nat.le_of_ble_eq_true rfl) (by decide) ⟨by omega, by omega⟩ rfl rfl dL_law_520 ?_
  refine A_istore dL_law_523 (by decide) rfl ?_
  refine A_aload_n dL_law_525 rfl 5 rfl ?_
  refine A_Vm0 mv_L_79 lk_84 rfl rfl (c_X11_thrown _) (Nat.le_of_ble_eq_true rfl) (by decide) ⟨by omega, by omega⟩ rfl rfl dL_law_526 ?_
  refine A_iload dL_law_529 1 rfl ?_
  refine J_icmp_eq (tgt := 536) dL_law_531 (by decide) (congrArg i32 h84) rfl (fun _ => ?_) (fun z => absurd rfl z)
  refine A_iload dL_law_536 1 rfl ?_
  refine J_if_ne (tgt := 553) dL_law_538 (by decide) ek (fun _ => ?_) (fun hk0 => ?_)
  · refine A_goto dL_law_553 (tgt := 1392) (by decide) ?_
    refine A_lv [2, 3, 4, 5, 6] rfl ?_
    exact K _ _ _ hR3 (by omega) (by omega)
  · refine A_aload_n dL_law_541 rfl 6 rfl ?_
    refine A_iconst dL_law_542 ?_
    refine J_lald (z1 := 0) lk_112 rfl (by decide) (by decide) (by decide) dL_law_543 ?_
    refine A_iload dL_law_544 0 rfl ?_
    refine J_i2l dL_law_546 rfl ?_
    refine J_lcmp dL_law_547 (congrArg i64 (h112 hk0)) rfl ?_
    refine J_if_eq (tgt := 553) dL_law_548 (by decide) (cmp_self0 _) (fun _ => ?_) (fun z => absurd rfl z)
    refine A_goto dL_law_553 (tgt := 1392) (by decide) ?_
    refine A_lv [2, 3, 4, 5, 6] rfl ?_
    exact K _ _ _ hR3 (by omega) (by omega)
set_option maxRecDepth 100000 in
set_option maxHeartbeats 4000000 in
theorem law_9 {f : Fm} {Q : State → Prop} {bA L : Nat} {X : Nat → Int32} (hlt : l.stackTraces = false) (hS : Scr f bA L X) (hL : L ≤ 2147483647) {i : Int} (i0 : 0 ≤ i) (i1 : i + 6 ≤ L) {k n : Nat} (hk : k + 20 ≤ 601024) (hn : n + 100 ≤ 7293034) (hR : Rel σ σ) (K : ∀ (y : Sg) (k2 n2 : Nat), Rel y y → k2 ≤ k + 20 → n2 ≤ n + 100 → LW l G f Q k2 n2 1392 (lvL G bA i) [] y) : LW l G f Q k n 556 (lvL G bA i) [] σ := by
  obtain ⟨kv, s2, hw, hR2, h84, hkv, h112, hR3⟩ := ok_grams (σ := σ) hR (a := (X (i + 1).toNat).toInt) (b := (X (i + 2).toNat).toInt) (I32_inr _) (I32_inr _)
  have hkl : kv ≤ 2 := Int.le_trans hkv.2 (by decide)
  have ek : i32 kv = kv := i32_eq ⟨by omega, by omega⟩
  refine A_aload_n dL_law_556 rfl 2 rfl ?_
  refine A_aload_n dL_law_557 rfl 1 rfl ?_
  refine A_iload dL_law_558 0 rfl ?_
  refine A_iconst dL_law_560 ?_
  refine A_iadd dL_law_561 ?_
  refine A_sld (j := i + 1) hS (by omega) (by omega) hL dL_law_562 ?_
  refine A_aload_n dL_law_563 rfl 1 rfl ?_
  refine A_iload dL_law_564 0 rfl ?_
  refine A_iconst dL_law_566 ?_
  refine A_iadd dL_law_567 ?_
  refine A_sld (j := i + 2) hS (by omega) (by omega) hL dL_law_568 ?_
  refine A_aload_n dL_law_569 rfl 4 rfl ?_
  refine A_SH4 ml_grams (c_L_grams σ ((X (i + 1).toNat).toInt) ((X (i + 2).toNat).toInt) hlt hw) (Nat.le_of_ble_eq_true rfl) (by decide) ⟨by omega, by omega⟩ rfl rfl dL_law_570 ?_
  refine A_istore dL_law_573 (by decide) rfl ?_
  refine A_aload_n dL_law_575 rfl 4 rfl ?_
  refine A_aload_n dL_law_576 rfl 2 rfl ?_
  refine A_iload dL_law_577 1 rfl ?_
  refine A_iconst dL_law_579 ?_
  refine A_iadd dL_law_580 ?_
  refine A_sld (j := i + 1) hS (by omega) (by omega) hL dL_law_581 ?_
  refine A_aload_n dL_law_582 rfl 2 rfl ?_
  refine A_iload dL_law_583 1 rfl ?_
  refine A_iconst dL_law_585 ?_
  refine A_iadd dL_law_586 ?_
  refine A_sld (j := i + 2) hS (by omega) (by omega) hL dL_law_587 ?_
  refine A_Vm2 mv_L_115 lk_84 rfl rfl (c_X11_grams ((X (i + 1).toNat).toInt) ((X (i + 2).toNat).toInt) hR2.1 (I32_inr _) (I32_inr _)) (Nat.le_of_ble_eq_true rfl) (by decide) ⟨by omega, by omega⟩ rfl rfl dL_law_588 ?_
  refine A_istore dL_law_591 (by decide) rfl ?_
  refine A_aload_n dL_law_593 rfl 5 rfl ?_
  refine A_Vm0 mv_L_79 lk_84 rfl rfl (c_X11_thrown _) (Nat.le_of_ble_eq_true rfl) (by decide) ⟨by omega, by omega⟩ rfl rfl dL_law_594 ?_
  refine A_iload dL_law_597 1 rfl ?_
  refine J_icmp_eq (tgt := 604) dL_law_599 (by decide) (congrArg i32 h84) rfl (fun _ => ?_) (fun z => absurd rfl z)
  refine A_iload dL_law_604 1 rfl ?_
  refine J_if_ne (tgt := 621) dL_law_606 (by decide) ek (fun _ => ?_) (fun hk0 => ?_)
  · refine A_goto dL_law_621 (tgt := 1392) (by decide) ?_
    refine A_lv [2, 3, 4, 5, 6] rfl ?_
    exact K _ _ _ hR3 (by omega) (by omega)
  · refine A_aload_n dL_law_609 rfl 6 rfl ?_
    refine A_iconst dL_law_610 ?_
    refine J_lald (z1 := 0) lk_112 rfl (by decide) (by decide) (by decide) dL_law_611 ?_
    refine A_iload dL_law_612 0 rfl ?_
    refine J_i2l dL_law_614 rfl ?_
    refine J_lcmp dL_law_615 (congrArg i64 (h112 hk0)) rfl ?_
    refine J_if_eq (tgt := 621) dL_law_616 (by decide) (cmp_self0 _) (fun _ => ?_) (fun z => absurd rfl z)
    refine A_goto dL_law_621 (tgt := 1392) (by decide) ?_
    refine A_lv [2, 3, 4, 5, 6] rfl ?_
    exact K _ _ _ hR3 (by omega) (by omega)
set_option maxRecDepth 100000 in
set_option maxHeartbeats 4000000 in
theorem law_10t {f : Fm} {Q : State → Prop} {bA L : Nat} {X : Nat → Int32} (hlt : l.stackTraces = false) (hS : Scr f bA L X) (hL : L ≤ 2147483647) {i : Int} (i0 : 0 ≤ i) (i1 : i + 6 ≤ L) {k n : Nat} (hk : k + 20 ≤ 601024) (hn : n + 100 ≤ 7293034) (hR : Rel σ σ) (K : ∀ (y : Sg) (k2 n2 : Nat), Rel y y → k2 ≤ k + 20 → n2 ≤ n + 100 → LW l G f Q k2 n2 1392 (lvL G bA i) [] y) (hp : i32 ((X (i + 2).toNat).toInt) ≠ 0) : LW l G f Q k n 624 (lvL G bA i) [] σ := by
  obtain ⟨kv, s2, hw, hR2, h84, hkv, h112, hR3⟩ := ok_choice (σ := σ) hR (a := (X (i + 1).toNat).toInt) (I32_inr _) true
  have hkl : kv ≤ 2 := Int.le_trans hkv.2 (by decide)
  have ek : i32 kv = kv := i32_eq ⟨by omega, by omega⟩
  refine A_aload_n dL_law_624 rfl 2 rfl ?_
  refine A_aload_n dL_law_625 rfl 1 rfl ?_
  refine A_iload dL_law_626 0 rfl ?_
  refine A_iconst dL_law_628 ?_
  refine A_iadd dL_law_629 ?_
  refine A_sld (j := i + 1) hS (by omega) (by omega) hL dL_law_630 ?_
  refine A_aload_n dL_law_631 rfl 1 rfl ?_
  refine A_iload dL_law_632 0 rfl ?_
  refine A_iconst dL_law_634 ?_
  refine A_iadd dL_law_635 ?_
  refine A_sld (j := i + 2) hS (by omega) (by omega) hL dL_law_636 ?_
  refine J_if_eq (tgt := 644) dL_law_637 (by decide) rfl (fun z => absurd z hp) (fun _ => ?_)
  refine A_iconst dL_law_640 ?_
  refine A_goto dL_law_641 (tgt := 645) (by decide) ?_
  refine A_aload_n dL_law_645 rfl 4 rfl ?_
  refine A_SH4 ml_choice (c_L_choice σ ((X (i + 1).toNat).toInt) true hlt hw) (Nat.le_of_ble_eq_true rfl) (by decide) ⟨by omega, by omega⟩ rfl rfl dL_law_646 ?_
  refine A_istore dL_law_649 (by decide) rfl ?_
  refine A_aload_n dL_law_651 rfl 4 rfl ?_
  refine A_aload_n dL_law_652 rfl 2 rfl ?_
  refine A_iload dL_law_653 1 rfl ?_
  refine A_iconst dL_law_655 ?_
  refine A_iadd dL_law_656 ?_
  refine A_sld (j := i + 1) hS (by omega) (by omega) hL dL_law_657 ?_
  refine A_aload_n dL_law_658 rfl 2 rfl ?_
  refine A_iload dL_law_659 1 rfl ?_
  refine A_iconst dL_law_661 ?_
  refine A_iadd dL_law_662 ?_
  refine A_sld (j := i + 2) hS (by omega) (by omega) hL dL_law_663 ?_
  refine J_if_eq (tgt := 671) dL_law_664 (by decide) rfl (fun z => absurd z hp) (fun _ => ?_)
  refine A_iconst dL_law_667 ?_
  refine A_goto dL_law_668 (tgt := 672) (by decide) ?_
  refine A_Vm2 mv_L_119 lk_84 rfl rfl (c_X11_choice ((X (i + 1).toNat).toInt) true hR2.1 (I32_inr _)) (Nat.le_of_ble_eq_true rfl) (by decide) ⟨by omega, by omega⟩ rfl rfl dL_law_672 ?_
  refine A_istore dL_law_675 (by decide) rfl ?_
  refine A_aload_n dL_law_677 rfl 5 rfl ?_
  refine A_Vm0 mv_L_79 lk_84 rfl rfl (c_X11_thrown _) (Nat.le_of_ble_eq_true rfl) (by decide) ⟨by omega, by omega⟩ rfl rfl dL_law_678 ?_
  refine A_iload dL_law_681 1 rfl ?_
  refine J_icmp_eq (tgt := 688) dL_law_683 (by decide) (congrArg i32 h84) rfl (fun _ => ?_) (fun z => absurd rfl z)
  refine A_iload dL_law_688 1 rfl ?_
  refine J_if_ne (tgt := 705) dL_law_690 (by decide) ek (fun _ => ?_) (fun hk0 => ?_)
  · refine A_goto dL_law_705 (tgt := 1392) (by decide) ?_
    refine A_lv [2, 3, 4, 5, 6] rfl ?_
    exact K _ _ _ hR3 (by omega) (by omega)
  · refine A_aload_n dL_law_693 rfl 6 rfl ?_
    refine A_iconst dL_law_694 ?_
    refine J_lald (z1 := 0) lk_112 rfl (by decide) (by decide) (by decide) dL_law_695 ?_
    refine A_iload dL_law_696 0 rfl ?_
    refine J_i2l dL_law_698 rfl ?_
    refine J_lcmp dL_law_699 (congrArg i64 (h112 hk0)) rfl ?_
    refine J_if_eq (tgt := 705) dL_law_700 (by decide) (cmp_self0 _) (fun _ => ?_) (fun z => absurd rfl z)
    refine A_goto dL_law_705 (tgt := 1392) (by decide) ?_
    refine A_lv [2, 3, 4, 5, 6] rfl ?_
    exact K _ _ _ hR3 (by omega) (by omega)
set_option maxRecDepth 100000 in
set_option maxHeartbeats 4000000 in
theorem law_10f {f : Fm} {Q : State → Prop} {bA L : Nat} {X : Nat → Int32} (hlt : l.stackTraces = false) (hS : Scr f bA L X) (hL : L ≤ 2147483647) {i : Int} (i0 : 0 ≤ i) (i1 : i + 6 ≤ L) {k n : Nat} (hk : k + 20 ≤ 601024) (hn : n + 100 ≤ 7293034) (hR : Rel σ σ) (K : ∀ (y : Sg) (k2 n2 : Nat), Rel y y → k2 ≤ k + 20 → n2 ≤ n + 100 → LW l G f Q k2 n2 1392 (lvL G bA i) [] y) (hp : i32 ((X (i + 2).toNat).toInt) = 0) : LW l G f Q k n 624 (lvL G bA i) [] σ := by
  obtain ⟨kv, s2, hw, hR2, h84, hkv, h112, hR3⟩ := ok_choice (σ := σ) hR (a := (X (i + 1).toNat).toInt) (I32_inr _) false
  have hkl : kv ≤ 2 := Int.le_trans hkv.2 (by decide)
  have ek : i32 kv = kv := i32_eq ⟨by omega, by omega⟩
  refine A_aload_n dL_law_624 rfl 2 rfl ?_
  refine A_aload_n dL_law_625 rfl 1 rfl ?_
  refine A_iload dL_law_626 0 rfl ?_
  refine A_iconst dL_law_628 ?_
  refine A_iadd dL_law_629 ?_
  refine A_sld (j := i + 1) hS (by omega) (by omega) hL dL_law_630 ?_
  refine A_aload_n dL_law_631 rfl 1 rfl ?_
  refine A_iload dL_law_632 0 rfl ?_
  refine A_iconst dL_law_634 ?_
  refine A_iadd dL_law_635 ?_
  refine A_sld (j := i + 2) hS (by omega) (by omega) hL dL_law_636 ?_
  refine J_if_eq (tgt := 644) dL_law_637 (by decide) rfl (fun _ => ?_) (fun z => absurd hp z)
  refine A_iconst dL_law_644 ?_
  refine A_aload_n dL_law_645 rfl 4 rfl ?_
  refine A_SH4 ml_choice (c_L_choice σ ((X (i + 1).toNat).toInt) false hlt hw) (Nat.le_of_ble_eq_true rfl) (by decide) ⟨by omega, by omega⟩ rfl rfl dL_law_646 ?_
  refine A_istore dL_law_649 (by decide) rfl ?_
  refine A_aload_n dL_law_651 rfl 4 rfl ?_
  refine A_aload_n dL_law_652 rfl 2 rfl ?_
  refine A_iload dL_law_653 1 rfl ?_
  refine A_iconst dL_law_655 ?_
  refine A_iadd dL_law_656 ?_
  refine A_sld (j := i + 1) hS (by omega) (by omega) hL dL_law_657 ?_
  refine A_aload_n dL_law_658 rfl 2 rfl ?_
  refine A_iload dL_law_659 1 rfl ?_
  refine A_iconst dL_law_661 ?_
  refine A_iadd dL_law_662 ?_
  refine A_sld (j := i + 2) hS (by omega) (by omega) hL dL_law_663 ?_
  refine J_if_eq (tgt := 671) dL_law_664 (by decide) rfl (fun _ => ?_) (fun z => absurd hp z)
  refine A_iconst dL_law_671 ?_
  refine A_Vm2 mv_L_119 lk_84 rfl rfl (c_X11_choice ((X (i + 1).toNat).toInt) false hR2.1 (I32_inr _)) (Nat.le_of_ble_eq_true rfl) (by decide) ⟨by omega, by omega⟩ rfl rfl dL_law_672 ?_
  refine A_istore dL_law_675 (by decide) rfl ?_
  refine A_aload_n dL_law_677 rfl 5 rfl ?_
  refine A_Vm0 mv_L_79 lk_84 rfl rfl (c_X11_thrown _) (Nat.le_of_ble_eq_true rfl) (by decide) ⟨by omega, by omega⟩ rfl rfl dL_law_678 ?_
  refine A_iload dL_law_681 1 rfl ?_
  refine J_icmp_eq (tgt := 688) dL_law_683 (by decide) (congrArg i32 h84) rfl (fun _ => ?_) (fun z => absurd rfl z)
  refine A_iload dL_law_688 1 rfl ?_
  refine J_if_ne (tgt := 705) dL_law_690 (by decide) ek (fun _ => ?_) (fun hk0 => ?_)
  · refine A_goto dL_law_705 (tgt := 1392) (by decide) ?_
    refine A_lv [2, 3, 4, 5, 6] rfl ?_
    exact K _ _ _ hR3 (by omega) (by omega)
  · refine A_aload_n dL_law_693 rfl 6 rfl ?_
    refine A_iconst dL_law_694 ?_
    refine J_lald (z1 := 0) lk_112 rfl (by decide) (by decide) (by decide) dL_law_695 ?_
    refine A_iload dL_law_696 0 rfl ?_
    refine J_i2l dL_law_698 rfl ?_
    refine J_lcmp dL_law_699 (congrArg i64 (h112 hk0)) rfl ?_
    refine J_if_eq (tgt := 705) dL_law_700 (by decide) (cmp_self0 _) (fun _ => ?_) (fun z => absurd rfl z)
    refine A_goto dL_law_705 (tgt := 1392) (by decide) ?_
    refine A_lv [2, 3, 4, 5, 6] rfl ?_
    exact K _ _ _ hR3 (by omega) (by omega)
set_option maxRecDepth 100000 in
set_option maxHeartbeats 4000000 in
theorem law_11 {f : Fm} {Q : State → Prop} {bA L : Nat} {X : Nat → Int32} (hlt : l.stackTraces = false) (hS : Scr f bA L X) (hL : L ≤ 2147483647) {i : Int} (i0 : 0 ≤ i) (i1 : i + 6 ≤ L) {k n : Nat} (hk : k + 20 ≤ 601024) (hn : n + 100 ≤ 7293034) (hR : Rel σ σ) (K : ∀ (y : Sg) (k2 n2 : Nat), Rel y y → k2 ≤ k + 20 → n2 ≤ n + 100 → LW l G f Q k2 n2 1392 (lvL G bA i) [] y) : LW l G f Q k n 708 (lvL G bA i) [] σ := by
  obtain ⟨kv, s2, hw, hR2, h84, hkv, h112, hR3⟩ := ok_rule (σ := σ) hR (a := (X (i + 1).toNat).toInt) (b := (X (i + 2).toNat).toInt) (I32_inr _) (I32_inr _)
  have hkl : kv ≤ 2 := Int.le_trans hkv.2 (by decide)
  have ek : i32 kv = kv := i32_eq ⟨by omega, by omega⟩
  refine A_aload_n dL_law_708 rfl 2 rfl ?_
  refine A_aload_n dL_law_709 rfl 1 rfl ?_
  refine A_iload dL_law_710 0 rfl ?_
  refine A_iconst dL_law_712 ?_
  refine A_iadd dL_law_713 ?_
  refine A_sld (j := i + 1) hS (by omega) (by omega) hL dL_law_714 ?_
  refine A_aload_n dL_law_715 rfl 1 rfl ?_
  refine A_iload dL_law_716 0 rfl ?_
  refine A_iconst dL_law_718 ?_
  refine A_iadd dL_law_719 ?_
  refine A_sld (j := i + 2) hS (by omega) (by omega) hL dL_law_720 ?_
  refine A_aload_n dL_law_721 rfl 4 rfl ?_
  refine A_SH4 ml_rule (c_L_rule σ ((X (i + 1).toNat).toInt) ((X (i + 2).toNat).toInt) hlt hw) (Nat.le_of_ble_eq_true rfl) (by decide) ⟨by omega, by omega⟩ rfl rfl dL_law_722 ?_
  refine A_istore dL_law_725 (by decide) rfl ?_
  refine A_aload_n dL_law_727 rfl 4 rfl ?_
  refine A_aload_n dL_law_728 rfl 2 rfl ?_
  refine A_iload dL_law_729 1 rfl ?_
  refine A_iconst dL_law_731 ?_
  refine A_iadd dL_law_732 ?_
  refine A_sld (j := i + 1) hS (by omega) (by omega) hL dL_law_733 ?_
  refine A_aload_n dL_law_734 rfl 2 rfl ?_
  refine A_iload dL_law_735 1 rfl ?_
  refine A_iconst dL_law_737 ?_
  refine A_iadd dL_law_738 ?_
  refine A_sld (j := i + 2) hS (by omega) (by omega) hL dL_law_739 ?_
  refine A_Vm2 mv_L_122 lk_84 rfl rfl (c_X11_rule_ ((X (i + 1).toNat).toInt) ((X (i + 2).toNat).toInt) hR2.1 (I32_inr _) (I32_inr _)) (Nat.le_of_ble_eq_true rfl) (by decide) ⟨by omega, by omega⟩ rfl rfl dL_law_740 ?_
  refine A_istore dL_law_743 (by decide) rfl ?_
  refine A_aload_n dL_law_745 rfl 5 rfl ?_
  refine A_Vm0 mv_L_79 lk_84 rfl rfl (c_X11_thrown _) (Nat.le_of_ble_eq_true rfl) (by decide) ⟨by omega, by omega⟩ rfl rfl dL_law_746 ?_
  refine A_iload dL_law_749 1 rfl ?_
  refine J_icmp_eq (tgt := 756) dL_law_751 (by decide) (congrArg i32 h84) rfl (fun _ => ?_) (fun z => absurd rfl z)
  refine A_iload dL_law_756 1 rfl ?_
  refine J_if_ne (tgt := 773) dL_law_758 (by decide) ek (fun _ => ?_) (fun hk0 => ?_)
  · refine A_goto dL_law_773 (tgt := 1392) (by decide) ?_
    refine A_lv [2, 3, 4, 5, 6] rfl ?_
    exact K _ _ _ hR3 (by omega) (by omega)
  · refine A_aload_n dL_law_761 rfl 6 rfl ?_
    refine A_iconst dL_law_762 ?_
    refine J_lald (z1 := 0) lk_112 rfl (by decide) (by decide) (by decide) dL_law_763 ?_
    refine A_iload dL_law_764 0 rfl ?_
    refine J_i2l dL_law_766 rfl ?_
    refine J_lcmp dL_law_767 (congrArg i64 (h112 hk0)) rfl ?_
    refine J_if_eq (tgt := 773) dL_law_768 (by decide) (cmp_self0 _) (fun _ => ?_) (fun z => absurd rfl z)
    refine A_goto dL_law_773 (tgt := 1392) (by decide) ?_
    refine A_lv [2, 3, 4, 5, 6] rfl ?_
    exact K _ _ _ hR3 (by omega) (by omega)
set_option maxRecDepth 100000 in
set_option maxHeartbeats 4000000 in
theorem law_12 {f : Fm} {Q : State → Prop} {bA L : Nat} {X : Nat → Int32} (hlt : l.stackTraces = false) (hS : Scr f bA L X) (hL : L ≤ 2147483647) {i : Int} (i0 : 0 ≤ i) (i1 : i + 6 ≤ L) {k n : Nat} (hk : k + 20 ≤ 601024) (hn : n + 100 ≤ 7293034) (hR : Rel σ σ) (K : ∀ (y : Sg) (k2 n2 : Nat), Rel y y → k2 ≤ k + 20 → n2 ≤ n + 100 → LW l G f Q k2 n2 1392 (lvL G bA i) [] y) : LW l G f Q k n 776 (lvL G bA i) [] σ := by
  obtain ⟨kv, s2, hw, hR2, h84, hkv, h112, hR3⟩ := ok_plan (σ := σ) hR (a := (X (i + 1).toNat).toInt) (I32_inr _)
  have hkl : kv ≤ 2 := Int.le_trans hkv.2 (by decide)
  have ek : i32 kv = kv := i32_eq ⟨by omega, by omega⟩
  refine A_aload_n dL_law_776 rfl 2 rfl ?_
  refine A_aload_n dL_law_777 rfl 1 rfl ?_
  refine A_iload dL_law_778 0 rfl ?_
  refine A_iconst dL_law_780 ?_
  refine A_iadd dL_law_781 ?_
  refine A_sld (j := i + 1) hS (by omega) (by omega) hL dL_law_782 ?_
  refine A_aload_n dL_law_783 rfl 4 rfl ?_
  refine A_SH3 ml_plan (c_L_plan σ ((X (i + 1).toNat).toInt) hlt hw) (Nat.le_of_ble_eq_true rfl) (by decide) ⟨by omega, by omega⟩ rfl rfl dL_law_784 ?_
  refine A_istore dL_law_787 (by decide) rfl ?_
  refine A_aload_n dL_law_789 rfl 4 rfl ?_
  refine A_aload_n dL_law_790 rfl 2 rfl ?_
  refine A_iload dL_law_791 1 rfl ?_
  refine A_iconst dL_law_793 ?_
  refine A_iadd dL_law_794 ?_
  refine A_sld (j := i + 1) hS (by omega) (by omega) hL dL_law_795 ?_
  refine A_Vm1 mv_L_125 lk_84 rfl rfl (c_X11_plan ((X (i + 1).toNat).toInt) hR2.1 hR2.tfl (I32_inr _)) (Nat.le_of_ble_eq_true rfl) (by decide) ⟨by omega, by omega⟩ rfl rfl dL_law_796 ?_
  refine A_istore dL_law_799 (by decide) rfl ?_
  refine A_aload_n dL_law_801 rfl 5 rfl ?_
  refine A_Vm0 mv_L_79 lk_84 rfl rfl (c_X11_thrown _) (Nat.le_of_ble_eq_true rfl) (by decide) ⟨by omega, by omega⟩ rfl rfl dL_law_802 ?_
  refine A_iload dL_law_805 1 rfl ?_
  refine J_icmp_eq (tgt := 812) dL_law_807 (by decide) (congrArg i32 h84) rfl (fun _ => ?_) (fun z => absurd rfl z)
  refine A_iload dL_law_812 1 rfl ?_
  refine J_if_ne (tgt := 829) dL_law_814 (by decide) ek (fun _ => ?_) (fun hk0 => ?_)
  · refine A_goto dL_law_829 (tgt := 1392) (by decide) ?_
    refine A_lv [2, 3, 4, 5, 6] rfl ?_
    exact K _ _ _ hR3 (by omega) (by omega)
  · refine A_aload_n dL_law_817 rfl 6 rfl ?_
    refine A_iconst dL_law_818 ?_
    refine J_lald (z1 := 0) lk_112 rfl (by decide) (by decide) (by decide) dL_law_819 ?_
    refine A_iload dL_law_820 0 rfl ?_
    refine J_i2l dL_law_822 rfl ?_
    refine J_lcmp dL_law_823 (congrArg i64 (h112 hk0)) rfl ?_
    refine J_if_eq (tgt := 829) dL_law_824 (by decide) (cmp_self0 _) (fun _ => ?_) (fun z => absurd rfl z)
    refine A_goto dL_law_829 (tgt := 1392) (by decide) ?_
    refine A_lv [2, 3, 4, 5, 6] rfl ?_
    exact K _ _ _ hR3 (by omega) (by omega)
set_option maxRecDepth 100000 in
set_option maxHeartbeats 4000000 in
theorem law_13 {f : Fm} {Q : State → Prop} {bA L : Nat} {X : Nat → Int32} (hlt : l.stackTraces = false) (hS : Scr f bA L X) (hL : L ≤ 2147483647) {i : Int} (i0 : 0 ≤ i) (i1 : i + 6 ≤ L) {k n : Nat} (hk : k + 20 ≤ 601024) (hn : n + 100 ≤ 7293034) (hR : Rel σ σ) (K : ∀ (y : Sg) (k2 n2 : Nat), Rel y y → k2 ≤ k + 20 → n2 ≤ n + 100 → LW l G f Q k2 n2 1392 (lvL G bA i) [] y) : LW l G f Q k n 832 (lvL G bA i) [] σ := by
  obtain ⟨kv, s2, hw, hR2, h84, hkv, h112, hR3⟩ := ok_at (σ := σ) hR (a := (X (i + 1).toNat).toInt) (b := (X (i + 2).toNat).toInt) (I32_inr _) (I32_inr _)
  have hkl : kv ≤ 2 := Int.le_trans hkv.2 (by decide)
  have ek : i32 kv = kv := i32_eq ⟨by omega, by omega⟩
  refine A_aload_n dL_law_832 rfl 2 rfl ?_
  refine A_aload_n dL_law_833 rfl 1 rfl ?_
  refine A_iload dL_law_834 0 rfl ?_
  refine A_iconst dL_law_836 ?_
  refine A_iadd dL_law_837 ?_
  refine A_sld (j := i + 1) hS (by omega) (by omega) hL dL_law_838 ?_
  refine A_aload_n dL_law_839 rfl 1 rfl ?_
  refine A_iload dL_law_840 0 rfl ?_
  refine A_iconst dL_law_842 ?_
  refine A_iadd dL_law_843 ?_
  refine A_sld (j := i + 2) hS (by omega) (by omega) hL dL_law_844 ?_
  refine A_aload_n dL_law_845 rfl 4 rfl ?_
  refine A_SH4 ml_at (c_L_at σ ((X (i + 1).toNat).toInt) ((X (i + 2).toNat).toInt) hlt hw) (Nat.le_of_ble_eq_true rfl) (by decide) ⟨by omega, by omega⟩ rfl rfl dL_law_846 ?_
  refine A_istore dL_law_849 (by decide) rfl ?_
  refine A_aload_n dL_law_851 rfl 4 rfl ?_
  refine A_aload_n dL_law_852 rfl 2 rfl ?_
  refine A_iload dL_law_853 1 rfl ?_
  refine A_iconst dL_law_855 ?_
  refine A_iadd dL_law_856 ?_
  refine A_sld (j := i + 1) hS (by omega) (by omega) hL dL_law_857 ?_
  refine A_aload_n dL_law_858 rfl 2 rfl ?_
  refine A_iload dL_law_859 1 rfl ?_
  refine A_iconst dL_law_861 ?_
  refine A_iadd dL_law_862 ?_
  refine A_sld (j := i + 2) hS (by omega) (by omega) hL dL_law_863 ?_
  refine A_Vm2 mv_L_128 lk_84 rfl rfl (c_X11_at ((X (i + 1).toNat).toInt) ((X (i + 2).toNat).toInt) hR2.1 (I32_inr _) (I32_inr _)) (Nat.le_of_ble_eq_true rfl) (by decide) ⟨by omega, by omega⟩ rfl rfl dL_law_864 ?_
  refine A_istore dL_law_867 (by decide) rfl ?_
  refine A_aload_n dL_law_869 rfl 5 rfl ?_
  refine A_Vm0 mv_L_79 lk_84 rfl rfl (c_X11_thrown _) (Nat.le_of_ble_eq_true rfl) (by decide) ⟨by omega, by omega⟩ rfl rfl dL_law_870 ?_
  refine A_iload dL_law_873 1 rfl ?_
  refine J_icmp_eq (tgt := 880) dL_law_875 (by decide) (congrArg i32 h84) rfl (fun _ => ?_) (fun z => absurd rfl z)
  refine A_iload dL_law_880 1 rfl ?_
  refine J_if_ne (tgt := 897) dL_law_882 (by decide) ek (fun _ => ?_) (fun hk0 => ?_)
  · refine A_goto dL_law_897 (tgt := 1392) (by decide) ?_
    refine A_lv [2, 3, 4, 5, 6] rfl ?_
    exact K _ _ _ hR3 (by omega) (by omega)
  · refine A_aload_n dL_law_885 rfl 6 rfl ?_
    refine A_iconst dL_law_886 ?_
    refine J_lald (z1 := 0) lk_112 rfl (by decide) (by decide) (by decide) dL_law_887 ?_
    refine A_iload dL_law_888 0 rfl ?_
    refine J_i2l dL_law_890 rfl ?_
    refine J_lcmp dL_law_891 (congrArg i64 (h112 hk0)) rfl ?_
    refine J_if_eq (tgt := 897) dL_law_892 (by decide) (cmp_self0 _) (fun _ => ?_) (fun z => absurd rfl z)
    refine A_goto dL_law_897 (tgt := 1392) (by decide) ?_
    refine A_lv [2, 3, 4, 5, 6] rfl ?_
    exact K _ _ _ hR3 (by omega) (by omega)
set_option maxRecDepth 100000 in
set_option maxHeartbeats 4000000 in
theorem law_14 {f : Fm} {Q : State → Prop} {bA L : Nat} {X : Nat → Int32} (hlt : l.stackTraces = false) (hS : Scr f bA L X) (hL : L ≤ 2147483647) {i : Int} (i0 : 0 ≤ i) (i1 : i + 6 ≤ L) {k n : Nat} (hk : k + 20 ≤ 601024) (hn : n + 100 ≤ 7293034) (hR : Rel σ σ) (K : ∀ (y : Sg) (k2 n2 : Nat), Rel y y → k2 ≤ k + 20 → n2 ≤ n + 100 → LW l G f Q k2 n2 1392 (lvL G bA i) [] y) : LW l G f Q k n 900 (lvL G bA i) [] σ := by
  obtain ⟨kv, s2, hw, hR2, h84, hkv, h112, hR3⟩ := ok_set (σ := σ) hR (a := (X (i + 1).toNat).toInt) (b := (X (i + 2).toNat).toInt) (c := (X (i + 3).toNat).toInt) (I32_inr _) (I32_inr _) (I32_inr _)
  have hkl : kv ≤ 2 := Int.le_trans hkv.2 (by decide)
  have ek : i32 kv = kv := i32_eq ⟨by omega, by omega⟩
  refine A_aload_n dL_law_900 rfl 2 rfl ?_
  refine A_aload_n dL_law_901 rfl 1 rfl ?_
  refine A_iload dL_law_902 0 rfl ?_
  refine A_iconst dL_law_904 ?_
  refine A_iadd dL_law_905 ?_
  refine A_sld (j := i + 1) hS (by omega) (by omega) hL dL_law_906 ?_
  refine A_aload_n dL_law_907 rfl 1 rfl ?_
  refine A_iload dL_law_908 0 rfl ?_
  refine A_iconst dL_law_910 ?_
  refine A_iadd dL_law_911 ?_
  refine A_sld (j := i + 2) hS (by omega) (by omega) hL dL_law_912 ?_
  refine A_aload_n dL_law_913 rfl 1 rfl ?_
  refine A_iload dL_law_914 0 rfl ?_
  refine A_iconst dL_law_916 ?_
  refine A_iadd dL_law_917 ?_
  refine A_sld (j := i + 3) hS (by omega) (by omega) hL dL_law_918 ?_
  refine A_aload_n dL_law_919 rfl 4 rfl ?_
  refine A_SH5 ml_set (c_L_set σ ((X (i + 1).toNat).toInt) ((X (i + 2).toNat).toInt) ((X (i + 3).toNat).toInt) hlt hw) (Nat.le_of_ble_eq_true rfl) (by decide) ⟨by omega, by omega⟩ rfl rfl dL_law_920 ?_
  refine A_istore dL_law_923 (by decide) rfl ?_
  refine A_aload_n dL_law_925 rfl 4 rfl ?_
  refine A_aload_n dL_law_926 rfl 2 rfl ?_
  refine A_iload dL_law_927 1 rfl ?_
  refine A_iconst dL_law_929 ?_
  refine A_iadd dL_law_930 ?_
  refine A_sld (j := i + 1) hS (by omega) (by omega) hL dL_law_931 ?_
  refine A_aload_n dL_law_932 rfl 2 rfl ?_
  refine A_iload dL_law_933 1 rfl ?_
  refine A_iconst dL_law_935 ?_
  refine A_iadd dL_law_936 ?_
  refine A_sld (j := i + 2) hS (by omega) (by omega) hL dL_law_937 ?_
  refine A_aload_n dL_law_938 rfl 2 rfl ?_
  refine A_iload dL_law_939 1 rfl ?_
  refine A_iconst dL_law_941 ?_
  refine A_iadd dL_law_942 ?_
  refine A_sld (j := i + 3) hS (by omega) (by omega) hL dL_law_943 ?_
  refine A_Vm3 mv_L_132 lk_84 rfl rfl (c_X11_set ((X (i + 1).toNat).toInt) ((X (i + 2).toNat).toInt) ((X (i + 3).toNat).toInt) hR2.1 (I32_inr _) (I32_inr _) (I32_inr _)) (Nat.le_of_ble_eq_true rfl) (by decide) ⟨by omega, by omega⟩ rfl rfl dL_law_944 ?_
  refine A_istore dL_law_947 (by decide) rfl ?_
  refine A_aload_n dL_law_949 rfl 5 rfl ?_
  refine A_Vm0 mv_L_79 lk_84 rfl rfl (c_X11_thrown _) (Nat.le_of_ble_eq_true rfl) (by decide) ⟨by omega, by omega⟩ rfl rfl dL_law_950 ?_
  refine A_iload dL_law_953 1 rfl ?_
  refine J_icmp_eq (tgt := 960) dL_law_955 (by decide) (congrArg i32 h84) rfl (fun _ => ?_) (fun z => absurd rfl z)
  refine A_iload dL_law_960 1 rfl ?_
  refine J_if_ne (tgt := 977) dL_law_962 (by decide) ek (fun _ => ?_) (fun hk0 => ?_)
  · refine A_goto dL_law_977 (tgt := 1392) (by decide) ?_
    refine A_lv [2, 3, 4, 5, 6] rfl ?_
    exact K _ _ _ hR3 (by omega) (by omega)
  · refine A_aload_n dL_law_965 rfl 6 rfl ?_
    refine A_iconst dL_law_966 ?_
    refine J_lald (z1 := 0) lk_112 rfl (by decide) (by decide) (by decide) dL_law_967 ?_
    refine A_iload dL_law_968 0 rfl ?_
    refine J_i2l dL_law_970 rfl ?_
    refine J_lcmp dL_law_971 (congrArg i64 (h112 hk0)) rfl ?_
    refine J_if_eq (tgt := 977) dL_law_972 (by decide) (cmp_self0 _) (fun _ => ?_) (fun z => absurd rfl z)
    refine A_goto dL_law_977 (tgt := 1392) (by decide) ?_
    refine A_lv [2, 3, 4, 5, 6] rfl ?_
    exact K _ _ _ hR3 (by omega) (by omega)
set_option maxRecDepth 100000 in
set_option maxHeartbeats 4000000 in
theorem law_15 {f : Fm} {Q : State → Prop} {bA L : Nat} {X : Nat → Int32} (hlt : l.stackTraces = false) (hS : Scr f bA L X) (hL : L ≤ 2147483647) {i : Int} (i0 : 0 ≤ i) (i1 : i + 6 ≤ L) {k n : Nat} (hk : k + 20 ≤ 601024) (hn : n + 100 ≤ 7293034) (hR : Rel σ σ) (K : ∀ (y : Sg) (k2 n2 : Nat), Rel y y → k2 ≤ k + 20 → n2 ≤ n + 100 → LW l G f Q k2 n2 1392 (lvL G bA i) [] y) : LW l G f Q k n 980 (lvL G bA i) [] σ := by
  refine A_aload_n dL_law_980 rfl 2 rfl ?_
  refine A_Vm0 mv_L_133 lk_0 rfl rfl (c_X10_faults σ) (Nat.le_of_ble_eq_true rfl) (by decide) ⟨by omega, by omega⟩ rfl rfl dL_law_981 ?_
  refine A_aload_n dL_law_984 rfl 3 rfl ?_
  refine A_Vm0 mv_L_136 lk_84 rfl rfl (c_X11_faults hR.1) (Nat.le_of_ble_eq_true rfl) (by decide) ⟨by omega, by omega⟩ rfl rfl dL_law_985 ?_
  refine J_icmp_eq (tgt := 1392) dL_law_988 (by decide) (congrArg i32 hR.faults) rfl (fun _ => ?_) (fun z => absurd rfl z)
  exact K _ _ _ ((hR.no 0).cg1 (fun k hk => up_r _ _ _ (by omega))) (by omega) (by omega)
set_option maxRecDepth 100000 in
set_option maxHeartbeats 4000000 in
theorem law_16 {f : Fm} {Q : State → Prop} {bA L : Nat} {X : Nat → Int32} (hlt : l.stackTraces = false) (hS : Scr f bA L X) (hL : L ≤ 2147483647) {i : Int} (i0 : 0 ≤ i) (i1 : i + 6 ≤ L) {k n : Nat} (hk : k + 20 ≤ 601024) (hn : n + 100 ≤ 7293034) (hR : Rel σ σ) (K : ∀ (y : Sg) (k2 n2 : Nat), Rel y y → k2 ≤ k + 20 → n2 ≤ n + 100 → LW l G f Q k2 n2 1392 (lvL G bA i) [] y) : LW l G f Q k n 993 (lvL G bA i) [] σ := by
  obtain ⟨kv, s2, hw, hR2, h84, hkv, h112, hR3⟩ := ok_faultsOf (σ := σ) hR (a := (X (i + 1).toNat).toInt) (I32_inr _)
  have hkl : kv ≤ 2 := Int.le_trans hkv.2 (by decide)
  have ek : i32 kv = kv := i32_eq ⟨by omega, by omega⟩
  refine A_aload_n dL_law_993 rfl 2 rfl ?_
  refine A_aload_n dL_law_994 rfl 1 rfl ?_
  refine A_iload dL_law_995 0 rfl ?_
  refine A_iconst dL_law_997 ?_
  refine A_iadd dL_law_998 ?_
  refine A_sld (j := i + 1) hS (by omega) (by omega) hL dL_law_999 ?_
  refine A_aload_n dL_law_1000 rfl 4 rfl ?_
  refine A_SH3 ml_faultsOf (c_L_faultsOf σ ((X (i + 1).toNat).toInt) hlt hw) (Nat.le_of_ble_eq_true rfl) (by decide) ⟨by omega, by omega⟩ rfl rfl dL_law_1001 ?_
  refine A_istore dL_law_1004 (by decide) rfl ?_
  refine A_aload_n dL_law_1006 rfl 4 rfl ?_
  refine A_aload_n dL_law_1007 rfl 2 rfl ?_
  refine A_iload dL_law_1008 1 rfl ?_
  refine A_iconst dL_law_1010 ?_
  refine A_iadd dL_law_1011 ?_
  refine A_sld (j := i + 1) hS (by omega) (by omega) hL dL_law_1012 ?_
  refine A_Vm1 mv_L_139 lk_84 rfl rfl (c_X11_faultsOf ((X (i + 1).toNat).toInt) hR2.1 (I32_inr _)) (Nat.le_of_ble_eq_true rfl) (by decide) ⟨by omega, by omega⟩ rfl rfl dL_law_1013 ?_
  refine A_istore dL_law_1016 (by decide) rfl ?_
  refine A_aload_n dL_law_1018 rfl 5 rfl ?_
  refine A_Vm0 mv_L_79 lk_84 rfl rfl (c_X11_thrown _) (Nat.le_of_ble_eq_true rfl) (by decide) ⟨by omega, by omega⟩ rfl rfl dL_law_1019 ?_
  refine A_iload dL_law_1022 1 rfl ?_
  refine J_icmp_eq (tgt := 1029) dL_law_1024 (by decide) (congrArg i32 h84) rfl (fun _ => ?_) (fun z => absurd rfl z)
  refine A_iload dL_law_1029 1 rfl ?_
  refine J_if_ne (tgt := 1046) dL_law_1031 (by decide) ek (fun _ => ?_) (fun hk0 => ?_)
  · refine A_goto dL_law_1046 (tgt := 1392) (by decide) ?_
    refine A_lv [2, 3, 4, 5, 6] rfl ?_
    exact K _ _ _ hR3 (by omega) (by omega)
  · refine A_aload_n dL_law_1034 rfl 6 rfl ?_
    refine A_iconst dL_law_1035 ?_
    refine J_lald (z1 := 0) lk_112 rfl (by decide) (by decide) (by decide) dL_law_1036 ?_
    refine A_iload dL_law_1037 0 rfl ?_
    refine J_i2l dL_law_1039 rfl ?_
    refine J_lcmp dL_law_1040 (congrArg i64 (h112 hk0)) rfl ?_
    refine J_if_eq (tgt := 1046) dL_law_1041 (by decide) (cmp_self0 _) (fun _ => ?_) (fun z => absurd rfl z)
    refine A_goto dL_law_1046 (tgt := 1392) (by decide) ?_
    refine A_lv [2, 3, 4, 5, 6] rfl ?_
    exact K _ _ _ hR3 (by omega) (by omega)
set_option maxRecDepth 100000 in
set_option maxHeartbeats 4000000 in
theorem law_17 {f : Fm} {Q : State → Prop} {bA L : Nat} {X : Nat → Int32} (hlt : l.stackTraces = false) (hS : Scr f bA L X) (hL : L ≤ 2147483647) {i : Int} (i0 : 0 ≤ i) (i1 : i + 6 ≤ L) {k n : Nat} (hk : k + 20 ≤ 601024) (hn : n + 100 ≤ 7293034) (hR : Rel σ σ) (K : ∀ (y : Sg) (k2 n2 : Nat), Rel y y → k2 ≤ k + 20 → n2 ≤ n + 100 → LW l G f Q k2 n2 1392 (lvL G bA i) [] y) : LW l G f Q k n 1049 (lvL G bA i) [] σ := by
  obtain ⟨r1, r2⟩ := ok_S imRS hR (fun τ ht => ht.improve.2) (fun k hk => cbC_c hk) (fun τ ht k hk => imR_r hk) (cbC σ) (fun _ _ => rfl)
  refine A_aload_n dL_law_1049 rfl 2 rfl ?_
  refine A_Vm0 mv_L_140 lk_0 rfl rfl (c_X10_improve σ) (Nat.le_of_ble_eq_true rfl) (by decide) ⟨by omega, by omega⟩ rfl rfl dL_law_1050 ?_
  refine A_aload_n dL_law_1053 rfl 3 rfl ?_
  refine A_Vm0 mv_L_143 lk_84 rfl rfl (c_X11_improve (σ := cbC σ) r1.1) (Nat.le_of_ble_eq_true rfl) (by decide) ⟨by omega, by omega⟩ rfl rfl dL_law_1054 ?_
  refine J_icmp_eq (tgt := 1392) dL_law_1057 (by decide) (congrArg Int32.toInt r1.improve.1) rfl (fun _ => ?_) (fun z => absurd rfl z)
  exact K _ _ _ r2 (by omega) (by omega)
set_option maxRecDepth 100000 in
set_option maxHeartbeats 4000000 in
theorem law_18 {f : Fm} {Q : State → Prop} {bA L : Nat} {X : Nat → Int32} (hlt : l.stackTraces = false) (hS : Scr f bA L X) (hL : L ≤ 2147483647) {i : Int} (i0 : 0 ≤ i) (i1 : i + 6 ≤ L) {k n : Nat} (hk : k + 20 ≤ 601024) (hn : n + 100 ≤ 7293034) (hR : Rel σ σ) (K : ∀ (y : Sg) (k2 n2 : Nat), Rel y y → k2 ≤ k + 20 → n2 ≤ n + 100 → LW l G f Q k2 n2 1392 (lvL G bA i) [] y) : LW l G f Q k n 1062 (lvL G bA i) [] σ := by
  obtain ⟨kv, s2, hw, hR2, h84, hkv, h112, hR3⟩ := ok_exchange (σ := σ) hR (a := (X (i + 1).toNat).toInt) (b := (X (i + 2).toNat).toInt) (I32_inr _) (I32_inr _)
  have hkl : kv ≤ 2 := Int.le_trans hkv.2 (by decide)
  have ek : i32 kv = kv := i32_eq ⟨by omega, by omega⟩
  refine A_aload_n dL_law_1062 rfl 2 rfl ?_
  refine A_aload_n dL_law_1063 rfl 1 rfl ?_
  refine A_iload dL_law_1064 0 rfl ?_
  refine A_iconst dL_law_1066 ?_
  refine A_iadd dL_law_1067 ?_
  refine A_sld (j := i + 1) hS (by omega) (by omega) hL dL_law_1068 ?_
  refine A_aload_n dL_law_1069 rfl 1 rfl ?_
  refine A_iload dL_law_1070 0 rfl ?_
  refine A_iconst dL_law_1072 ?_
  refine A_iadd dL_law_1073 ?_
  refine A_sld (j := i + 2) hS (by omega) (by omega) hL dL_law_1074 ?_
  refine A_aload_n dL_law_1075 rfl 4 rfl ?_
  refine A_SH4 ml_exchange (c_L_exchange σ ((X (i + 1).toNat).toInt) ((X (i + 2).toNat).toInt) hlt hw) (Nat.le_of_ble_eq_true rfl) (by decide) ⟨by omega, by omega⟩ rfl rfl dL_law_1076 ?_
  refine A_istore dL_law_1079 (by decide) rfl ?_
  refine A_aload_n dL_law_1081 rfl 4 rfl ?_
  refine A_aload_n dL_law_1082 rfl 2 rfl ?_
  refine A_iload dL_law_1083 1 rfl ?_
  refine A_iconst dL_law_1085 ?_
  refine A_iadd dL_law_1086 ?_
  refine A_sld (j := i + 1) hS (by omega) (by omega) hL dL_law_1087 ?_
  refine A_aload_n dL_law_1088 rfl 2 rfl ?_
  refine A_iload dL_law_1089 1 rfl ?_
  refine A_iconst dL_law_1091 ?_
  refine A_iadd dL_law_1092 ?_
  refine A_sld (j := i + 2) hS (by omega) (by omega) hL dL_law_1093 ?_
  refine A_Vm2 mv_L_146 lk_84 rfl rfl (c_X11_exchange ((X (i + 1).toNat).toInt) ((X (i + 2).toNat).toInt) hR2.1 (I32_inr _) (I32_inr _)) (Nat.le_of_ble_eq_true rfl) (by decide) ⟨by omega, by omega⟩ rfl rfl dL_law_1094 ?_
  refine A_istore dL_law_1097 (by decide) rfl ?_
  refine A_aload_n dL_law_1099 rfl 5 rfl ?_
  refine A_Vm0 mv_L_79 lk_84 rfl rfl (c_X11_thrown _) (Nat.le_of_ble_eq_true rfl) (by decide) ⟨by omega, by omega⟩ rfl rfl dL_law_1100 ?_
  refine A_iload dL_law_1103 1 rfl ?_
  refine J_icmp_eq (tgt := 1110) dL_law_1105 (by decide) (congrArg i32 h84) rfl (fun _ => ?_) (fun z => absurd rfl z)
  refine A_iload dL_law_1110 1 rfl ?_
  refine J_if_ne (tgt := 1127) dL_law_1112 (by decide) ek (fun _ => ?_) (fun hk0 => ?_)
  · refine A_goto dL_law_1127 (tgt := 1392) (by decide) ?_
    refine A_lv [2, 3, 4, 5, 6] rfl ?_
    exact K _ _ _ hR3 (by omega) (by omega)
  · refine A_aload_n dL_law_1115 rfl 6 rfl ?_
    refine A_iconst dL_law_1116 ?_
    refine J_lald (z1 := 0) lk_112 rfl (by decide) (by decide) (by decide) dL_law_1117 ?_
    refine A_iload dL_law_1118 0 rfl ?_
    refine J_i2l dL_law_1120 rfl ?_
    refine J_lcmp dL_law_1121 (congrArg i64 (h112 hk0)) rfl ?_
    refine J_if_eq (tgt := 1127) dL_law_1122 (by decide) (cmp_self0 _) (fun _ => ?_) (fun z => absurd rfl z)
    refine A_goto dL_law_1127 (tgt := 1392) (by decide) ?_
    refine A_lv [2, 3, 4, 5, 6] rfl ?_
    exact K _ _ _ hR3 (by omega) (by omega)
set_option maxRecDepth 100000 in
set_option maxHeartbeats 4000000 in
theorem law_19t {f : Fm} {Q : State → Prop} {bA L : Nat} {X : Nat → Int32} (hlt : l.stackTraces = false) (hS : Scr f bA L X) (hL : L ≤ 2147483647) {i : Int} (i0 : 0 ≤ i) (i1 : i + 6 ≤ L) {k n : Nat} (hk : k + 20 ≤ 601024) (hn : n + 100 ≤ 7293034) (hR : Rel σ σ) (K : ∀ (y : Sg) (k2 n2 : Nat), Rel y y → k2 ≤ k + 20 → n2 ≤ n + 100 → LW l G f Q k2 n2 1392 (lvL G bA i) [] y) (hp : i32 ((X (i + 2).toNat).toInt) ≠ 0) : LW l G f Q k n 1130 (lvL G bA i) [] σ := by
  obtain ⟨kv, s2, hw, hR2, h84, hkv, h112, hR3⟩ := ok_day (σ := σ) hR (a := (X (i + 1).toNat).toInt) (I32_inr _) true
  have hkl : kv ≤ 2 := Int.le_trans hkv.2 (by decide)
  have ek : i32 kv = kv := i32_eq ⟨by omega, by omega⟩
  refine A_aload_n dL_law_1130 rfl 2 rfl ?_
  refine A_aload_n dL_law_1131 rfl 1 rfl ?_
  refine A_iload dL_law_1132 0 rfl ?_
  refine A_iconst dL_law_1134 ?_
  refine A_iadd dL_law_1135 ?_
  refine A_sld (j := i + 1) hS (by omega) (by omega) hL dL_law_1136 ?_
  refine A_aload_n dL_law_1137 rfl 1 rfl ?_
  refine A_iload dL_law_1138 0 rfl ?_
  refine A_iconst dL_law_1140 ?_
  refine A_iadd dL_law_1141 ?_
  refine A_sld (j := i + 2) hS (by omega) (by omega) hL dL_law_1142 ?_
  refine J_if_eq (tgt := 1150) dL_law_1143 (by decide) rfl (fun z => absurd z hp) (fun _ => ?_)
  refine A_iconst dL_law_1146 ?_
  refine A_goto dL_law_1147 (tgt := 1151) (by decide) ?_
  refine A_aload_n dL_law_1151 rfl 4 rfl ?_
  refine A_SH4 ml_day (c_L_day σ ((X (i + 1).toNat).toInt) true hlt hw) (Nat.le_of_ble_eq_true rfl) (by decide) ⟨by omega, by omega⟩ rfl rfl dL_law_1152 ?_
  refine A_istore dL_law_1155 (by decide) rfl ?_
  refine A_aload_n dL_law_1157 rfl 4 rfl ?_
  refine A_aload_n dL_law_1158 rfl 2 rfl ?_
  refine A_iload dL_law_1159 1 rfl ?_
  refine A_iconst dL_law_1161 ?_
  refine A_iadd dL_law_1162 ?_
  refine A_sld (j := i + 1) hS (by omega) (by omega) hL dL_law_1163 ?_
  refine A_aload_n dL_law_1164 rfl 2 rfl ?_
  refine A_iload dL_law_1165 1 rfl ?_
  refine A_iconst dL_law_1167 ?_
  refine A_iadd dL_law_1168 ?_
  refine A_sld (j := i + 2) hS (by omega) (by omega) hL dL_law_1169 ?_
  refine J_if_eq (tgt := 1177) dL_law_1170 (by decide) rfl (fun z => absurd z hp) (fun _ => ?_)
  refine A_iconst dL_law_1173 ?_
  refine A_goto dL_law_1174 (tgt := 1178) (by decide) ?_
  refine A_Vm2 mv_L_149 lk_84 rfl rfl (c_X11_day ((X (i + 1).toNat).toInt) true hR2.1 (I32_inr _)) (Nat.le_of_ble_eq_true rfl) (by decide) ⟨by omega, by omega⟩ rfl rfl dL_law_1178 ?_
  refine A_istore dL_law_1181 (by decide) rfl ?_
  refine A_aload_n dL_law_1183 rfl 5 rfl ?_
  refine A_Vm0 mv_L_79 lk_84 rfl rfl (c_X11_thrown _) (Nat.le_of_ble_eq_true rfl) (by decide) ⟨by omega, by omega⟩ rfl rfl dL_law_1184 ?_
  refine A_iload dL_law_1187 1 rfl ?_
  refine J_icmp_eq (tgt := 1194) dL_law_1189 (by decide) (congrArg i32 h84) rfl (fun _ => ?_) (fun z => absurd rfl z)
  refine A_iload dL_law_1194 1 rfl ?_
  refine J_if_ne (tgt := 1211) dL_law_1196 (by decide) ek (fun _ => ?_) (fun hk0 => ?_)
  · refine A_goto dL_law_1211 (tgt := 1392) (by decide) ?_
    refine A_lv [2, 3, 4, 5, 6] rfl ?_
    exact K _ _ _ hR3 (by omega) (by omega)
  · refine A_aload_n dL_law_1199 rfl 6 rfl ?_
    refine A_iconst dL_law_1200 ?_
    refine J_lald (z1 := 0) lk_112 rfl (by decide) (by decide) (by decide) dL_law_1201 ?_
    refine A_iload dL_law_1202 0 rfl ?_
    refine J_i2l dL_law_1204 rfl ?_
    refine J_lcmp dL_law_1205 (congrArg i64 (h112 hk0)) rfl ?_
    refine J_if_eq (tgt := 1211) dL_law_1206 (by decide) (cmp_self0 _) (fun _ => ?_) (fun z => absurd rfl z)
    refine A_goto dL_law_1211 (tgt := 1392) (by decide) ?_
    refine A_lv [2, 3, 4, 5, 6] rfl ?_
    exact K _ _ _ hR3 (by omega) (by omega)
set_option maxRecDepth 100000 in
set_option maxHeartbeats 4000000 in
theorem law_19f {f : Fm} {Q : State → Prop} {bA L : Nat} {X : Nat → Int32} (hlt : l.stackTraces = false) (hS : Scr f bA L X) (hL : L ≤ 2147483647) {i : Int} (i0 : 0 ≤ i) (i1 : i + 6 ≤ L) {k n : Nat} (hk : k + 20 ≤ 601024) (hn : n + 100 ≤ 7293034) (hR : Rel σ σ) (K : ∀ (y : Sg) (k2 n2 : Nat), Rel y y → k2 ≤ k + 20 → n2 ≤ n + 100 → LW l G f Q k2 n2 1392 (lvL G bA i) [] y) (hp : i32 ((X (i + 2).toNat).toInt) = 0) : LW l G f Q k n 1130 (lvL G bA i) [] σ := by
  obtain ⟨kv, s2, hw, hR2, h84, hkv, h112, hR3⟩ := ok_day (σ := σ) hR (a := (X (i + 1).toNat).toInt) (I32_inr _) false
  have hkl : kv ≤ 2 := Int.le_trans hkv.2 (by decide)
  have ek : i32 kv = kv := i32_eq ⟨by omega, by omega⟩
  refine A_aload_n dL_law_1130 rfl 2 rfl ?_
  refine A_aload_n dL_law_1131 rfl 1 rfl ?_
  refine A_iload dL_law_1132 0 rfl ?_
  refine A_iconst dL_law_1134 ?_
  refine A_iadd dL_law_1135 ?_
  refine A_sld (j := i + 1) hS (by omega) (by omega) hL dL_law_1136 ?_
  refine A_aload_n dL_law_1137 rfl 1 rfl ?_
  refine A_iload dL_law_1138 0 rfl ?_
  refine A_iconst dL_law_1140 ?_
  refine A_iadd dL_law_1141 ?_
  refine A_sld (j := i + 2) hS (by omega) (by omega) hL dL_law_1142 ?_
  refine J_if_eq (tgt := 1150) dL_law_1143 (by decide) rfl (fun _ => ?_) (fun z => absurd hp z)
  refine A_iconst dL_law_1150 ?_
  refine A_aload_n dL_law_1151 rfl 4 rfl ?_
  refine A_SH4 ml_day (c_L_day σ ((X (i + 1).toNat).toInt) false hlt hw) (Nat.le_of_ble_eq_true rfl) (by decide) ⟨by omega, by omega⟩ rfl rfl dL_law_1152 ?_
  refine A_istore dL_law_1155 (by decide) rfl ?_
  refine A_aload_n dL_law_1157 rfl 4 rfl ?_
  refine A_aload_n dL_law_1158 rfl 2 rfl ?_
  refine A_iload dL_law_1159 1 rfl ?_
  refine A_iconst dL_law_1161 ?_
  refine A_iadd dL_law_1162 ?_
  refine A_sld (j := i + 1) hS (by omega) (by omega) hL dL_law_1163 ?_
  refine A_aload_n dL_law_1164 rfl 2 rfl ?_
  refine A_iload dL_law_1165 1 rfl ?_
  refine A_iconst dL_law_1167 ?_
  refine A_iadd dL_law_1168 ?_
  refine A_sld (j := i + 2) hS (by omega) (by omega) hL dL_law_1169 ?_
  refine J_if_eq (tgt := 1177) dL_law_1170 (by decide) rfl (fun _ => ?_) (fun z => absurd hp z)
  refine A_iconst dL_law_1177 ?_
  refine A_Vm2 mv_L_149 lk_84 rfl rfl (c_X11_day ((X (i + 1).toNat).toInt) false hR2.1 (I32_inr _)) (Nat.le_of_ble_eq_true rfl) (by decide) ⟨by omega, by omega⟩ rfl rfl dL_law_1178 ?_
  refine A_istore dL_law_1181 (by decide) rfl ?_
  refine A_aload_n dL_law_1183 rfl 5 rfl ?_
  refine A_Vm0 mv_L_79 lk_84 rfl rfl (c_X11_thrown _) (Nat.le_of_ble_eq_true rfl) (by decide) ⟨by omega, by omega⟩ rfl rfl dL_law_1184 ?_
  refine A_iload dL_law_1187 1 rfl ?_
  refine J_icmp_eq (tgt := 1194) dL_law_1189 (by decide) (congrArg i32 h84) rfl (fun _ => ?_) (fun z => absurd rfl z)
  refine A_iload dL_law_1194 1 rfl ?_
  refine J_if_ne (tgt := 1211) dL_law_1196 (by decide) ek (fun _ => ?_) (fun hk0 => ?_)
  · refine A_goto dL_law_1211 (tgt := 1392) (by decide) ?_
    refine A_lv [2, 3, 4, 5, 6] rfl ?_
    exact K _ _ _ hR3 (by omega) (by omega)
  · refine A_aload_n dL_law_1199 rfl 6 rfl ?_
    refine A_iconst dL_law_1200 ?_
    refine J_lald (z1 := 0) lk_112 rfl (by decide) (by decide) (by decide) dL_law_1201 ?_
    refine A_iload dL_law_1202 0 rfl ?_
    refine J_i2l dL_law_1204 rfl ?_
    refine J_lcmp dL_law_1205 (congrArg i64 (h112 hk0)) rfl ?_
    refine J_if_eq (tgt := 1211) dL_law_1206 (by decide) (cmp_self0 _) (fun _ => ?_) (fun z => absurd rfl z)
    refine A_goto dL_law_1211 (tgt := 1392) (by decide) ?_
    refine A_lv [2, 3, 4, 5, 6] rfl ?_
    exact K _ _ _ hR3 (by omega) (by omega)
set_option maxRecDepth 100000 in
set_option maxHeartbeats 4000000 in
theorem law_20 {f : Fm} {Q : State → Prop} {bA L : Nat} {X : Nat → Int32} (hlt : l.stackTraces = false) (hS : Scr f bA L X) (hL : L ≤ 2147483647) {i : Int} (i0 : 0 ≤ i) (i1 : i + 6 ≤ L) {k n : Nat} (hk : k + 20 ≤ 601024) (hn : n + 100 ≤ 7293034) (hR : Rel σ σ) (K : ∀ (y : Sg) (k2 n2 : Nat), Rel y y → k2 ≤ k + 20 → n2 ≤ n + 100 → LW l G f Q k2 n2 1392 (lvL G bA i) [] y) : LW l G f Q k n 1214 (lvL G bA i) [] σ := by
  obtain ⟨kv, s2, hw, hR2, h84, hkv, h112, hR3⟩ := ok_times (σ := σ) hR (a := (X (i + 1).toNat).toInt) (I32_inr _)
  have hkl : kv ≤ 2 := Int.le_trans hkv.2 (by decide)
  have ek : i32 kv = kv := i32_eq ⟨by omega, by omega⟩
  refine A_aload_n dL_law_1214 rfl 2 rfl ?_
  refine A_aload_n dL_law_1215 rfl 1 rfl ?_
  refine A_iload dL_law_1216 0 rfl ?_
  refine A_iconst dL_law_1218 ?_
  refine A_iadd dL_law_1219 ?_
  refine A_sld (j := i + 1) hS (by omega) (by omega) hL dL_law_1220 ?_
  refine A_aload_n dL_law_1221 rfl 4 rfl ?_
  refine A_SH3 ml_times (c_L_times σ ((X (i + 1).toNat).toInt) hlt hw) (Nat.le_of_ble_eq_true rfl) (by decide) ⟨by omega, by omega⟩ rfl rfl dL_law_1222 ?_
  refine A_istore dL_law_1225 (by decide) rfl ?_
  refine A_aload_n dL_law_1227 rfl 4 rfl ?_
  refine A_aload_n dL_law_1228 rfl 2 rfl ?_
  refine A_iload dL_law_1229 1 rfl ?_
  refine A_iconst dL_law_1231 ?_
  refine A_iadd dL_law_1232 ?_
  refine A_sld (j := i + 1) hS (by omega) (by omega) hL dL_law_1233 ?_
  refine A_Vm1 mv_L_152 lk_84 rfl rfl (c_X11_times ((X (i + 1).toNat).toInt) hR2.1 (I32_inr _)) (Nat.le_of_ble_eq_true rfl) (by decide) ⟨by omega, by omega⟩ rfl rfl dL_law_1234 ?_
  refine A_istore dL_law_1237 (by decide) rfl ?_
  refine A_aload_n dL_law_1239 rfl 5 rfl ?_
  refine A_Vm0 mv_L_79 lk_84 rfl rfl (c_X11_thrown _) (Nat.le_of_ble_eq_true rfl) (by decide) ⟨by omega, by omega⟩ rfl rfl dL_law_1240 ?_
  refine A_iload dL_law_1243 1 rfl ?_
  refine J_icmp_eq (tgt := 1250) dL_law_1245 (by decide) (congrArg i32 h84) rfl (fun _ => ?_) (fun z => absurd rfl z)
  refine A_iload dL_law_1250 1 rfl ?_
  refine J_if_ne (tgt := 1267) dL_law_1252 (by decide) ek (fun _ => ?_) (fun hk0 => ?_)
  · refine A_goto dL_law_1267 (tgt := 1392) (by decide) ?_
    refine A_lv [2, 3, 4, 5, 6] rfl ?_
    exact K _ _ _ hR3 (by omega) (by omega)
  · refine A_aload_n dL_law_1255 rfl 6 rfl ?_
    refine A_iconst dL_law_1256 ?_
    refine J_lald (z1 := 0) lk_112 rfl (by decide) (by decide) (by decide) dL_law_1257 ?_
    refine A_iload dL_law_1258 0 rfl ?_
    refine J_i2l dL_law_1260 rfl ?_
    refine J_lcmp dL_law_1261 (congrArg i64 (h112 hk0)) rfl ?_
    refine J_if_eq (tgt := 1267) dL_law_1262 (by decide) (cmp_self0 _) (fun _ => ?_) (fun z => absurd rfl z)
    refine A_goto dL_law_1267 (tgt := 1392) (by decide) ?_
    refine A_lv [2, 3, 4, 5, 6] rfl ?_
    exact K _ _ _ hR3 (by omega) (by omega)
set_option maxRecDepth 100000 in
set_option maxHeartbeats 4000000 in
theorem law_21 {f : Fm} {Q : State → Prop} {bA L : Nat} {X : Nat → Int32} (hlt : l.stackTraces = false) (hS : Scr f bA L X) (hL : L ≤ 2147483647) {i : Int} (i0 : 0 ≤ i) (i1 : i + 6 ≤ L) {k n : Nat} (hk : k + 20 ≤ 601024) (hn : n + 100 ≤ 7293034) (hR : Rel σ σ) (K : ∀ (y : Sg) (k2 n2 : Nat), Rel y y → k2 ≤ k + 20 → n2 ≤ n + 100 → LW l G f Q k2 n2 1392 (lvL G bA i) [] y) : LW l G f Q k n 1270 (lvL G bA i) [] σ := by
  obtain ⟨kv, s2, hw, hR2, h84, hkv, h112, hR3⟩ := ok_buy (σ := σ) hR (a := (X (i + 1).toNat).toInt) (b := (X (i + 2).toNat).toInt) (I32_inr _) (I32_inr _)
  have hkl : kv ≤ 2 := Int.le_trans hkv.2 (by decide)
  have ek : i32 kv = kv := i32_eq ⟨by omega, by omega⟩
  refine A_aload_n dL_law_1270 rfl 2 rfl ?_
  refine A_aload_n dL_law_1271 rfl 1 rfl ?_
  refine A_iload dL_law_1272 0 rfl ?_
  refine A_iconst dL_law_1274 ?_
  refine A_iadd dL_law_1275 ?_
  refine A_sld (j := i + 1) hS (by omega) (by omega) hL dL_law_1276 ?_
  refine A_aload_n dL_law_1277 rfl 1 rfl ?_
  refine A_iload dL_law_1278 0 rfl ?_
  refine A_iconst dL_law_1280 ?_
  refine A_iadd dL_law_1281 ?_
  refine A_sld (j := i + 2) hS (by omega) (by omega) hL dL_law_1282 ?_
  refine A_aload_n dL_law_1283 rfl 4 rfl ?_
  refine A_SH4 ml_buy (c_L_buy σ ((X (i + 1).toNat).toInt) ((X (i + 2).toNat).toInt) hR.dishes hlt hw) (Nat.le_of_ble_eq_true rfl) (by decide) ⟨by omega, by omega⟩ rfl rfl dL_law_1284 ?_
  refine A_istore dL_law_1287 (by decide) rfl ?_
  refine A_aload_n dL_law_1289 rfl 4 rfl ?_
  refine A_aload_n dL_law_1290 rfl 2 rfl ?_
  refine A_iload dL_law_1291 1 rfl ?_
  refine A_iconst dL_law_1293 ?_
  refine A_iadd dL_law_1294 ?_
  refine A_sld (j := i + 1) hS (by omega) (by omega) hL dL_law_1295 ?_
  refine A_aload_n dL_law_1296 rfl 2 rfl ?_
  refine A_iload dL_law_1297 1 rfl ?_
  refine A_iconst dL_law_1299 ?_
  refine A_iadd dL_law_1300 ?_
  refine A_sld (j := i + 2) hS (by omega) (by omega) hL dL_law_1301 ?_
  refine A_Vm2 mv_L_155 lk_84 rfl rfl (c_X11_buy ((X (i + 1).toNat).toInt) ((X (i + 2).toNat).toInt) hR2.1 (I32_inr _) (I32_inr _)) (Nat.le_of_ble_eq_true rfl) (by decide) ⟨by omega, by omega⟩ rfl rfl dL_law_1302 ?_
  refine A_lstore dL_law_1305 (by decide) rfl ?_
  refine A_aload_n dL_law_1307 rfl 5 rfl ?_
  refine A_Vm0 mv_L_79 lk_84 rfl rfl (c_X11_thrown _) (Nat.le_of_ble_eq_true rfl) (by decide) ⟨by omega, by omega⟩ rfl rfl dL_law_1308 ?_
  refine A_iload dL_law_1311 1 rfl ?_
  refine J_icmp_eq (tgt := 1318) dL_law_1313 (by decide) (congrArg i32 h84) rfl (fun _ => ?_) (fun z => absurd rfl z)
  refine A_iload dL_law_1318 1 rfl ?_
  refine J_if_ne (tgt := 1334) dL_law_1320 (by decide) ek (fun _ => ?_) (fun hk0 => ?_)
  · refine A_goto dL_law_1334 (tgt := 1392) (by decide) ?_
    refine A_lv [2, 3, 4, 5, 6] rfl ?_
    exact K _ _ _ hR3 (by omega) (by omega)
  · refine A_aload_n dL_law_1323 rfl 6 rfl ?_
    refine A_iconst dL_law_1324 ?_
    refine J_lald (z1 := 0) lk_112 rfl (by decide) (by decide) (by decide) dL_law_1325 ?_
    refine A_lload dL_law_1326 0 rfl ?_
    refine J_lcmp dL_law_1328 (congrArg Int64.toInt (h112 hk0)) rfl ?_
    refine J_if_eq (tgt := 1334) dL_law_1329 (by decide) (cmp_self0 _) (fun _ => ?_) (fun z => absurd rfl z)
    refine A_goto dL_law_1334 (tgt := 1392) (by decide) ?_
    refine A_lv [2, 3, 4, 5, 6] rfl ?_
    exact K _ _ _ hR3 (by omega) (by omega)
set_option maxRecDepth 100000 in
set_option maxHeartbeats 4000000 in
theorem law_22 {f : Fm} {Q : State → Prop} {bA L : Nat} {X : Nat → Int32} (hlt : l.stackTraces = false) (hS : Scr f bA L X) (hL : L ≤ 2147483647) {i : Int} (i0 : 0 ≤ i) (i1 : i + 6 ≤ L) {k n : Nat} (hk : k + 20 ≤ 601024) (hn : n + 100 ≤ 7293034) (hR : Rel σ σ) (K : ∀ (y : Sg) (k2 n2 : Nat), Rel y y → k2 ≤ k + 20 → n2 ≤ n + 100 → LW l G f Q k2 n2 1392 (lvL G bA i) [] y) : LW l G f Q k n 1337 (lvL G bA i) [] σ := by
  refine A_aload_n dL_law_1337 rfl 2 rfl ?_
  refine A_Vm0 mv_L_156 lk_0 rfl rfl (c_X10_meanPrice σ) (Nat.le_of_ble_eq_true rfl) (by decide) ⟨by omega, by omega⟩ rfl rfl dL_law_1338 ?_
  refine A_dstore dL_law_1341 (by decide) rfl ?_
  refine A_aload_n dL_law_1343 rfl 4 rfl ?_
  refine A_Vm0 mv_L_160 lk_84 rfl rfl (c_X11_meanPrice hR.1) (Nat.le_of_ble_eq_true rfl) (by decide) ⟨by omega, by omega⟩ rfl rfl dL_law_1344 ?_
  refine A_dstore dL_law_1347 (by decide) rfl ?_
  rw [hR.meanPrice]
  obtain ⟨z, hz, hc⟩ := dcv_01 (mqV (up σ 84 0 0))
  refine A_dload dL_law_1349 1 rfl ?_
  refine A_dload dL_law_1351 0 rfl ?_
  refine A_dcmp dL_law_1353 hc ?_
  refine J_if_eq (tgt := 1375) dL_law_1354 (by decide) (i32_eq ⟨by omega, by omega⟩) (fun _ => ?_) (fun z1 => ?_)
  · refine A_goto dL_law_1375 (tgt := 1392) (by decide) ?_
    refine A_lv [2, 3, 4, 5, 6] rfl ?_
    exact K _ _ _ ((hR.no 0).cg1 (fun k hk => up_r _ _ _ (by omega))) (by omega) (by omega)
  · refine A_dload dL_law_1357 1 rfl ?_
    refine A_dload dL_law_1359 1 rfl ?_
    refine A_dcmp dL_law_1361 hc ?_
    refine J_if_eq (tgt := 1373) dL_law_1362 (by decide) (i32_eq ⟨by omega, by omega⟩) (fun z2 => absurd z2 z1) (fun _ => ?_)
    refine A_dload dL_law_1365 0 rfl ?_
    refine A_dload dL_law_1367 0 rfl ?_
    refine A_dcmp dL_law_1369 hc ?_
    refine J_if_ne (tgt := 1375) dL_law_1370 (by decide) (i32_eq ⟨by omega, by omega⟩) (fun _ => ?_) (fun z2 => absurd z2 z1)
    refine A_goto dL_law_1375 (tgt := 1392) (by decide) ?_
    refine A_lv [2, 3, 4, 5, 6] rfl ?_
    exact K _ _ _ ((hR.no 0).cg1 (fun k hk => up_r _ _ _ (by omega))) (by omega) (by omega)
set_option maxRecDepth 100000 in
set_option maxHeartbeats 4000000 in
theorem law_23 {f : Fm} {Q : State → Prop} {bA L : Nat} {X : Nat → Int32} (hlt : l.stackTraces = false) (hS : Scr f bA L X) (hL : L ≤ 2147483647) {i : Int} (i0 : 0 ≤ i) (i1 : i + 6 ≤ L) {k n : Nat} (hk : k + 20 ≤ 601024) (hn : n + 100 ≤ 7293034) (hR : Rel σ σ) (K : ∀ (y : Sg) (k2 n2 : Nat), Rel y y → k2 ≤ k + 20 → n2 ≤ n + 100 → LW l G f Q k2 n2 1392 (lvL G bA i) [] y) : LW l G f Q k n 1378 (lvL G bA i) [] σ := by
  refine A_aload_n dL_law_1378 rfl 2 rfl ?_
  refine A_Vm0 mv_L_161 lk_0 rfl rfl (c_X10_digest σ) (Nat.le_of_ble_eq_true rfl) (by decide) ⟨by omega, by omega⟩ rfl rfl dL_law_1379 ?_
  refine A_aload_n dL_law_1382 rfl 3 rfl ?_
  refine A_Vm0 mv_L_165 lk_84 rfl rfl (c_X11_digest hR.1) (Nat.le_of_ble_eq_true rfl) (by decide) ⟨by omega, by omega⟩ rfl rfl dL_law_1383 ?_
  refine J_lcmp dL_law_1386 (congrArg i64 hR.digest) rfl ?_
  refine J_if_eq (tgt := 1392) dL_law_1387 (by decide) (cmp_self0 _) (fun _ => ?_) (fun z => absurd rfl z)
  exact K _ _ _ ((hR.no 0).cg1 (fun k hk => up_r _ _ _ (by omega))) (by omega) (by omega)
end S84
