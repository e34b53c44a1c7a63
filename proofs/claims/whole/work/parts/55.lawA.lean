/-! the law's body, a case each -/
abbrev lwL (ω : qOm) (b : Nat) (i : Int) : List (Nat × Value) := [(0, .ref b), (1, .ref (ω.1 0)), (2, .ref (ω.1 23)), (3, .ref (ω.1 36)), (4, .ref (ω.1 37)), (5, .int (iI i))]
section LAWB
variable {X : qEnv} {ω : qOm} {T : List ExceptionTableEntry} {b L j : Nat} {xs : Nat → Int32} {g : qHp} {Q : State → Prop}
/-- the end of a round -/
theorem law_nx (C : qCx X ω RL cL_law 8 (some .boolean) T 20 10000) (hL : L ≤ 2048) (hj : 4 * j + 3 < L) (ih : ∀ g', LI g' → qT X ω 8 (300 + 4 * (j + 1)) Q g' 28 (lwL ω b (4 * ((j + 1 : Nat) : Int))) []) {k : Nat} (hk : k ≤ 300 + 4 * (j + 1)) {ls : List (Nat × Value)} (hls : lsub ls (lwL ω b (4 * (j : Int)))) {g' : qHp} (I : LI g') : qT X ω 8 k Q g' 1982 ls [] := by
  refine q_loc (lwL ω b (4 * (j : Int))) hls ?_
  refine q_iinc C dL_law_1982 rfl (by decide) (fun v e => ?_)
  refine q_goto C 28 dL_law_1985 (by decide) ?_
  have e2 : v = 4 * ((j + 1 : Nat) : Int) := by omega
  subst e2
  refine q_loc (lwL ω b (4 * ((j + 1 : Nat) : Int))) ⟨rfl, rfl, rfl, rfl, rfl, rfl, trivial⟩ ?_
  exact q_widen hk (ih g' I)
set_option maxRecDepth 20000 in
theorem law_c0 (C : qCx X ω RL cL_law 8 (some .boolean) T 20 10000) (S : qSc X ω b L xs) (hL : L ≤ 2048) (hj : 4 * j + 3 < L) (I : LI g) (ih : ∀ g', LI g' → qT X ω 8 (300 + 4 * (j + 1)) Q g' 28 (lwL ω b (4 * ((j + 1 : Nat) : Int))) []) : qT X ω 8 (300 + 4 * j) Q g 192 (lwL ω b (4 * (j : Int))) [] := by
  refine q_nm (fun hn => ?_)
  refine q_aload_n C 1 dL_law_192 rfl rfl ?_
  refine q_aload_n C 0 dL_law_193 rfl rfl ?_
  refine q_iload C dL_law_194 rfl ?_
  refine q_iconst C dL_law_196 ?_
  refine q_iadd C dL_law_197 ?_
  refine q_sld C S (a := (4 * (j : Int) + 1)) (by omega) (by omega) dL_law_198 ?_
  refine q_aload_n C 3 dL_law_199 rfl rfl ?_
  refine q_SHi C (KL_addStack g (sI xs (4 * (j : Int) + 1)) (sI_rng _ _) ) mL_addStack ml_L_114 dL_law_200 (by decide) (by omega) rfl rfl rfl (Nat.le_of_ble_eq_true rfl) (fun v g1 lv uv hv => ?_)
  refine q_nm (fun hn1 => ?_)
  have F := LF_addStack I hn hv
  refine q_istoreV C dL_law_203 (by decide) (fun v6 e6 => ?_)
  subst e6
  refine q_aload_n C 2 dL_law_205 rfl rfl ?_
  refine q_aload_n C 0 dL_law_206 rfl rfl ?_
  refine q_iload C dL_law_207 rfl ?_
  refine q_iconst C dL_law_209 ?_
  refine q_iadd C dL_law_210 ?_
  refine q_sld C S (a := (4 * (j : Int) + 1)) (by omega) (by omega) dL_law_211 ?_
  refine q_Vi0 C (KX6_addStack g1 (sI xs (4 * (j : Int) + 1)) (sI_rng _ _) ) mX6_addStack ml_L_119 dL_law_212 (by decide) (by omega) rfl rfl rfl (Nat.le_of_ble_eq_true rfl) rfl (by decide) rfl rfl (fun rb g2 lb ub hb => ?_)
  obtain ⟨A1, A2, A3⟩ := LC_addStack I hn hn1 hv hb
  refine q_istoreV C dL_law_215 (by decide) (fun v7 e7 => ?_)
  refine q_aload_n C 2 dL_law_217 rfl rfl ?_
  refine q_Vf0 C (KX6_thrown _) mX6_thrown ml_L_120 dL_law_218 (by decide) (by omega) rfl rfl rfl (Nat.le_of_ble_eq_true rfl) rfl (by decide) rfl rfl (fun vt lt ut ht => ?_)
  refine q_iload C dL_law_221 rfl ?_
  refine q_icmp_eq C 228 dL_law_223 (by decide) (by omega) (by omega) (fun ca => ?_) (fun ca => ?_)
  rotate_left
  · exfalso; omega
  refine q_iload C dL_law_228 rfl ?_
  refine q_ifne C 245 dL_law_230 (by decide) (by omega) (fun cb => ?_) (fun cb => ?_)
  · refine q_goto C 1982 dL_law_245 (by decide) ?_
    exact law_nx C hL hj ih (by omega) ⟨rfl, rfl, rfl, rfl, rfl, rfl, trivial⟩ A3
  · refine q_aload_n C 3 dL_law_233 rfl rfl ?_
    refine q_iconst C dL_law_234 ?_
    refine q_lald C (b := 36) (n := 1) (-9223372036854775808) 9223372036854775807 rfl (by decide) (by decide) (by omega) (fun _ => rfl) dL_law_235 (fun vo eo lo uo => ?_)
    refine q_iload C dL_law_236 rfl ?_
    refine q_i2l C dL_law_238 (by omega) ?_
    refine q_lcmpN C dL_law_239 (by omega) (by omega) (fun vc hc => ?_)
    have hz := A2 cb
    refine q_ifeq C 245 dL_law_240 (by decide) (by omega) (fun cc0 => ?_) (fun cc0 => ?_)
    rotate_left
    · exfalso; omega
    refine q_goto C 1982 dL_law_245 (by decide) ?_
    exact law_nx C hL hj ih (by omega) ⟨rfl, rfl, rfl, rfl, rfl, rfl, trivial⟩ A3
set_option maxRecDepth 20000 in
theorem law_c1 (C : qCx X ω RL cL_law 8 (some .boolean) T 20 10000) (S : qSc X ω b L xs) (hL : L ≤ 2048) (hj : 4 * j + 3 < L) (I : LI g) (ih : ∀ g', LI g' → qT X ω 8 (300 + 4 * (j + 1)) Q g' 28 (lwL ω b (4 * ((j + 1 : Nat) : Int))) []) : qT X ω 8 (300 + 4 * j) Q g 248 (lwL ω b (4 * (j : Int))) [] := by
  refine q_nm (fun hn => ?_)
  refine q_aload_n C 1 dL_law_248 rfl rfl ?_
  refine q_aload_n C 0 dL_law_249 rfl rfl ?_
  refine q_iload C dL_law_250 rfl ?_
  refine q_iconst C dL_law_252 ?_
  refine q_iadd C dL_law_253 ?_
  refine q_sld C S (a := (4 * (j : Int) + 1)) (by omega) (by omega) dL_law_254 ?_
  refine q_aload_n C 0 dL_law_255 rfl rfl ?_
  refine q_iload C dL_law_256 rfl ?_
  refine q_iconst C dL_law_258 ?_
  refine q_iadd C dL_law_259 ?_
  refine q_sld C S (a := (4 * (j : Int) + 2)) (by omega) (by omega) dL_law_260 ?_
  refine q_aload_n C 3 dL_law_261 rfl rfl ?_
  refine q_SHi C (KL_addBox g (sI xs (4 * (j : Int) + 1)) (sI_rng _ _) (sI xs (4 * (j : Int) + 2)) (sI_rng _ _) ) mL_addBox ml_L_124 dL_law_262 (by decide) (by omega) rfl rfl rfl (Nat.le_of_ble_eq_true rfl) (fun v g1 lv uv hv => ?_)
  refine q_nm (fun hn1 => ?_)
  have F := LF_addBox I hn hv
  refine q_istoreV C dL_law_265 (by decide) (fun v6 e6 => ?_)
  subst e6
  refine q_aload_n C 2 dL_law_267 rfl rfl ?_
  refine q_aload_n C 0 dL_law_268 rfl rfl ?_
  refine q_iload C dL_law_269 rfl ?_
  refine q_iconst C dL_law_271 ?_
  refine q_iadd C dL_law_272 ?_
  refine q_sld C S (a := (4 * (j : Int) + 1)) (by omega) (by omega) dL_law_273 ?_
  refine q_aload_n C 0 dL_law_274 rfl rfl ?_
  refine q_iload C dL_law_275 rfl ?_
  refine q_iconst C dL_law_277 ?_
  refine q_iadd C dL_law_278 ?_
  refine q_sld C S (a := (4 * (j : Int) + 2)) (by omega) (by omega) dL_law_279 ?_
  refine q_Vi0 C (KX6_addBox g1 (sI xs (4 * (j : Int) + 1)) (sI_rng _ _) (sI xs (4 * (j : Int) + 2)) (sI_rng _ _) ) mX6_addBox ml_L_127 dL_law_280 (by decide) (by omega) rfl rfl rfl (Nat.le_of_ble_eq_true rfl) rfl (by decide) rfl rfl (fun rb g2 lb ub hb => ?_)
  obtain ⟨A1, A2, A3⟩ := LC_addBox I hn hn1 hv hb
  refine q_istoreV C dL_law_283 (by decide) (fun v7 e7 => ?_)
  refine q_aload_n C 2 dL_law_285 rfl rfl ?_
  refine q_Vf0 C (KX6_thrown _) mX6_thrown ml_L_120 dL_law_286 (by decide) (by omega) rfl rfl rfl (Nat.le_of_ble_eq_true rfl) rfl (by decide) rfl rfl (fun vt lt ut ht => ?_)
  refine q_iload C dL_law_289 rfl ?_
  refine q_icmp_eq C 296 dL_law_291 (by decide) (by omega) (by omega) (fun ca => ?_) (fun ca => ?_)
  rotate_left
  · exfalso; omega
  refine q_iload C dL_law_296 rfl ?_
  refine q_ifne C 313 dL_law_298 (by decide) (by omega) (fun cb => ?_) (fun cb => ?_)
  · refine q_goto C 1982 dL_law_313 (by decide) ?_
    exact law_nx C hL hj ih (by omega) ⟨rfl, rfl, rfl, rfl, rfl, rfl, trivial⟩ A3
  · refine q_aload_n C 3 dL_law_301 rfl rfl ?_
    refine q_iconst C dL_law_302 ?_
    refine q_lald C (b := 36) (n := 1) (-9223372036854775808) 9223372036854775807 rfl (by decide) (by decide) (by omega) (fun _ => rfl) dL_law_303 (fun vo eo lo uo => ?_)
    refine q_iload C dL_law_304 rfl ?_
    refine q_i2l C dL_law_306 (by omega) ?_
    refine q_lcmpN C dL_law_307 (by omega) (by omega) (fun vc hc => ?_)
    have hz := A2 cb
    refine q_ifeq C 313 dL_law_308 (by decide) (by omega) (fun cc0 => ?_) (fun cc0 => ?_)
    rotate_left
    · exfalso; omega
    refine q_goto C 1982 dL_law_313 (by decide) ?_
    exact law_nx C hL hj ih (by omega) ⟨rfl, rfl, rfl, rfl, rfl, rfl, trivial⟩ A3
set_option maxRecDepth 20000 in
theorem law_c2 (C : qCx X ω RL cL_law 8 (some .boolean) T 20 10000) (S : qSc X ω b L xs) (hL : L ≤ 2048) (hj : 4 * j + 3 < L) (I : LI g) (ih : ∀ g', LI g' → qT X ω 8 (300 + 4 * (j + 1)) Q g' 28 (lwL ω b (4 * ((j + 1 : Nat) : Int))) []) : qT X ω 8 (300 + 4 * j) Q g 316 (lwL ω b (4 * (j : Int))) [] := by
  refine q_nm (fun hn => ?_)
  refine q_aload_n C 1 dL_law_316 rfl rfl ?_
  refine q_Vi0 (P := cP_boxes g) C (KX5_boxes g ) mX5_boxes ml_L_128 dL_law_317 (by decide) (by omega) rfl rfl rfl (Nat.le_of_ble_eq_true rfl) rfl (by decide) rfl rfl (fun v g1 lv uv hv => ?_)
  refine q_nm (fun hn1 => ?_)
  refine q_aload_n C 2 dL_law_320 rfl rfl ?_
  refine q_Vi0 (P := rP_boxes (c0 g1)) C (KX6_boxes g1 ) mX6_boxes ml_L_131 dL_law_321 (by decide) (by omega) rfl rfl rfl (Nat.le_of_ble_eq_true rfl) rfl (by decide) rfl rfl (fun rb g2 lb ub hb => ?_)
  obtain ⟨A1, A3⟩ := LC_boxes I hn hn1 hv hb
  refine q_icmp_eq C 1982 dL_law_324 (by decide) (by omega) (by omega) (fun cc0 => ?_) (fun cc0 => ?_)
  · exact law_nx C hL hj ih (by omega) ⟨rfl, rfl, rfl, rfl, rfl, rfl, trivial⟩ A3
  · exfalso; omega
set_option maxRecDepth 20000 in
theorem law_c3 (C : qCx X ω RL cL_law 8 (some .boolean) T 20 10000) (S : qSc X ω b L xs) (hL : L ≤ 2048) (hj : 4 * j + 3 < L) (I : LI g) (ih : ∀ g', LI g' → qT X ω 8 (300 + 4 * (j + 1)) Q g' 28 (lwL ω b (4 * ((j + 1 : Nat) : Int))) []) : qT X ω 8 (300 + 4 * j) Q g 329 (lwL ω b (4 * (j : Int))) [] := by
  refine q_nm (fun hn => ?_)
  refine q_aload_n C 1 dL_law_329 rfl rfl ?_
  refine q_aload_n C 0 dL_law_330 rfl rfl ?_
  refine q_iload C dL_law_331 rfl ?_
  refine q_iconst C dL_law_333 ?_
  refine q_iadd C dL_law_334 ?_
  refine q_sld C S (a := (4 * (j : Int) + 1)) (by omega) (by omega) dL_law_335 ?_
  refine q_Vi0 (P := cP_isInYard g (sI xs (4 * (j : Int) + 1))) C (KX5_isInYard g (sI xs (4 * (j : Int) + 1)) (sI_rng _ _)) mX5_isInYard ml_L_132 dL_law_336 (by decide) (by omega) rfl rfl rfl (Nat.le_of_ble_eq_true rfl) rfl (by decide) rfl rfl (fun v g1 lv uv hv => ?_)
  refine q_nm (fun hn1 => ?_)
  refine q_aload_n C 2 dL_law_339 rfl rfl ?_
  refine q_aload_n C 0 dL_law_340 rfl rfl ?_
  refine q_iload C dL_law_341 rfl ?_
  refine q_iconst C dL_law_343 ?_
  refine q_iadd C dL_law_344 ?_
  refine q_sld C S (a := (4 * (j : Int) + 1)) (by omega) (by omega) dL_law_345 ?_
  refine q_Vi0 (P := rP_isInYard (c0 g1) (sI xs (4 * (j : Int) + 1))) C (KX6_isInYard g1 (sI xs (4 * (j : Int) + 1)) (sI_rng _ _)) mX6_isInYard ml_L_136 dL_law_346 (by decide) (by omega) rfl rfl rfl (Nat.le_of_ble_eq_true rfl) rfl (by decide) rfl rfl (fun rb g2 lb ub hb => ?_)
  obtain ⟨A1, A3⟩ := LC_isInYard I hn hn1 hv hb
  refine q_icmp_eq C 1982 dL_law_349 (by decide) (by omega) (by omega) (fun cc0 => ?_) (fun cc0 => ?_)
  · exact law_nx C hL hj ih (by omega) ⟨rfl, rfl, rfl, rfl, rfl, rfl, trivial⟩ A3
  · exfalso; omega
set_option maxRecDepth 20000 in
theorem law_c4 (C : qCx X ω RL cL_law 8 (some .boolean) T 20 10000) (S : qSc X ω b L xs) (hL : L ≤ 2048) (hj : 4 * j + 3 < L) (I : LI g) (ih : ∀ g', LI g' → qT X ω 8 (300 + 4 * (j + 1)) Q g' 28 (lwL ω b (4 * ((j + 1 : Nat) : Int))) []) : qT X ω 8 (300 + 4 * j) Q g 354 (lwL ω b (4 * (j : Int))) [] := by
  refine q_nm (fun hn => ?_)
  refine q_aload_n C 1 dL_law_354 rfl rfl ?_
  refine q_aload_n C 0 dL_law_355 rfl rfl ?_
  refine q_iload C dL_law_356 rfl ?_
  refine q_iconst C dL_law_358 ?_
  refine q_iadd C dL_law_359 ?_
  refine q_sld C S (a := (4 * (j : Int) + 1)) (by omega) (by omega) dL_law_360 ?_
  refine q_aload_n C 3 dL_law_361 rfl rfl ?_
  refine q_SHi C (KL_weight g (sI xs (4 * (j : Int) + 1)) (sI_rng _ _) ) mL_weight ml_L_137 dL_law_362 (by decide) (by omega) rfl rfl rfl (Nat.le_of_ble_eq_true rfl) (fun v g1 lv uv hv => ?_)
  refine q_nm (fun hn1 => ?_)
  have F := LF_weight I hn hv
  refine q_istoreV C dL_law_365 (by decide) (fun v6 e6 => ?_)
  subst e6
  refine q_aload_n C 2 dL_law_367 rfl rfl ?_
  refine q_aload_n C 0 dL_law_368 rfl rfl ?_
  refine q_iload C dL_law_369 rfl ?_
  refine q_iconst C dL_law_371 ?_
  refine q_iadd C dL_law_372 ?_
  refine q_sld C S (a := (4 * (j : Int) + 1)) (by omega) (by omega) dL_law_373 ?_
  refine q_Vi0 C (KX6_weight g1 (sI xs (4 * (j : Int) + 1)) (sI_rng _ _) ) mX6_weight ml_L_139 dL_law_374 (by decide) (by omega) rfl rfl rfl (Nat.le_of_ble_eq_true rfl) rfl (by decide) rfl rfl (fun rb g2 lb ub hb => ?_)
  obtain ⟨A1, A2, A3⟩ := LC_weight I hn hn1 hv hb
  refine q_istoreV C dL_law_377 (by decide) (fun v7 e7 => ?_)
  refine q_aload_n C 2 dL_law_379 rfl rfl ?_
  refine q_Vf0 C (KX6_thrown _) mX6_thrown ml_L_120 dL_law_380 (by decide) (by omega) rfl rfl rfl (Nat.le_of_ble_eq_true rfl) rfl (by decide) rfl rfl (fun vt lt ut ht => ?_)
  refine q_iload C dL_law_383 rfl ?_
  refine q_icmp_eq C 390 dL_law_385 (by decide) (by omega) (by omega) (fun ca => ?_) (fun ca => ?_)
  rotate_left
  · exfalso; omega
  refine q_iload C dL_law_390 rfl ?_
  refine q_ifne C 407 dL_law_392 (by decide) (by omega) (fun cb => ?_) (fun cb => ?_)
  · refine q_goto C 1982 dL_law_407 (by decide) ?_
    exact law_nx C hL hj ih (by omega) ⟨rfl, rfl, rfl, rfl, rfl, rfl, trivial⟩ A3
  · refine q_aload_n C 3 dL_law_395 rfl rfl ?_
    refine q_iconst C dL_law_396 ?_
    refine q_lald C (b := 36) (n := 1) (-9223372036854775808) 9223372036854775807 rfl (by decide) (by decide) (by omega) (fun _ => rfl) dL_law_397 (fun vo eo lo uo => ?_)
    refine q_iload C dL_law_398 rfl ?_
    refine q_i2l C dL_law_400 (by omega) ?_
    refine q_lcmpN C dL_law_401 (by omega) (by omega) (fun vc hc => ?_)
    have hz := A2 cb
    refine q_ifeq C 407 dL_law_402 (by decide) (by omega) (fun cc0 => ?_) (fun cc0 => ?_)
    rotate_left
    · exfalso; omega
    refine q_goto C 1982 dL_law_407 (by decide) ?_
    exact law_nx C hL hj ih (by omega) ⟨rfl, rfl, rfl, rfl, rfl, rfl, trivial⟩ A3
set_option maxRecDepth 20000 in
theorem law_c5 (C : qCx X ω RL cL_law 8 (some .boolean) T 20 10000) (S : qSc X ω b L xs) (hL : L ≤ 2048) (hj : 4 * j + 3 < L) (I : LI g) (ih : ∀ g', LI g' → qT X ω 8 (300 + 4 * (j + 1)) Q g' 28 (lwL ω b (4 * ((j + 1 : Nat) : Int))) []) : qT X ω 8 (300 + 4 * j) Q g 410 (lwL ω b (4 * (j : Int))) [] := by
  refine q_nm (fun hn => ?_)
  refine q_aload_n C 1 dL_law_410 rfl rfl ?_
  refine q_aload_n C 0 dL_law_411 rfl rfl ?_
  refine q_iload C dL_law_412 rfl ?_
  refine q_iconst C dL_law_414 ?_
  refine q_iadd C dL_law_415 ?_
  refine q_sld C S (a := (4 * (j : Int) + 1)) (by omega) (by omega) dL_law_416 ?_
  refine q_aload_n C 3 dL_law_417 rfl rfl ?_
  refine q_SHi C (KL_stackOf g (sI xs (4 * (j : Int) + 1)) (sI_rng _ _) ) mL_stackOf ml_L_140 dL_law_418 (by decide) (by omega) rfl rfl rfl (Nat.le_of_ble_eq_true rfl) (fun v g1 lv uv hv => ?_)
  refine q_nm (fun hn1 => ?_)
  have F := LF_stackOf I hn hv
  refine q_istoreV C dL_law_421 (by decide) (fun v6 e6 => ?_)
  subst e6
  refine q_aload_n C 2 dL_law_423 rfl rfl ?_
  refine q_aload_n C 0 dL_law_424 rfl rfl ?_
  refine q_iload C dL_law_425 rfl ?_
  refine q_iconst C dL_law_427 ?_
  refine q_iadd C dL_law_428 ?_
  refine q_sld C S (a := (4 * (j : Int) + 1)) (by omega) (by omega) dL_law_429 ?_
  refine q_Vi0 C (KX6_stackOf g1 (sI xs (4 * (j : Int) + 1)) (sI_rng _ _) F.1) mX6_stackOf ml_L_142 dL_law_430 (by decide) (by omega) rfl rfl rfl (Nat.le_of_ble_eq_true rfl) rfl (by decide) rfl rfl (fun rb g2 lb ub hb => ?_)
  obtain ⟨A1, A2, A3⟩ := LC_stackOf I hn hn1 hv hb
  refine q_istoreV C dL_law_433 (by decide) (fun v7 e7 => ?_)
  refine q_aload_n C 2 dL_law_435 rfl rfl ?_
  refine q_Vf0 C (KX6_thrown _) mX6_thrown ml_L_120 dL_law_436 (by decide) (by omega) rfl rfl rfl (Nat.le_of_ble_eq_true rfl) rfl (by decide) rfl rfl (fun vt lt ut ht => ?_)
  refine q_iload C dL_law_439 rfl ?_
  refine q_icmp_eq C 446 dL_law_441 (by decide) (by omega) (by omega) (fun ca => ?_) (fun ca => ?_)
  rotate_left
  · exfalso; omega
  refine q_iload C dL_law_446 rfl ?_
  refine q_ifne C 463 dL_law_448 (by decide) (by omega) (fun cb => ?_) (fun cb => ?_)
  · refine q_goto C 1982 dL_law_463 (by decide) ?_
    exact law_nx C hL hj ih (by omega) ⟨rfl, rfl, rfl, rfl, rfl, rfl, trivial⟩ A3
  · refine q_aload_n C 3 dL_law_451 rfl rfl ?_
    refine q_iconst C dL_law_452 ?_
    refine q_lald C (b := 36) (n := 1) (-9223372036854775808) 9223372036854775807 rfl (by decide) (by decide) (by omega) (fun _ => rfl) dL_law_453 (fun vo eo lo uo => ?_)
    refine q_iload C dL_law_454 rfl ?_
    refine q_i2l C dL_law_456 (by omega) ?_
    refine q_lcmpN C dL_law_457 (by omega) (by omega) (fun vc hc => ?_)
    have hz := A2 cb
    refine q_ifeq C 463 dL_law_458 (by decide) (by omega) (fun cc0 => ?_) (fun cc0 => ?_)
    rotate_left
    · exfalso; omega
    refine q_goto C 1982 dL_law_463 (by decide) ?_
    exact law_nx C hL hj ih (by omega) ⟨rfl, rfl, rfl, rfl, rfl, rfl, trivial⟩ A3
set_option maxRecDepth 20000 in
theorem law_c6 (C : qCx X ω RL cL_law 8 (some .boolean) T 20 10000) (S : qSc X ω b L xs) (hL : L ≤ 2048) (hj : 4 * j + 3 < L) (I : LI g) (ih : ∀ g', LI g' → qT X ω 8 (300 + 4 * (j + 1)) Q g' 28 (lwL ω b (4 * ((j + 1 : Nat) : Int))) []) : qT X ω 8 (300 + 4 * j) Q g 466 (lwL ω b (4 * (j : Int))) [] := by
  refine q_nm (fun hn => ?_)
  refine q_aload_n C 1 dL_law_466 rfl rfl ?_
  refine q_aload_n C 0 dL_law_467 rfl rfl ?_
  refine q_iload C dL_law_468 rfl ?_
  refine q_iconst C dL_law_470 ?_
  refine q_iadd C dL_law_471 ?_
  refine q_sld C S (a := (4 * (j : Int) + 1)) (by omega) (by omega) dL_law_472 ?_
  refine q_aload_n C 3 dL_law_473 rfl rfl ?_
  refine q_SHi C (KL_level g (sI xs (4 * (j : Int) + 1)) (sI_rng _ _) ) mL_level ml_L_143 dL_law_474 (by decide) (by omega) rfl rfl rfl (Nat.le_of_ble_eq_true rfl) (fun v g1 lv uv hv => ?_)
  refine q_nm (fun hn1 => ?_)
  have F := LF_level I hn hv
  refine q_istoreV C dL_law_477 (by decide) (fun v6 e6 => ?_)
  subst e6
  refine q_aload_n C 2 dL_law_479 rfl rfl ?_
  refine q_aload_n C 0 dL_law_480 rfl rfl ?_
  refine q_iload C dL_law_481 rfl ?_
  refine q_iconst C dL_law_483 ?_
  refine q_iadd C dL_law_484 ?_
  refine q_sld C S (a := (4 * (j : Int) + 1)) (by omega) (by omega) dL_law_485 ?_
  refine q_Vi0 C (KX6_level g1 (sI xs (4 * (j : Int) + 1)) (sI_rng _ _) F.1 F.2.1) mX6_level ml_L_145 dL_law_486 (by decide) (by omega) rfl rfl rfl (Nat.le_of_ble_eq_true rfl) rfl (by decide) rfl rfl (fun rb g2 lb ub hb => ?_)
  obtain ⟨A1, A2, A3⟩ := LC_level I hn hn1 hv hb
  refine q_istoreV C dL_law_489 (by decide) (fun v7 e7 => ?_)
  refine q_aload_n C 2 dL_law_491 rfl rfl ?_
  refine q_Vf0 C (KX6_thrown _) mX6_thrown ml_L_120 dL_law_492 (by decide) (by omega) rfl rfl rfl (Nat.le_of_ble_eq_true rfl) rfl (by decide) rfl rfl (fun vt lt ut ht => ?_)
  refine q_iload C dL_law_495 rfl ?_
  refine q_icmp_eq C 502 dL_law_497 (by decide) (by omega) (by omega) (fun ca => ?_) (fun ca => ?_)
  rotate_left
  · exfalso; omega
  refine q_iload C dL_law_502 rfl ?_
  refine q_ifne C 519 dL_law_504 (by decide) (by omega) (fun cb => ?_) (fun cb => ?_)
  · refine q_goto C 1982 dL_law_519 (by decide) ?_
    exact law_nx C hL hj ih (by omega) ⟨rfl, rfl, rfl, rfl, rfl, rfl, trivial⟩ A3
  · refine q_aload_n C 3 dL_law_507 rfl rfl ?_
    refine q_iconst C dL_law_508 ?_
    refine q_lald C (b := 36) (n := 1) (-9223372036854775808) 9223372036854775807 rfl (by decide) (by decide) (by omega) (fun _ => rfl) dL_law_509 (fun vo eo lo uo => ?_)
    refine q_iload C dL_law_510 rfl ?_
    refine q_i2l C dL_law_512 (by omega) ?_
    refine q_lcmpN C dL_law_513 (by omega) (by omega) (fun vc hc => ?_)
    have hz := A2 cb
    refine q_ifeq C 519 dL_law_514 (by decide) (by omega) (fun cc0 => ?_) (fun cc0 => ?_)
    rotate_left
    · exfalso; omega
    refine q_goto C 1982 dL_law_519 (by decide) ?_
    exact law_nx C hL hj ih (by omega) ⟨rfl, rfl, rfl, rfl, rfl, rfl, trivial⟩ A3
set_option maxRecDepth 20000 in
theorem law_c7 (C : qCx X ω RL cL_law 8 (some .boolean) T 20 10000) (S : qSc X ω b L xs) (hL : L ≤ 2048) (hj : 4 * j + 3 < L) (I : LI g) (ih : ∀ g', LI g' → qT X ω 8 (300 + 4 * (j + 1)) Q g' 28 (lwL ω b (4 * ((j + 1 : Nat) : Int))) []) : qT X ω 8 (300 + 4 * j) Q g 522 (lwL ω b (4 * (j : Int))) [] := by
  refine q_nm (fun hn => ?_)
  refine q_aload_n C 1 dL_law_522 rfl rfl ?_
  refine q_aload_n C 0 dL_law_523 rfl rfl ?_
  refine q_iload C dL_law_524 rfl ?_
  refine q_iconst C dL_law_526 ?_
  refine q_iadd C dL_law_527 ?_
  refine q_sld C S (a := (4 * (j : Int) + 1)) (by omega) (by omega) dL_law_528 ?_
  refine q_aload_n C 3 dL_law_529 rfl rfl ?_
  refine q_SHi C (KL_above g (sI xs (4 * (j : Int) + 1)) (sI_rng _ _) ) mL_above ml_L_146 dL_law_530 (by decide) (by omega) rfl rfl rfl (Nat.le_of_ble_eq_true rfl) (fun v g1 lv uv hv => ?_)
  refine q_nm (fun hn1 => ?_)
  have F := LF_above I hn hv
  refine q_istoreV C dL_law_533 (by decide) (fun v6 e6 => ?_)
  subst e6
  refine q_aload_n C 2 dL_law_535 rfl rfl ?_
  refine q_aload_n C 0 dL_law_536 rfl rfl ?_
  refine q_iload C dL_law_537 rfl ?_
  refine q_iconst C dL_law_539 ?_
  refine q_iadd C dL_law_540 ?_
  refine q_sld C S (a := (4 * (j : Int) + 1)) (by omega) (by omega) dL_law_541 ?_
  refine q_Vi0 C (KX6_above g1 (sI xs (4 * (j : Int) + 1)) (sI_rng _ _) F.1 F.2.1) mX6_above ml_L_148 dL_law_542 (by decide) (by omega) rfl rfl rfl (Nat.le_of_ble_eq_true rfl) rfl (by decide) rfl rfl (fun rb g2 lb ub hb => ?_)
  obtain ⟨A1, A2, A3⟩ := LC_above I hn hn1 hv hb
  refine q_istoreV C dL_law_545 (by decide) (fun v7 e7 => ?_)
  refine q_aload_n C 2 dL_law_547 rfl rfl ?_
  refine q_Vf0 C (KX6_thrown _) mX6_thrown ml_L_120 dL_law_548 (by decide) (by omega) rfl rfl rfl (Nat.le_of_ble_eq_true rfl) rfl (by decide) rfl rfl (fun vt lt ut ht => ?_)
  refine q_iload C dL_law_551 rfl ?_
  refine q_icmp_eq C 558 dL_law_553 (by decide) (by omega) (by omega) (fun ca => ?_) (fun ca => ?_)
  rotate_left
  · exfalso; omega
  refine q_iload C dL_law_558 rfl ?_
  refine q_ifne C 575 dL_law_560 (by decide) (by omega) (fun cb => ?_) (fun cb => ?_)
  · refine q_goto C 1982 dL_law_575 (by decide) ?_
    exact law_nx C hL hj ih (by omega) ⟨rfl, rfl, rfl, rfl, rfl, rfl, trivial⟩ A3
  · refine q_aload_n C 3 dL_law_563 rfl rfl ?_
    refine q_iconst C dL_law_564 ?_
    refine q_lald C (b := 36) (n := 1) (-9223372036854775808) 9223372036854775807 rfl (by decide) (by decide) (by omega) (fun _ => rfl) dL_law_565 (fun vo eo lo uo => ?_)
    refine q_iload C dL_law_566 rfl ?_
    refine q_i2l C dL_law_568 (by omega) ?_
    refine q_lcmpN C dL_law_569 (by omega) (by omega) (fun vc hc => ?_)
    have hz := A2 cb
    refine q_ifeq C 575 dL_law_570 (by decide) (by omega) (fun cc0 => ?_) (fun cc0 => ?_)
    rotate_left
    · exfalso; omega
    refine q_goto C 1982 dL_law_575 (by decide) ?_
    exact law_nx C hL hj ih (by omega) ⟨rfl, rfl, rfl, rfl, rfl, rfl, trivial⟩ A3
set_option maxRecDepth 20000 in
theorem law_c8 (C : qCx X ω RL cL_law 8 (some .boolean) T 20 10000) (S : qSc X ω b L xs) (hL : L ≤ 2048) (hj : 4 * j + 3 < L) (I : LI g) (ih : ∀ g', LI g' → qT X ω 8 (300 + 4 * (j + 1)) Q g' 28 (lwL ω b (4 * ((j + 1 : Nat) : Int))) []) : qT X ω 8 (300 + 4 * j) Q g 578 (lwL ω b (4 * (j : Int))) [] := by
  refine q_nm (fun hn => ?_)
  refine q_aload_n C 1 dL_law_578 rfl rfl ?_
  refine q_aload_n C 0 dL_law_579 rfl rfl ?_
  refine q_iload C dL_law_580 rfl ?_
  refine q_iconst C dL_law_582 ?_
  refine q_iadd C dL_law_583 ?_
  refine q_sld C S (a := (4 * (j : Int) + 1)) (by omega) (by omega) dL_law_584 ?_
  refine q_aload_n C 3 dL_law_585 rfl rfl ?_
  refine q_SHi C (KL_height g (sI xs (4 * (j : Int) + 1)) (sI_rng _ _) ) mL_height ml_L_149 dL_law_586 (by decide) (by omega) rfl rfl rfl (Nat.le_of_ble_eq_true rfl) (fun v g1 lv uv hv => ?_)
  refine q_nm (fun hn1 => ?_)
  have F := LF_height I hn hv
  refine q_istoreV C dL_law_589 (by decide) (fun v6 e6 => ?_)
  subst e6
  refine q_aload_n C 2 dL_law_591 rfl rfl ?_
  refine q_aload_n C 0 dL_law_592 rfl rfl ?_
  refine q_iload C dL_law_593 rfl ?_
  refine q_iconst C dL_law_595 ?_
  refine q_iadd C dL_law_596 ?_
  refine q_sld C S (a := (4 * (j : Int) + 1)) (by omega) (by omega) dL_law_597 ?_
  refine q_Vi0 C (KX6_height g1 (sI xs (4 * (j : Int) + 1)) (sI_rng _ _) ) mX6_height ml_L_151 dL_law_598 (by decide) (by omega) rfl rfl rfl (Nat.le_of_ble_eq_true rfl) rfl (by decide) rfl rfl (fun rb g2 lb ub hb => ?_)
  obtain ⟨A1, A2, A3⟩ := LC_height I hn hn1 hv hb
  refine q_istoreV C dL_law_601 (by decide) (fun v7 e7 => ?_)
  refine q_aload_n C 2 dL_law_603 rfl rfl ?_
  refine q_Vf0 C (KX6_thrown _) mX6_thrown ml_L_120 dL_law_604 (by decide) (by omega) rfl rfl rfl (Nat.le_of_ble_eq_true rfl) rfl (by decide) rfl rfl (fun vt lt ut ht => ?_)
  refine q_iload C dL_law_607 rfl ?_
  refine q_icmp_eq C 614 dL_law_609 (by decide) (by omega) (by omega) (fun ca => ?_) (fun ca => ?_)
  rotate_left
  · exfalso; omega
  refine q_iload C dL_law_614 rfl ?_
  refine q_ifne C 631 dL_law_616 (by decide) (by omega) (fun cb => ?_) (fun cb => ?_)
  · refine q_goto C 1982 dL_law_631 (by decide) ?_
    exact law_nx C hL hj ih (by omega) ⟨rfl, rfl, rfl, rfl, rfl, rfl, trivial⟩ A3
  · refine q_aload_n C 3 dL_law_619 rfl rfl ?_
    refine q_iconst C dL_law_620 ?_
    refine q_lald C (b := 36) (n := 1) (-9223372036854775808) 9223372036854775807 rfl (by decide) (by decide) (by omega) (fun _ => rfl) dL_law_621 (fun vo eo lo uo => ?_)
    refine q_iload C dL_law_622 rfl ?_
    refine q_i2l C dL_law_624 (by omega) ?_
    refine q_lcmpN C dL_law_625 (by omega) (by omega) (fun vc hc => ?_)
    have hz := A2 cb
    refine q_ifeq C 631 dL_law_626 (by decide) (by omega) (fun cc0 => ?_) (fun cc0 => ?_)
    rotate_left
    · exfalso; omega
    refine q_goto C 1982 dL_law_631 (by decide) ?_
    exact law_nx C hL hj ih (by omega) ⟨rfl, rfl, rfl, rfl, rfl, rfl, trivial⟩ A3
set_option maxRecDepth 20000 in
theorem law_c9 (C : qCx X ω RL cL_law 8 (some .boolean) T 20 10000) (S : qSc X ω b L xs) (hL : L ≤ 2048) (hj : 4 * j + 3 < L) (I : LI g) (ih : ∀ g', LI g' → qT X ω 8 (300 + 4 * (j + 1)) Q g' 28 (lwL ω b (4 * ((j + 1 : Nat) : Int))) []) : qT X ω 8 (300 + 4 * j) Q g 634 (lwL ω b (4 * (j : Int))) [] := by
  refine q_nm (fun hn => ?_)
  refine q_aload_n C 1 dL_law_634 rfl rfl ?_
  refine q_aload_n C 0 dL_law_635 rfl rfl ?_
  refine q_iload C dL_law_636 rfl ?_
  refine q_iconst C dL_law_638 ?_
  refine q_iadd C dL_law_639 ?_
  refine q_sld C S (a := (4 * (j : Int) + 1)) (by omega) (by omega) dL_law_640 ?_
  refine q_aload_n C 0 dL_law_641 rfl rfl ?_
  refine q_iload C dL_law_642 rfl ?_
  refine q_iconst C dL_law_644 ?_
  refine q_iadd C dL_law_645 ?_
  refine q_sld C S (a := (4 * (j : Int) + 2)) (by omega) (by omega) dL_law_646 ?_
  refine q_aload_n C 3 dL_law_647 rfl rfl ?_
  refine q_SHi C (KL_boxAt g (sI xs (4 * (j : Int) + 1)) (sI_rng _ _) (sI xs (4 * (j : Int) + 2)) (sI_rng _ _) ) mL_boxAt ml_L_152 dL_law_648 (by decide) (by omega) rfl rfl rfl (Nat.le_of_ble_eq_true rfl) (fun v g1 lv uv hv => ?_)
  refine q_nm (fun hn1 => ?_)
  have F := LF_boxAt I hn hv
  refine q_istoreV C dL_law_651 (by decide) (fun v6 e6 => ?_)
  subst e6
  refine q_aload_n C 2 dL_law_653 rfl rfl ?_
  refine q_aload_n C 0 dL_law_654 rfl rfl ?_
  refine q_iload C dL_law_655 rfl ?_
  refine q_iconst C dL_law_657 ?_
  refine q_iadd C dL_law_658 ?_
  refine q_sld C S (a := (4 * (j : Int) + 1)) (by omega) (by omega) dL_law_659 ?_
  refine q_aload_n C 0 dL_law_660 rfl rfl ?_
  refine q_iload C dL_law_661 rfl ?_
  refine q_iconst C dL_law_663 ?_
  refine q_iadd C dL_law_664 ?_
  refine q_sld C S (a := (4 * (j : Int) + 2)) (by omega) (by omega) dL_law_665 ?_
  refine q_Vi0 C (KX6_boxAt g1 (sI xs (4 * (j : Int) + 1)) (sI_rng _ _) (sI xs (4 * (j : Int) + 2)) (sI_rng _ _) ) mX6_boxAt ml_L_154 dL_law_666 (by decide) (by omega) rfl rfl rfl (Nat.le_of_ble_eq_true rfl) rfl (by decide) rfl rfl (fun rb g2 lb ub hb => ?_)
  obtain ⟨A1, A2, A3⟩ := LC_boxAt I hn hn1 hv hb
  refine q_istoreV C dL_law_669 (by decide) (fun v7 e7 => ?_)
  refine q_aload_n C 2 dL_law_671 rfl rfl ?_
  refine q_Vf0 C (KX6_thrown _) mX6_thrown ml_L_120 dL_law_672 (by decide) (by omega) rfl rfl rfl (Nat.le_of_ble_eq_true rfl) rfl (by decide) rfl rfl (fun vt lt ut ht => ?_)
  refine q_iload C dL_law_675 rfl ?_
  refine q_icmp_eq C 682 dL_law_677 (by decide) (by omega) (by omega) (fun ca => ?_) (fun ca => ?_)
  rotate_left
  · exfalso; omega
  refine q_iload C dL_law_682 rfl ?_
  refine q_ifne C 699 dL_law_684 (by decide) (by omega) (fun cb => ?_) (fun cb => ?_)
  · refine q_goto C 1982 dL_law_699 (by decide) ?_
    exact law_nx C hL hj ih (by omega) ⟨rfl, rfl, rfl, rfl, rfl, rfl, trivial⟩ A3
  · refine q_aload_n C 3 dL_law_687 rfl rfl ?_
    refine q_iconst C dL_law_688 ?_
    refine q_lald C (b := 36) (n := 1) (-9223372036854775808) 9223372036854775807 rfl (by decide) (by decide) (by omega) (fun _ => rfl) dL_law_689 (fun vo eo lo uo => ?_)
    refine q_iload C dL_law_690 rfl ?_
    refine q_i2l C dL_law_692 (by omega) ?_
    refine q_lcmpN C dL_law_693 (by omega) (by omega) (fun vc hc => ?_)
    have hz := A2 cb
    refine q_ifeq C 699 dL_law_694 (by decide) (by omega) (fun cc0 => ?_) (fun cc0 => ?_)
    rotate_left
    · exfalso; omega
    refine q_goto C 1982 dL_law_699 (by decide) ?_
    exact law_nx C hL hj ih (by omega) ⟨rfl, rfl, rfl, rfl, rfl, rfl, trivial⟩ A3
set_option maxRecDepth 20000 in
theorem law_c10 (C : qCx X ω RL cL_law 8 (some .boolean) T 20 10000) (S : qSc X ω b L xs) (hL : L ≤ 2048) (hj : 4 * j + 3 < L) (I : LI g) (ih : ∀ g', LI g' → qT X ω 8 (300 + 4 * (j + 1)) Q g' 28 (lwL ω b (4 * ((j + 1 : Nat) : Int))) []) : qT X ω 8 (300 + 4 * j) Q g 702 (lwL ω b (4 * (j : Int))) [] := by
  refine q_nm (fun hn => ?_)
  refine q_aload_n C 1 dL_law_702 rfl rfl ?_
  refine q_aload_n C 0 dL_law_703 rfl rfl ?_
  refine q_iload C dL_law_704 rfl ?_
  refine q_iconst C dL_law_706 ?_
  refine q_iadd C dL_law_707 ?_
  refine q_sld C S (a := (4 * (j : Int) + 1)) (by omega) (by omega) dL_law_708 ?_
  refine q_aload_n C 0 dL_law_709 rfl rfl ?_
  refine q_iload C dL_law_710 rfl ?_
  refine q_iconst C dL_law_712 ?_
  refine q_iadd C dL_law_713 ?_
  refine q_sld C S (a := (4 * (j : Int) + 2)) (by omega) (by omega) dL_law_714 ?_
  refine q_i2c C dL_law_715 _ (chI_v _) ?_
  refine q_aload_n C 0 dL_law_716 rfl rfl ?_
  refine q_iload C dL_law_717 rfl ?_
  refine q_iconst C dL_law_719 ?_
  refine q_iadd C dL_law_720 ?_
  refine q_sld C S (a := (4 * (j : Int) + 3)) (by omega) (by omega) dL_law_721 ?_
  refine q_aload_n C 3 dL_law_722 rfl rfl ?_
  refine q_SHi C (KL_hold g (sI xs (4 * (j : Int) + 1)) (sI_rng _ _) (chI (sI xs (4 * (j : Int) + 2))) (chI_in _) (sI xs (4 * (j : Int) + 3)) (sI_rng _ _) (chI_rng _) (fun q => in_co I.1 (LI_cm I) q)) mL_hold ml_L_155 dL_law_723 (by decide) (by omega) rfl rfl rfl (Nat.le_of_ble_eq_true rfl) (fun v g1 lv uv hv => ?_)
  refine q_nm (fun hn1 => ?_)
  have F := LF_hold I hn hv
  refine q_istoreV C dL_law_726 (by decide) (fun v6 e6 => ?_)
  subst e6
  refine q_aload_n C 2 dL_law_728 rfl rfl ?_
  refine q_aload_n C 0 dL_law_729 rfl rfl ?_
  refine q_iload C dL_law_730 rfl ?_
  refine q_iconst C dL_law_732 ?_
  refine q_iadd C dL_law_733 ?_
  refine q_sld C S (a := (4 * (j : Int) + 1)) (by omega) (by omega) dL_law_734 ?_
  refine q_aload_n C 0 dL_law_735 rfl rfl ?_
  refine q_iload C dL_law_736 rfl ?_
  refine q_iconst C dL_law_738 ?_
  refine q_iadd C dL_law_739 ?_
  refine q_sld C S (a := (4 * (j : Int) + 2)) (by omega) (by omega) dL_law_740 ?_
  refine q_i2c C dL_law_741 _ (chI_v _) ?_
  refine q_aload_n C 0 dL_law_742 rfl rfl ?_
  refine q_iload C dL_law_743 rfl ?_
  refine q_iconst C dL_law_745 ?_
  refine q_iadd C dL_law_746 ?_
  refine q_sld C S (a := (4 * (j : Int) + 3)) (by omega) (by omega) dL_law_747 ?_
  refine q_Vi0 C (KX6_hold g1 (sI xs (4 * (j : Int) + 1)) (sI_rng _ _) (chI (sI xs (4 * (j : Int) + 2))) (chI_in _) (sI xs (4 * (j : Int) + 3)) (sI_rng _ _) (chI_rng _)) mX6_hold ml_L_158 dL_law_748 (by decide) (by omega) rfl rfl rfl (Nat.le_of_ble_eq_true rfl) rfl (by decide) rfl rfl (fun rb g2 lb ub hb => ?_)
  obtain ⟨A1, A2, A3⟩ := LC_hold I hn hn1 hv hb
  refine q_istoreV C dL_law_751 (by decide) (fun v7 e7 => ?_)
  refine q_aload_n C 2 dL_law_753 rfl rfl ?_
  refine q_Vf0 C (KX6_thrown _) mX6_thrown ml_L_120 dL_law_754 (by decide) (by omega) rfl rfl rfl (Nat.le_of_ble_eq_true rfl) rfl (by decide) rfl rfl (fun vt lt ut ht => ?_)
  refine q_iload C dL_law_757 rfl ?_
  refine q_icmp_eq C 764 dL_law_759 (by decide) (by omega) (by omega) (fun ca => ?_) (fun ca => ?_)
  rotate_left
  · exfalso; omega
  refine q_iload C dL_law_764 rfl ?_
  refine q_ifne C 781 dL_law_766 (by decide) (by omega) (fun cb => ?_) (fun cb => ?_)
  · refine q_goto C 1982 dL_law_781 (by decide) ?_
    exact law_nx C hL hj ih (by omega) ⟨rfl, rfl, rfl, rfl, rfl, rfl, trivial⟩ A3
  · refine q_aload_n C 3 dL_law_769 rfl rfl ?_
    refine q_iconst C dL_law_770 ?_
    refine q_lald C (b := 36) (n := 1) (-9223372036854775808) 9223372036854775807 rfl (by decide) (by decide) (by omega) (fun _ => rfl) dL_law_771 (fun vo eo lo uo => ?_)
    refine q_iload C dL_law_772 rfl ?_
    refine q_i2l C dL_law_774 (by omega) ?_
    refine q_lcmpN C dL_law_775 (by omega) (by omega) (fun vc hc => ?_)
    have hz := A2 cb
    refine q_ifeq C 781 dL_law_776 (by decide) (by omega) (fun cc0 => ?_) (fun cc0 => ?_)
    rotate_left
    · exfalso; omega
    refine q_goto C 1982 dL_law_781 (by decide) ?_
    exact law_nx C hL hj ih (by omega) ⟨rfl, rfl, rfl, rfl, rfl, rfl, trivial⟩ A3
set_option maxRecDepth 20000 in
theorem law_c11 (C : qCx X ω RL cL_law 8 (some .boolean) T 20 10000) (S : qSc X ω b L xs) (hL : L ≤ 2048) (hj : 4 * j + 3 < L) (I : LI g) (ih : ∀ g', LI g' → qT X ω 8 (300 + 4 * (j + 1)) Q g' 28 (lwL ω b (4 * ((j + 1 : Nat) : Int))) []) : qT X ω 8 (300 + 4 * j) Q g 784 (lwL ω b (4 * (j : Int))) [] := by
  refine q_nm (fun hn => ?_)
  refine q_aload_n C 1 dL_law_784 rfl rfl ?_
  refine q_aload_n C 0 dL_law_785 rfl rfl ?_
  refine q_iload C dL_law_786 rfl ?_
  refine q_iconst C dL_law_788 ?_
  refine q_iadd C dL_law_789 ?_
  refine q_sld C S (a := (4 * (j : Int) + 1)) (by omega) (by omega) dL_law_790 ?_
  refine q_aload_n C 3 dL_law_791 rfl rfl ?_
  refine q_SHi C (KL_release g (sI xs (4 * (j : Int) + 1)) (sI_rng _ _) (fun q => in_co I.1 (LI_cm I) q)) mL_release ml_L_159 dL_law_792 (by decide) (by omega) rfl rfl rfl (Nat.le_of_ble_eq_true rfl) (fun v g1 lv uv hv => ?_)
  refine q_nm (fun hn1 => ?_)
  have F := LF_release I hn hv
  refine q_istoreV C dL_law_795 (by decide) (fun v6 e6 => ?_)
  subst e6
  refine q_aload_n C 2 dL_law_797 rfl rfl ?_
  refine q_aload_n C 0 dL_law_798 rfl rfl ?_
  refine q_iload C dL_law_799 rfl ?_
  refine q_iconst C dL_law_801 ?_
  refine q_iadd C dL_law_802 ?_
  refine q_sld C S (a := (4 * (j : Int) + 1)) (by omega) (by omega) dL_law_803 ?_
  refine q_Vi0 C (KX6_release g1 (sI xs (4 * (j : Int) + 1)) (sI_rng _ _) ) mX6_release ml_L_161 dL_law_804 (by decide) (by omega) rfl rfl rfl (Nat.le_of_ble_eq_true rfl) rfl (by decide) rfl rfl (fun rb g2 lb ub hb => ?_)
  obtain ⟨A1, A2, A3⟩ := LC_release I hn hn1 hv hb
  refine q_istoreV C dL_law_807 (by decide) (fun v7 e7 => ?_)
  refine q_aload_n C 2 dL_law_809 rfl rfl ?_
  refine q_Vf0 C (KX6_thrown _) mX6_thrown ml_L_120 dL_law_810 (by decide) (by omega) rfl rfl rfl (Nat.le_of_ble_eq_true rfl) rfl (by decide) rfl rfl (fun vt lt ut ht => ?_)
  refine q_iload C dL_law_813 rfl ?_
  refine q_icmp_eq C 820 dL_law_815 (by decide) (by omega) (by omega) (fun ca => ?_) (fun ca => ?_)
  rotate_left
  · exfalso; omega
  refine q_iload C dL_law_820 rfl ?_
  refine q_ifne C 837 dL_law_822 (by decide) (by omega) (fun cb => ?_) (fun cb => ?_)
  · refine q_goto C 1982 dL_law_837 (by decide) ?_
    exact law_nx C hL hj ih (by omega) ⟨rfl, rfl, rfl, rfl, rfl, rfl, trivial⟩ A3
  · refine q_aload_n C 3 dL_law_825 rfl rfl ?_
    refine q_iconst C dL_law_826 ?_
    refine q_lald C (b := 36) (n := 1) (-9223372036854775808) 9223372036854775807 rfl (by decide) (by decide) (by omega) (fun _ => rfl) dL_law_827 (fun vo eo lo uo => ?_)
    refine q_iload C dL_law_828 rfl ?_
    refine q_i2l C dL_law_830 (by omega) ?_
    refine q_lcmpN C dL_law_831 (by omega) (by omega) (fun vc hc => ?_)
    have hz := A2 cb
    refine q_ifeq C 837 dL_law_832 (by decide) (by omega) (fun cc0 => ?_) (fun cc0 => ?_)
    rotate_left
    · exfalso; omega
    refine q_goto C 1982 dL_law_837 (by decide) ?_
    exact law_nx C hL hj ih (by omega) ⟨rfl, rfl, rfl, rfl, rfl, rfl, trivial⟩ A3
set_option maxRecDepth 20000 in
theorem law_c12 (C : qCx X ω RL cL_law 8 (some .boolean) T 20 10000) (S : qSc X ω b L xs) (hL : L ≤ 2048) (hj : 4 * j + 3 < L) (I : LI g) (ih : ∀ g', LI g' → qT X ω 8 (300 + 4 * (j + 1)) Q g' 28 (lwL ω b (4 * ((j + 1 : Nat) : Int))) []) : qT X ω 8 (300 + 4 * j) Q g 840 (lwL ω b (4 * (j : Int))) [] := by
  refine q_nm (fun hn => ?_)
  refine q_aload_n C 1 dL_law_840 rfl rfl ?_
  refine q_aload_n C 0 dL_law_841 rfl rfl ?_
  refine q_iload C dL_law_842 rfl ?_
  refine q_iconst C dL_law_844 ?_
  refine q_iadd C dL_law_845 ?_
  refine q_sld C S (a := (4 * (j : Int) + 1)) (by omega) (by omega) dL_law_846 ?_
  refine q_aload_n C 3 dL_law_847 rfl rfl ?_
  refine q_SHi C (KL_holdOf g (sI xs (4 * (j : Int) + 1)) (sI_rng _ _) ) mL_holdOf ml_L_162 dL_law_848 (by decide) (by omega) rfl rfl rfl (Nat.le_of_ble_eq_true rfl) (fun v g1 lv uv hv => ?_)
  refine q_nm (fun hn1 => ?_)
  have F := LF_holdOf I hn hv
  refine q_istoreV C dL_law_851 (by decide) (fun v6 e6 => ?_)
  subst e6
  refine q_aload_n C 2 dL_law_853 rfl rfl ?_
  refine q_aload_n C 0 dL_law_854 rfl rfl ?_
  refine q_iload C dL_law_855 rfl ?_
  refine q_iconst C dL_law_857 ?_
  refine q_iadd C dL_law_858 ?_
  refine q_sld C S (a := (4 * (j : Int) + 1)) (by omega) (by omega) dL_law_859 ?_
  refine q_Vi0 C (KX6_holdOf g1 (sI xs (4 * (j : Int) + 1)) (sI_rng _ _) ) mX6_holdOf ml_L_164 dL_law_860 (by decide) (by omega) rfl rfl rfl (Nat.le_of_ble_eq_true rfl) rfl (by decide) rfl rfl (fun rb g2 lb ub hb => ?_)
  obtain ⟨A1, A2, A3⟩ := LC_holdOf I hn hn1 hv hb
  refine q_istoreV C dL_law_863 (by decide) (fun v7 e7 => ?_)
  refine q_aload_n C 2 dL_law_865 rfl rfl ?_
  refine q_Vf0 C (KX6_thrown _) mX6_thrown ml_L_120 dL_law_866 (by decide) (by omega) rfl rfl rfl (Nat.le_of_ble_eq_true rfl) rfl (by decide) rfl rfl (fun vt lt ut ht => ?_)
  refine q_iload C dL_law_869 rfl ?_
  refine q_icmp_eq C 876 dL_law_871 (by decide) (by omega) (by omega) (fun ca => ?_) (fun ca => ?_)
  rotate_left
  · exfalso; omega
  refine q_iload C dL_law_876 rfl ?_
  refine q_ifne C 893 dL_law_878 (by decide) (by omega) (fun cb => ?_) (fun cb => ?_)
  · refine q_goto C 1982 dL_law_893 (by decide) ?_
    exact law_nx C hL hj ih (by omega) ⟨rfl, rfl, rfl, rfl, rfl, rfl, trivial⟩ A3
  · refine q_aload_n C 3 dL_law_881 rfl rfl ?_
    refine q_iconst C dL_law_882 ?_
    refine q_lald C (b := 36) (n := 1) (-9223372036854775808) 9223372036854775807 rfl (by decide) (by decide) (by omega) (fun _ => rfl) dL_law_883 (fun vo eo lo uo => ?_)
    refine q_iload C dL_law_884 rfl ?_
    refine q_i2l C dL_law_886 (by omega) ?_
    refine q_lcmpN C dL_law_887 (by omega) (by omega) (fun vc hc => ?_)
    have hz := A2 cb
    refine q_ifeq C 893 dL_law_888 (by decide) (by omega) (fun cc0 => ?_) (fun cc0 => ?_)
    rotate_left
    · exfalso; omega
    refine q_goto C 1982 dL_law_893 (by decide) ?_
    exact law_nx C hL hj ih (by omega) ⟨rfl, rfl, rfl, rfl, rfl, rfl, trivial⟩ A3
set_option maxRecDepth 20000 in
theorem law_c13 (C : qCx X ω RL cL_law 8 (some .boolean) T 20 10000) (S : qSc X ω b L xs) (hL : L ≤ 2048) (hj : 4 * j + 3 < L) (I : LI g) (ih : ∀ g', LI g' → qT X ω 8 (300 + 4 * (j + 1)) Q g' 28 (lwL ω b (4 * ((j + 1 : Nat) : Int))) []) : qT X ω 8 (300 + 4 * j) Q g 896 (lwL ω b (4 * (j : Int))) [] := by
  refine q_nm (fun hn => ?_)
  refine q_aload_n C 1 dL_law_896 rfl rfl ?_
  refine q_aload_n C 0 dL_law_897 rfl rfl ?_
  refine q_iload C dL_law_898 rfl ?_
  refine q_iconst C dL_law_900 ?_
  refine q_iadd C dL_law_901 ?_
  refine q_sld C S (a := (4 * (j : Int) + 1)) (by omega) (by omega) dL_law_902 ?_
  refine q_aload_n C 3 dL_law_903 rfl rfl ?_
  refine q_SHi C (KL_heldUntil g (sI xs (4 * (j : Int) + 1)) (sI_rng _ _) ) mL_heldUntil ml_L_165 dL_law_904 (by decide) (by omega) rfl rfl rfl (Nat.le_of_ble_eq_true rfl) (fun v g1 lv uv hv => ?_)
  refine q_nm (fun hn1 => ?_)
  have F := LF_heldUntil I hn hv
  refine q_istoreV C dL_law_907 (by decide) (fun v6 e6 => ?_)
  subst e6
  refine q_aload_n C 2 dL_law_909 rfl rfl ?_
  refine q_aload_n C 0 dL_law_910 rfl rfl ?_
  refine q_iload C dL_law_911 rfl ?_
  refine q_iconst C dL_law_913 ?_
  refine q_iadd C dL_law_914 ?_
  refine q_sld C S (a := (4 * (j : Int) + 1)) (by omega) (by omega) dL_law_915 ?_
  refine q_Vi0 C (KX6_heldUntil g1 (sI xs (4 * (j : Int) + 1)) (sI_rng _ _) ) mX6_heldUntil ml_L_167 dL_law_916 (by decide) (by omega) rfl rfl rfl (Nat.le_of_ble_eq_true rfl) rfl (by decide) rfl rfl (fun rb g2 lb ub hb => ?_)
  obtain ⟨A1, A2, A3⟩ := LC_heldUntil I hn hn1 hv hb
  refine q_istoreV C dL_law_919 (by decide) (fun v7 e7 => ?_)
  refine q_aload_n C 2 dL_law_921 rfl rfl ?_
  refine q_Vf0 C (KX6_thrown _) mX6_thrown ml_L_120 dL_law_922 (by decide) (by omega) rfl rfl rfl (Nat.le_of_ble_eq_true rfl) rfl (by decide) rfl rfl (fun vt lt ut ht => ?_)
  refine q_iload C dL_law_925 rfl ?_
  refine q_icmp_eq C 932 dL_law_927 (by decide) (by omega) (by omega) (fun ca => ?_) (fun ca => ?_)
  rotate_left
  · exfalso; omega
  refine q_iload C dL_law_932 rfl ?_
  refine q_ifne C 949 dL_law_934 (by decide) (by omega) (fun cb => ?_) (fun cb => ?_)
  · refine q_goto C 1982 dL_law_949 (by decide) ?_
    exact law_nx C hL hj ih (by omega) ⟨rfl, rfl, rfl, rfl, rfl, rfl, trivial⟩ A3
  · refine q_aload_n C 3 dL_law_937 rfl rfl ?_
    refine q_iconst C dL_law_938 ?_
    refine q_lald C (b := 36) (n := 1) (-9223372036854775808) 9223372036854775807 rfl (by decide) (by decide) (by omega) (fun _ => rfl) dL_law_939 (fun vo eo lo uo => ?_)
    refine q_iload C dL_law_940 rfl ?_
    refine q_i2l C dL_law_942 (by omega) ?_
    refine q_lcmpN C dL_law_943 (by omega) (by omega) (fun vc hc => ?_)
    have hz := A2 cb
    refine q_ifeq C 949 dL_law_944 (by decide) (by omega) (fun cc0 => ?_) (fun cc0 => ?_)
    rotate_left
    · exfalso; omega
    refine q_goto C 1982 dL_law_949 (by decide) ?_
    exact law_nx C hL hj ih (by omega) ⟨rfl, rfl, rfl, rfl, rfl, rfl, trivial⟩ A3
set_option maxRecDepth 20000 in
theorem law_c14 (C : qCx X ω RL cL_law 8 (some .boolean) T 20 10000) (S : qSc X ω b L xs) (hL : L ≤ 2048) (hj : 4 * j + 3 < L) (I : LI g) (ih : ∀ g', LI g' → qT X ω 8 (300 + 4 * (j + 1)) Q g' 28 (lwL ω b (4 * ((j + 1 : Nat) : Int))) []) : qT X ω 8 (300 + 4 * j) Q g 952 (lwL ω b (4 * (j : Int))) [] := by
  refine q_nm (fun hn => ?_)
  refine q_aload_n C 1 dL_law_952 rfl rfl ?_
  refine q_aload_n C 0 dL_law_953 rfl rfl ?_
  refine q_iload C dL_law_954 rfl ?_
  refine q_iconst C dL_law_956 ?_
  refine q_iadd C dL_law_957 ?_
  refine q_sld C S (a := (4 * (j : Int) + 1)) (by omega) (by omega) dL_law_958 ?_
  refine q_aload_n C 3 dL_law_959 rfl rfl ?_
  refine q_SHi C (KL_pinnedAbove g (sI xs (4 * (j : Int) + 1)) (sI_rng _ _) ) mL_pinnedAbove ml_L_168 dL_law_960 (by decide) (by omega) rfl rfl rfl (Nat.le_of_ble_eq_true rfl) (fun v g1 lv uv hv => ?_)
  refine q_nm (fun hn1 => ?_)
  have F := LF_pinnedAbove I hn hv
  refine q_istoreV C dL_law_963 (by decide) (fun v6 e6 => ?_)
  subst e6
  refine q_aload_n C 2 dL_law_965 rfl rfl ?_
  refine q_aload_n C 0 dL_law_966 rfl rfl ?_
  refine q_iload C dL_law_967 rfl ?_
  refine q_iconst C dL_law_969 ?_
  refine q_iadd C dL_law_970 ?_
  refine q_sld C S (a := (4 * (j : Int) + 1)) (by omega) (by omega) dL_law_971 ?_
  refine q_Vi0 C (KX6_pinnedAbove g1 (sI xs (4 * (j : Int) + 1)) (sI_rng _ _) F.1 F.2.1) mX6_pinnedAbove ml_L_170 dL_law_972 (by decide) (by omega) rfl rfl rfl (Nat.le_of_ble_eq_true rfl) rfl (by decide) rfl rfl (fun rb g2 lb ub hb => ?_)
  obtain ⟨A1, A2, A3⟩ := LC_pinnedAbove I hn hn1 hv hb
  refine q_istoreV C dL_law_975 (by decide) (fun v7 e7 => ?_)
  refine q_aload_n C 2 dL_law_977 rfl rfl ?_
  refine q_Vf0 C (KX6_thrown _) mX6_thrown ml_L_120 dL_law_978 (by decide) (by omega) rfl rfl rfl (Nat.le_of_ble_eq_true rfl) rfl (by decide) rfl rfl (fun vt lt ut ht => ?_)
  refine q_iload C dL_law_981 rfl ?_
  refine q_icmp_eq C 988 dL_law_983 (by decide) (by omega) (by omega) (fun ca => ?_) (fun ca => ?_)
  rotate_left
  · exfalso; omega
  refine q_iload C dL_law_988 rfl ?_
  refine q_ifne C 1005 dL_law_990 (by decide) (by omega) (fun cb => ?_) (fun cb => ?_)
  · refine q_goto C 1982 dL_law_1005 (by decide) ?_
    exact law_nx C hL hj ih (by omega) ⟨rfl, rfl, rfl, rfl, rfl, rfl, trivial⟩ A3
  · refine q_aload_n C 3 dL_law_993 rfl rfl ?_
    refine q_iconst C dL_law_994 ?_
    refine q_lald C (b := 36) (n := 1) (-9223372036854775808) 9223372036854775807 rfl (by decide) (by decide) (by omega) (fun _ => rfl) dL_law_995 (fun vo eo lo uo => ?_)
    refine q_iload C dL_law_996 rfl ?_
    refine q_i2l C dL_law_998 (by omega) ?_
    refine q_lcmpN C dL_law_999 (by omega) (by omega) (fun vc hc => ?_)
    have hz := A2 cb
    refine q_ifeq C 1005 dL_law_1000 (by decide) (by omega) (fun cc0 => ?_) (fun cc0 => ?_)
    rotate_left
    · exfalso; omega
    refine q_goto C 1982 dL_law_1005 (by decide) ?_
    exact law_nx C hL hj ih (by omega) ⟨rfl, rfl, rfl, rfl, rfl, rfl, trivial⟩ A3
set_option maxRecDepth 20000 in
theorem law_c15 (C : qCx X ω RL cL_law 8 (some .boolean) T 20 10000) (S : qSc X ω b L xs) (hL : L ≤ 2048) (hj : 4 * j + 3 < L) (I : LI g) (ih : ∀ g', LI g' → qT X ω 8 (300 + 4 * (j + 1)) Q g' 28 (lwL ω b (4 * ((j + 1 : Nat) : Int))) []) : qT X ω 8 (300 + 4 * j) Q g 1008 (lwL ω b (4 * (j : Int))) [] := by
  refine q_nm (fun hn => ?_)
  refine q_aload_n C 1 dL_law_1008 rfl rfl ?_
  refine q_aload_n C 0 dL_law_1009 rfl rfl ?_
  refine q_iload C dL_law_1010 rfl ?_
  refine q_iconst C dL_law_1012 ?_
  refine q_iadd C dL_law_1013 ?_
  refine q_sld C S (a := (4 * (j : Int) + 1)) (by omega) (by omega) dL_law_1014 ?_
  refine q_aload_n C 0 dL_law_1015 rfl rfl ?_
  refine q_iload C dL_law_1016 rfl ?_
  refine q_iconst C dL_law_1018 ?_
  refine q_iadd C dL_law_1019 ?_
  refine q_sld C S (a := (4 * (j : Int) + 2)) (by omega) (by omega) dL_law_1020 ?_
  refine q_aload_n C 3 dL_law_1021 rfl rfl ?_
  refine q_SHi C (KL_why g (sI xs (4 * (j : Int) + 1)) (sI_rng _ _) (sI xs (4 * (j : Int) + 2)) (sI_rng _ _) ) mL_why ml_L_171 dL_law_1022 (by decide) (by omega) rfl rfl rfl (Nat.le_of_ble_eq_true rfl) (fun v g1 lv uv hv => ?_)
  refine q_nm (fun hn1 => ?_)
  have F := LF_why I hn hv
  refine q_istoreV C dL_law_1025 (by decide) (fun v6 e6 => ?_)
  subst e6
  refine q_aload_n C 2 dL_law_1027 rfl rfl ?_
  refine q_aload_n C 0 dL_law_1028 rfl rfl ?_
  refine q_iload C dL_law_1029 rfl ?_
  refine q_iconst C dL_law_1031 ?_
  refine q_iadd C dL_law_1032 ?_
  refine q_sld C S (a := (4 * (j : Int) + 1)) (by omega) (by omega) dL_law_1033 ?_
  refine q_aload_n C 0 dL_law_1034 rfl rfl ?_
  refine q_iload C dL_law_1035 rfl ?_
  refine q_iconst C dL_law_1037 ?_
  refine q_iadd C dL_law_1038 ?_
  refine q_sld C S (a := (4 * (j : Int) + 2)) (by omega) (by omega) dL_law_1039 ?_
  refine q_Vi0 C (KX6_why g1 (sI xs (4 * (j : Int) + 1)) (sI_rng _ _) (sI xs (4 * (j : Int) + 2)) (sI_rng _ _) F.1 F.2.1) mX6_why ml_L_173 dL_law_1040 (by decide) (by omega) rfl rfl rfl (Nat.le_of_ble_eq_true rfl) rfl (by decide) rfl rfl (fun rb g2 lb ub hb => ?_)
  obtain ⟨A1, A2, A3⟩ := LC_why I hn hn1 hv hb
  refine q_istoreV C dL_law_1043 (by decide) (fun v7 e7 => ?_)
  refine q_aload_n C 2 dL_law_1045 rfl rfl ?_
  refine q_Vf0 C (KX6_thrown _) mX6_thrown ml_L_120 dL_law_1046 (by decide) (by omega) rfl rfl rfl (Nat.le_of_ble_eq_true rfl) rfl (by decide) rfl rfl (fun vt lt ut ht => ?_)
  refine q_iload C dL_law_1049 rfl ?_
  refine q_icmp_eq C 1056 dL_law_1051 (by decide) (by omega) (by omega) (fun ca => ?_) (fun ca => ?_)
  rotate_left
  · exfalso; omega
  refine q_iload C dL_law_1056 rfl ?_
  refine q_ifne C 1073 dL_law_1058 (by decide) (by omega) (fun cb => ?_) (fun cb => ?_)
  · refine q_goto C 1982 dL_law_1073 (by decide) ?_
    exact law_nx C hL hj ih (by omega) ⟨rfl, rfl, rfl, rfl, rfl, rfl, trivial⟩ A3
  · refine q_aload_n C 3 dL_law_1061 rfl rfl ?_
    refine q_iconst C dL_law_1062 ?_
    refine q_lald C (b := 36) (n := 1) (-9223372036854775808) 9223372036854775807 rfl (by decide) (by decide) (by omega) (fun _ => rfl) dL_law_1063 (fun vo eo lo uo => ?_)
    refine q_iload C dL_law_1064 rfl ?_
    refine q_i2l C dL_law_1066 (by omega) ?_
    refine q_lcmpN C dL_law_1067 (by omega) (by omega) (fun vc hc => ?_)
    have hz := A2 cb
    refine q_ifeq C 1073 dL_law_1068 (by decide) (by omega) (fun cc0 => ?_) (fun cc0 => ?_)
    rotate_left
    · exfalso; omega
    refine q_goto C 1982 dL_law_1073 (by decide) ?_
    exact law_nx C hL hj ih (by omega) ⟨rfl, rfl, rfl, rfl, rfl, rfl, trivial⟩ A3
set_option maxRecDepth 20000 in
theorem law_c16 (C : qCx X ω RL cL_law 8 (some .boolean) T 20 10000) (S : qSc X ω b L xs) (hL : L ≤ 2048) (hj : 4 * j + 3 < L) (I : LI g) (ih : ∀ g', LI g' → qT X ω 8 (300 + 4 * (j + 1)) Q g' 28 (lwL ω b (4 * ((j + 1 : Nat) : Int))) []) : qT X ω 8 (300 + 4 * j) Q g 1076 (lwL ω b (4 * (j : Int))) [] := by
  refine q_nm (fun hn => ?_)
  refine q_aload_n C 1 dL_law_1076 rfl rfl ?_
  refine q_aload_n C 0 dL_law_1077 rfl rfl ?_
  refine q_iload C dL_law_1078 rfl ?_
  refine q_iconst C dL_law_1080 ?_
  refine q_iadd C dL_law_1081 ?_
  refine q_sld C S (a := (4 * (j : Int) + 1)) (by omega) (by omega) dL_law_1082 ?_
  refine q_aload_n C 0 dL_law_1083 rfl rfl ?_
  refine q_iload C dL_law_1084 rfl ?_
  refine q_iconst C dL_law_1086 ?_
  refine q_iadd C dL_law_1087 ?_
  refine q_sld C S (a := (4 * (j : Int) + 2)) (by omega) (by omega) dL_law_1088 ?_
  refine q_aload_n C 3 dL_law_1089 rfl rfl ?_
  refine q_SHi C (KL_move g (sI xs (4 * (j : Int) + 1)) (sI_rng _ _) (sI xs (4 * (j : Int) + 2)) (sI_rng _ _) I.1.1) mL_move ml_L_174 dL_law_1090 (by decide) (by omega) rfl rfl rfl (Nat.le_of_ble_eq_true rfl) (fun v g1 lv uv hv => ?_)
  refine q_nm (fun hn1 => ?_)
  have F := LF_move I hn hv
  refine q_istoreV C dL_law_1093 (by decide) (fun v6 e6 => ?_)
  subst e6
  refine q_aload_n C 2 dL_law_1095 rfl rfl ?_
  refine q_aload_n C 0 dL_law_1096 rfl rfl ?_
  refine q_iload C dL_law_1097 rfl ?_
  refine q_iconst C dL_law_1099 ?_
  refine q_iadd C dL_law_1100 ?_
  refine q_sld C S (a := (4 * (j : Int) + 1)) (by omega) (by omega) dL_law_1101 ?_
  refine q_aload_n C 0 dL_law_1102 rfl rfl ?_
  refine q_iload C dL_law_1103 rfl ?_
  refine q_iconst C dL_law_1105 ?_
  refine q_iadd C dL_law_1106 ?_
  refine q_sld C S (a := (4 * (j : Int) + 2)) (by omega) (by omega) dL_law_1107 ?_
  refine q_Vi0 C (KX6_move g1 (sI xs (4 * (j : Int) + 1)) (sI_rng _ _) (sI xs (4 * (j : Int) + 2)) (sI_rng _ _) F.1 F.2.1) mX6_move ml_L_176 dL_law_1108 (by decide) (by omega) rfl rfl rfl (Nat.le_of_ble_eq_true rfl) rfl (by decide) rfl rfl (fun rb g2 lb ub hb => ?_)
  obtain ⟨A1, A2, A3⟩ := LC_move I hn hn1 hv hb
  refine q_istoreV C dL_law_1111 (by decide) (fun v7 e7 => ?_)
  refine q_aload_n C 2 dL_law_1113 rfl rfl ?_
  refine q_Vf0 C (KX6_thrown _) mX6_thrown ml_L_120 dL_law_1114 (by decide) (by omega) rfl rfl rfl (Nat.le_of_ble_eq_true rfl) rfl (by decide) rfl rfl (fun vt lt ut ht => ?_)
  refine q_iload C dL_law_1117 rfl ?_
  refine q_icmp_eq C 1124 dL_law_1119 (by decide) (by omega) (by omega) (fun ca => ?_) (fun ca => ?_)
  rotate_left
  · exfalso; omega
  refine q_iload C dL_law_1124 rfl ?_
  refine q_ifne C 1141 dL_law_1126 (by decide) (by omega) (fun cb => ?_) (fun cb => ?_)
  · refine q_goto C 1982 dL_law_1141 (by decide) ?_
    exact law_nx C hL hj ih (by omega) ⟨rfl, rfl, rfl, rfl, rfl, rfl, trivial⟩ A3
  · refine q_aload_n C 3 dL_law_1129 rfl rfl ?_
    refine q_iconst C dL_law_1130 ?_
    refine q_lald C (b := 36) (n := 1) (-9223372036854775808) 9223372036854775807 rfl (by decide) (by decide) (by omega) (fun _ => rfl) dL_law_1131 (fun vo eo lo uo => ?_)
    refine q_iload C dL_law_1132 rfl ?_
    refine q_i2l C dL_law_1134 (by omega) ?_
    refine q_lcmpN C dL_law_1135 (by omega) (by omega) (fun vc hc => ?_)
    have hz := A2 cb
    refine q_ifeq C 1141 dL_law_1136 (by decide) (by omega) (fun cc0 => ?_) (fun cc0 => ?_)
    rotate_left
    · exfalso; omega
    refine q_goto C 1982 dL_law_1141 (by decide) ?_
    exact law_nx C hL hj ih (by omega) ⟨rfl, rfl, rfl, rfl, rfl, rfl, trivial⟩ A3
set_option maxRecDepth 20000 in
theorem law_c17 (C : qCx X ω RL cL_law 8 (some .boolean) T 20 10000) (S : qSc X ω b L xs) (hL : L ≤ 2048) (hj : 4 * j + 3 < L) (I : LI g) (ih : ∀ g', LI g' → qT X ω 8 (300 + 4 * (j + 1)) Q g' 28 (lwL ω b (4 * ((j + 1 : Nat) : Int))) []) : qT X ω 8 (300 + 4 * j) Q g 1144 (lwL ω b (4 * (j : Int))) [] := by
  refine q_nm (fun hn => ?_)
  refine q_aload_n C 1 dL_law_1144 rfl rfl ?_
  refine q_aload_n C 0 dL_law_1145 rfl rfl ?_
  refine q_iload C dL_law_1146 rfl ?_
  refine q_iconst C dL_law_1148 ?_
  refine q_iadd C dL_law_1149 ?_
  refine q_sld C S (a := (4 * (j : Int) + 1)) (by omega) (by omega) dL_law_1150 ?_
  refine q_aload_n C 3 dL_law_1151 rfl rfl ?_
  refine q_SHi C (KL_planLength g (sI xs (4 * (j : Int) + 1)) (sI_rng _ _) I.1.1) mL_planLength ml_L_177 dL_law_1152 (by decide) (by omega) rfl rfl rfl (Nat.le_of_ble_eq_true rfl) (fun v g1 lv uv hv => ?_)
  refine q_nm (fun hn1 => ?_)
  have F := LF_planLength I hn hv
  refine q_istoreV C dL_law_1155 (by decide) (fun v6 e6 => ?_)
  subst e6
  refine q_aload_n C 2 dL_law_1157 rfl rfl ?_
  refine q_aload_n C 0 dL_law_1158 rfl rfl ?_
  refine q_iload C dL_law_1159 rfl ?_
  refine q_iconst C dL_law_1161 ?_
  refine q_iadd C dL_law_1162 ?_
  refine q_sld C S (a := (4 * (j : Int) + 1)) (by omega) (by omega) dL_law_1163 ?_
  refine q_Vi0 C (KX6_planLength g1 (sI xs (4 * (j : Int) + 1)) (sI_rng _ _) F.1 F.2.1) mX6_planLength ml_L_179 dL_law_1164 (by decide) (by omega) rfl rfl rfl (Nat.le_of_ble_eq_true rfl) rfl (by decide) rfl rfl (fun rb g2 lb ub hb => ?_)
  obtain ⟨A1, A2, A3⟩ := LC_planLength I hn hn1 hv hb
  refine q_istoreV C dL_law_1167 (by decide) (fun v7 e7 => ?_)
  refine q_aload_n C 2 dL_law_1169 rfl rfl ?_
  refine q_Vf0 C (KX6_thrown _) mX6_thrown ml_L_120 dL_law_1170 (by decide) (by omega) rfl rfl rfl (Nat.le_of_ble_eq_true rfl) rfl (by decide) rfl rfl (fun vt lt ut ht => ?_)
  refine q_iload C dL_law_1173 rfl ?_
  refine q_icmp_eq C 1180 dL_law_1175 (by decide) (by omega) (by omega) (fun ca => ?_) (fun ca => ?_)
  rotate_left
  · exfalso; omega
  refine q_iload C dL_law_1180 rfl ?_
  refine q_ifne C 1197 dL_law_1182 (by decide) (by omega) (fun cb => ?_) (fun cb => ?_)
  · refine q_goto C 1982 dL_law_1197 (by decide) ?_
    exact law_nx C hL hj ih (by omega) ⟨rfl, rfl, rfl, rfl, rfl, rfl, trivial⟩ A3
  · refine q_aload_n C 3 dL_law_1185 rfl rfl ?_
    refine q_iconst C dL_law_1186 ?_
    refine q_lald C (b := 36) (n := 1) (-9223372036854775808) 9223372036854775807 rfl (by decide) (by decide) (by omega) (fun _ => rfl) dL_law_1187 (fun vo eo lo uo => ?_)
    refine q_iload C dL_law_1188 rfl ?_
    refine q_i2l C dL_law_1190 (by omega) ?_
    refine q_lcmpN C dL_law_1191 (by omega) (by omega) (fun vc hc => ?_)
    have hz := A2 cb
    refine q_ifeq C 1197 dL_law_1192 (by decide) (by omega) (fun cc0 => ?_) (fun cc0 => ?_)
    rotate_left
    · exfalso; omega
    refine q_goto C 1982 dL_law_1197 (by decide) ?_
    exact law_nx C hL hj ih (by omega) ⟨rfl, rfl, rfl, rfl, rfl, rfl, trivial⟩ A3
set_option maxRecDepth 20000 in
theorem law_c18 (C : qCx X ω RL cL_law 8 (some .boolean) T 20 10000) (S : qSc X ω b L xs) (hL : L ≤ 2048) (hj : 4 * j + 3 < L) (I : LI g) (ih : ∀ g', LI g' → qT X ω 8 (300 + 4 * (j + 1)) Q g' 28 (lwL ω b (4 * ((j + 1 : Nat) : Int))) []) : qT X ω 8 (300 + 4 * j) Q g 1200 (lwL ω b (4 * (j : Int))) [] := by
  refine q_nm (fun hn => ?_)
  refine q_aload_n C 1 dL_law_1200 rfl rfl ?_
  refine q_aload_n C 0 dL_law_1201 rfl rfl ?_
  refine q_iload C dL_law_1202 rfl ?_
  refine q_iconst C dL_law_1204 ?_
  refine q_iadd C dL_law_1205 ?_
  refine q_sld C S (a := (4 * (j : Int) + 1)) (by omega) (by omega) dL_law_1206 ?_
  refine q_aload_n C 3 dL_law_1207 rfl rfl ?_
  refine q_SHi C (KL_planByTrying g (sI xs (4 * (j : Int) + 1)) (sI_rng _ _) I.1.1) mL_planByTrying ml_L_180 dL_law_1208 (by decide) (by omega) rfl rfl rfl (Nat.le_of_ble_eq_true rfl) (fun v g1 lv uv hv => ?_)
  refine q_nm (fun hn1 => ?_)
  have F := LF_planByTrying I hn hv
  refine q_istoreV C dL_law_1211 (by decide) (fun v6 e6 => ?_)
  subst e6
  refine q_aload_n C 2 dL_law_1213 rfl rfl ?_
  refine q_aload_n C 0 dL_law_1214 rfl rfl ?_
  refine q_iload C dL_law_1215 rfl ?_
  refine q_iconst C dL_law_1217 ?_
  refine q_iadd C dL_law_1218 ?_
  refine q_sld C S (a := (4 * (j : Int) + 1)) (by omega) (by omega) dL_law_1219 ?_
  refine q_Vi0 C (KX6_planByTrying g1 (sI xs (4 * (j : Int) + 1)) (sI_rng _ _) F.1 F.2.1) mX6_planByTrying ml_L_182 dL_law_1220 (by decide) (by omega) rfl rfl rfl (Nat.le_of_ble_eq_true rfl) rfl (by decide) rfl rfl (fun rb g2 lb ub hb => ?_)
  obtain ⟨A1, A2, A3⟩ := LC_planByTrying I hn hn1 hv hb
  refine q_istoreV C dL_law_1223 (by decide) (fun v7 e7 => ?_)
  refine q_aload_n C 2 dL_law_1225 rfl rfl ?_
  refine q_Vf0 C (KX6_thrown _) mX6_thrown ml_L_120 dL_law_1226 (by decide) (by omega) rfl rfl rfl (Nat.le_of_ble_eq_true rfl) rfl (by decide) rfl rfl (fun vt lt ut ht => ?_)
  refine q_iload C dL_law_1229 rfl ?_
  refine q_icmp_eq C 1236 dL_law_1231 (by decide) (by omega) (by omega) (fun ca => ?_) (fun ca => ?_)
  rotate_left
  · exfalso; omega
  refine q_iload C dL_law_1236 rfl ?_
  refine q_ifne C 1253 dL_law_1238 (by decide) (by omega) (fun cb => ?_) (fun cb => ?_)
  · refine q_goto C 1982 dL_law_1253 (by decide) ?_
    exact law_nx C hL hj ih (by omega) ⟨rfl, rfl, rfl, rfl, rfl, rfl, trivial⟩ A3
  · refine q_aload_n C 3 dL_law_1241 rfl rfl ?_
    refine q_iconst C dL_law_1242 ?_
    refine q_lald C (b := 36) (n := 1) (-9223372036854775808) 9223372036854775807 rfl (by decide) (by decide) (by omega) (fun _ => rfl) dL_law_1243 (fun vo eo lo uo => ?_)
    refine q_iload C dL_law_1244 rfl ?_
    refine q_i2l C dL_law_1246 (by omega) ?_
    refine q_lcmpN C dL_law_1247 (by omega) (by omega) (fun vc hc => ?_)
    have hz := A2 cb
    refine q_ifeq C 1253 dL_law_1248 (by decide) (by omega) (fun cc0 => ?_) (fun cc0 => ?_)
    rotate_left
    · exfalso; omega
    refine q_goto C 1982 dL_law_1253 (by decide) ?_
    exact law_nx C hL hj ih (by omega) ⟨rfl, rfl, rfl, rfl, rfl, rfl, trivial⟩ A3
set_option maxRecDepth 20000 in
theorem law_c19 (C : qCx X ω RL cL_law 8 (some .boolean) T 20 10000) (S : qSc X ω b L xs) (hL : L ≤ 2048) (hj : 4 * j + 3 < L) (I : LI g) (ih : ∀ g', LI g' → qT X ω 8 (300 + 4 * (j + 1)) Q g' 28 (lwL ω b (4 * ((j + 1 : Nat) : Int))) []) : qT X ω 8 (300 + 4 * j) Q g 1256 (lwL ω b (4 * (j : Int))) [] := by
  refine q_nm (fun hn => ?_)
  refine q_aload_n C 1 dL_law_1256 rfl rfl ?_
  refine q_aload_n C 0 dL_law_1257 rfl rfl ?_
  refine q_iload C dL_law_1258 rfl ?_
  refine q_iconst C dL_law_1260 ?_
  refine q_iadd C dL_law_1261 ?_
  refine q_sld C S (a := (4 * (j : Int) + 1)) (by omega) (by omega) dL_law_1262 ?_
  refine q_aload_n C 0 dL_law_1263 rfl rfl ?_
  refine q_iload C dL_law_1264 rfl ?_
  refine q_iconst C dL_law_1266 ?_
  refine q_iadd C dL_law_1267 ?_
  refine q_sld C S (a := (4 * (j : Int) + 2)) (by omega) (by omega) dL_law_1268 ?_
  refine q_aload_n C 3 dL_law_1269 rfl rfl ?_
  refine q_SHi C (KL_planBox g (sI xs (4 * (j : Int) + 1)) (sI_rng _ _) (sI xs (4 * (j : Int) + 2)) (sI_rng _ _) I.1.1) mL_planBox ml_L_183 dL_law_1270 (by decide) (by omega) rfl rfl rfl (Nat.le_of_ble_eq_true rfl) (fun v g1 lv uv hv => ?_)
  refine q_nm (fun hn1 => ?_)
  have F := LF_planBox I hn hv
  refine q_istoreV C dL_law_1273 (by decide) (fun v6 e6 => ?_)
  subst e6
  refine q_aload_n C 2 dL_law_1275 rfl rfl ?_
  refine q_aload_n C 0 dL_law_1276 rfl rfl ?_
  refine q_iload C dL_law_1277 rfl ?_
  refine q_iconst C dL_law_1279 ?_
  refine q_iadd C dL_law_1280 ?_
  refine q_sld C S (a := (4 * (j : Int) + 1)) (by omega) (by omega) dL_law_1281 ?_
  refine q_aload_n C 0 dL_law_1282 rfl rfl ?_
  refine q_iload C dL_law_1283 rfl ?_
  refine q_iconst C dL_law_1285 ?_
  refine q_iadd C dL_law_1286 ?_
  refine q_sld C S (a := (4 * (j : Int) + 2)) (by omega) (by omega) dL_law_1287 ?_
  refine q_Vi0 C (KX6_planBox g1 (sI xs (4 * (j : Int) + 1)) (sI_rng _ _) (sI xs (4 * (j : Int) + 2)) (sI_rng _ _) F.1 F.2.1) mX6_planBox ml_L_185 dL_law_1288 (by decide) (by omega) rfl rfl rfl (Nat.le_of_ble_eq_true rfl) rfl (by decide) rfl rfl (fun rb g2 lb ub hb => ?_)
  obtain ⟨A1, A2, A3⟩ := LC_planBox I hn hn1 hv hb
  refine q_istoreV C dL_law_1291 (by decide) (fun v7 e7 => ?_)
  refine q_aload_n C 2 dL_law_1293 rfl rfl ?_
  refine q_Vf0 C (KX6_thrown _) mX6_thrown ml_L_120 dL_law_1294 (by decide) (by omega) rfl rfl rfl (Nat.le_of_ble_eq_true rfl) rfl (by decide) rfl rfl (fun vt lt ut ht => ?_)
  refine q_iload C dL_law_1297 rfl ?_
  refine q_icmp_eq C 1304 dL_law_1299 (by decide) (by omega) (by omega) (fun ca => ?_) (fun ca => ?_)
  rotate_left
  · exfalso; omega
  refine q_iload C dL_law_1304 rfl ?_
  refine q_ifne C 1321 dL_law_1306 (by decide) (by omega) (fun cb => ?_) (fun cb => ?_)
  · refine q_goto C 1982 dL_law_1321 (by decide) ?_
    exact law_nx C hL hj ih (by omega) ⟨rfl, rfl, rfl, rfl, rfl, rfl, trivial⟩ A3
  · refine q_aload_n C 3 dL_law_1309 rfl rfl ?_
    refine q_iconst C dL_law_1310 ?_
    refine q_lald C (b := 36) (n := 1) (-9223372036854775808) 9223372036854775807 rfl (by decide) (by decide) (by omega) (fun _ => rfl) dL_law_1311 (fun vo eo lo uo => ?_)
    refine q_iload C dL_law_1312 rfl ?_
    refine q_i2l C dL_law_1314 (by omega) ?_
    refine q_lcmpN C dL_law_1315 (by omega) (by omega) (fun vc hc => ?_)
    have hz := A2 cb
    refine q_ifeq C 1321 dL_law_1316 (by decide) (by omega) (fun cc0 => ?_) (fun cc0 => ?_)
    rotate_left
    · exfalso; omega
    refine q_goto C 1982 dL_law_1321 (by decide) ?_
    exact law_nx C hL hj ih (by omega) ⟨rfl, rfl, rfl, rfl, rfl, rfl, trivial⟩ A3
set_option maxRecDepth 20000 in
theorem law_c20 (C : qCx X ω RL cL_law 8 (some .boolean) T 20 10000) (S : qSc X ω b L xs) (hL : L ≤ 2048) (hj : 4 * j + 3 < L) (I : LI g) (ih : ∀ g', LI g' → qT X ω 8 (300 + 4 * (j + 1)) Q g' 28 (lwL ω b (4 * ((j + 1 : Nat) : Int))) []) : qT X ω 8 (300 + 4 * j) Q g 1324 (lwL ω b (4 * (j : Int))) [] := by
  refine q_nm (fun hn => ?_)
  refine q_aload_n C 1 dL_law_1324 rfl rfl ?_
  refine q_aload_n C 0 dL_law_1325 rfl rfl ?_
  refine q_iload C dL_law_1326 rfl ?_
  refine q_iconst C dL_law_1328 ?_
  refine q_iadd C dL_law_1329 ?_
  refine q_sld C S (a := (4 * (j : Int) + 1)) (by omega) (by omega) dL_law_1330 ?_
  refine q_aload_n C 0 dL_law_1331 rfl rfl ?_
  refine q_iload C dL_law_1332 rfl ?_
  refine q_iconst C dL_law_1334 ?_
  refine q_iadd C dL_law_1335 ?_
  refine q_sld C S (a := (4 * (j : Int) + 2)) (by omega) (by omega) dL_law_1336 ?_
  refine q_aload_n C 3 dL_law_1337 rfl rfl ?_
  refine q_SHi C (KL_planStack g (sI xs (4 * (j : Int) + 1)) (sI_rng _ _) (sI xs (4 * (j : Int) + 2)) (sI_rng _ _) I.1.1) mL_planStack ml_L_186 dL_law_1338 (by decide) (by omega) rfl rfl rfl (Nat.le_of_ble_eq_true rfl) (fun v g1 lv uv hv => ?_)
  refine q_nm (fun hn1 => ?_)
  have F := LF_planStack I hn hv
  refine q_istoreV C dL_law_1341 (by decide) (fun v6 e6 => ?_)
  subst e6
  refine q_aload_n C 2 dL_law_1343 rfl rfl ?_
  refine q_aload_n C 0 dL_law_1344 rfl rfl ?_
  refine q_iload C dL_law_1345 rfl ?_
  refine q_iconst C dL_law_1347 ?_
  refine q_iadd C dL_law_1348 ?_
  refine q_sld C S (a := (4 * (j : Int) + 1)) (by omega) (by omega) dL_law_1349 ?_
  refine q_aload_n C 0 dL_law_1350 rfl rfl ?_
  refine q_iload C dL_law_1351 rfl ?_
  refine q_iconst C dL_law_1353 ?_
  refine q_iadd C dL_law_1354 ?_
  refine q_sld C S (a := (4 * (j : Int) + 2)) (by omega) (by omega) dL_law_1355 ?_
  refine q_Vi0 C (KX6_planStack g1 (sI xs (4 * (j : Int) + 1)) (sI_rng _ _) (sI xs (4 * (j : Int) + 2)) (sI_rng _ _) F.1 F.2.1) mX6_planStack ml_L_188 dL_law_1356 (by decide) (by omega) rfl rfl rfl (Nat.le_of_ble_eq_true rfl) rfl (by decide) rfl rfl (fun rb g2 lb ub hb => ?_)
  obtain ⟨A1, A2, A3⟩ := LC_planStack I hn hn1 hv hb
  refine q_istoreV C dL_law_1359 (by decide) (fun v7 e7 => ?_)
  refine q_aload_n C 2 dL_law_1361 rfl rfl ?_
  refine q_Vf0 C (KX6_thrown _) mX6_thrown ml_L_120 dL_law_1362 (by decide) (by omega) rfl rfl rfl (Nat.le_of_ble_eq_true rfl) rfl (by decide) rfl rfl (fun vt lt ut ht => ?_)
  refine q_iload C dL_law_1365 rfl ?_
  refine q_icmp_eq C 1372 dL_law_1367 (by decide) (by omega) (by omega) (fun ca => ?_) (fun ca => ?_)
  rotate_left
  · exfalso; omega
  refine q_iload C dL_law_1372 rfl ?_
  refine q_ifne C 1389 dL_law_1374 (by decide) (by omega) (fun cb => ?_) (fun cb => ?_)
  · refine q_goto C 1982 dL_law_1389 (by decide) ?_
    exact law_nx C hL hj ih (by omega) ⟨rfl, rfl, rfl, rfl, rfl, rfl, trivial⟩ A3
  · refine q_aload_n C 3 dL_law_1377 rfl rfl ?_
    refine q_iconst C dL_law_1378 ?_
    refine q_lald C (b := 36) (n := 1) (-9223372036854775808) 9223372036854775807 rfl (by decide) (by decide) (by omega) (fun _ => rfl) dL_law_1379 (fun vo eo lo uo => ?_)
    refine q_iload C dL_law_1380 rfl ?_
    refine q_i2l C dL_law_1382 (by omega) ?_
    refine q_lcmpN C dL_law_1383 (by omega) (by omega) (fun vc hc => ?_)
    have hz := A2 cb
    refine q_ifeq C 1389 dL_law_1384 (by decide) (by omega) (fun cc0 => ?_) (fun cc0 => ?_)
    rotate_left
    · exfalso; omega
    refine q_goto C 1982 dL_law_1389 (by decide) ?_
    exact law_nx C hL hj ih (by omega) ⟨rfl, rfl, rfl, rfl, rfl, rfl, trivial⟩ A3
set_option maxRecDepth 20000 in
theorem law_c21 (C : qCx X ω RL cL_law 8 (some .boolean) T 20 10000) (S : qSc X ω b L xs) (hL : L ≤ 2048) (hj : 4 * j + 3 < L) (I : LI g) (ih : ∀ g', LI g' → qT X ω 8 (300 + 4 * (j + 1)) Q g' 28 (lwL ω b (4 * ((j + 1 : Nat) : Int))) []) : qT X ω 8 (300 + 4 * j) Q g 1392 (lwL ω b (4 * (j : Int))) [] := by
  refine q_nm (fun hn => ?_)
  refine q_aload_n C 1 dL_law_1392 rfl rfl ?_
  refine q_aload_n C 0 dL_law_1393 rfl rfl ?_
  refine q_iload C dL_law_1394 rfl ?_
  refine q_iconst C dL_law_1396 ?_
  refine q_iadd C dL_law_1397 ?_
  refine q_sld C S (a := (4 * (j : Int) + 1)) (by omega) (by omega) dL_law_1398 ?_
  refine q_aload_n C 3 dL_law_1399 rfl rfl ?_
  refine q_SHi C (KL_dig g (sI xs (4 * (j : Int) + 1)) (sI_rng _ _) I.1.1) mL_dig ml_L_189 dL_law_1400 (by decide) (by omega) rfl rfl rfl (Nat.le_of_ble_eq_true rfl) (fun v g1 lv uv hv => ?_)
  refine q_nm (fun hn1 => ?_)
  have F := LF_dig I hn hv
  refine q_istoreV C dL_law_1403 (by decide) (fun v6 e6 => ?_)
  subst e6
  refine q_aload_n C 2 dL_law_1405 rfl rfl ?_
  refine q_aload_n C 0 dL_law_1406 rfl rfl ?_
  refine q_iload C dL_law_1407 rfl ?_
  refine q_iconst C dL_law_1409 ?_
  refine q_iadd C dL_law_1410 ?_
  refine q_sld C S (a := (4 * (j : Int) + 1)) (by omega) (by omega) dL_law_1411 ?_
  refine q_Vi0 C (KX6_dig g1 (sI xs (4 * (j : Int) + 1)) (sI_rng _ _) F.1 F.2.1) mX6_dig ml_L_191 dL_law_1412 (by decide) (by omega) rfl rfl rfl (Nat.le_of_ble_eq_true rfl) rfl (by decide) rfl rfl (fun rb g2 lb ub hb => ?_)
  obtain ⟨A1, A2, A3⟩ := LC_dig I hn hn1 hv hb
  refine q_istoreV C dL_law_1415 (by decide) (fun v7 e7 => ?_)
  refine q_aload_n C 2 dL_law_1417 rfl rfl ?_
  refine q_Vf0 C (KX6_thrown _) mX6_thrown ml_L_120 dL_law_1418 (by decide) (by omega) rfl rfl rfl (Nat.le_of_ble_eq_true rfl) rfl (by decide) rfl rfl (fun vt lt ut ht => ?_)
  refine q_iload C dL_law_1421 rfl ?_
  refine q_icmp_eq C 1428 dL_law_1423 (by decide) (by omega) (by omega) (fun ca => ?_) (fun ca => ?_)
  rotate_left
  · exfalso; omega
  refine q_iload C dL_law_1428 rfl ?_
  refine q_ifne C 1445 dL_law_1430 (by decide) (by omega) (fun cb => ?_) (fun cb => ?_)
  · refine q_goto C 1982 dL_law_1445 (by decide) ?_
    exact law_nx C hL hj ih (by omega) ⟨rfl, rfl, rfl, rfl, rfl, rfl, trivial⟩ A3
  · refine q_aload_n C 3 dL_law_1433 rfl rfl ?_
    refine q_iconst C dL_law_1434 ?_
    refine q_lald C (b := 36) (n := 1) (-9223372036854775808) 9223372036854775807 rfl (by decide) (by decide) (by omega) (fun _ => rfl) dL_law_1435 (fun vo eo lo uo => ?_)
    refine q_iload C dL_law_1436 rfl ?_
    refine q_i2l C dL_law_1438 (by omega) ?_
    refine q_lcmpN C dL_law_1439 (by omega) (by omega) (fun vc hc => ?_)
    have hz := A2 cb
    refine q_ifeq C 1445 dL_law_1440 (by decide) (by omega) (fun cc0 => ?_) (fun cc0 => ?_)
    rotate_left
    · exfalso; omega
    refine q_goto C 1982 dL_law_1445 (by decide) ?_
    exact law_nx C hL hj ih (by omega) ⟨rfl, rfl, rfl, rfl, rfl, rfl, trivial⟩ A3
set_option maxRecDepth 20000 in
theorem law_c22 (C : qCx X ω RL cL_law 8 (some .boolean) T 20 10000) (S : qSc X ω b L xs) (hL : L ≤ 2048) (hj : 4 * j + 3 < L) (I : LI g) (ih : ∀ g', LI g' → qT X ω 8 (300 + 4 * (j + 1)) Q g' 28 (lwL ω b (4 * ((j + 1 : Nat) : Int))) []) : qT X ω 8 (300 + 4 * j) Q g 1448 (lwL ω b (4 * (j : Int))) [] := by
  refine q_nm (fun hn => ?_)
  refine q_aload_n C 1 dL_law_1448 rfl rfl ?_
  refine q_Vi0 (P := cP_moves g) C (KX5_moves g ) mX5_moves ml_L_192 dL_law_1449 (by decide) (by omega) rfl rfl rfl (Nat.le_of_ble_eq_true rfl) rfl (by decide) rfl rfl (fun v g1 lv uv hv => ?_)
  refine q_nm (fun hn1 => ?_)
  refine q_aload_n C 2 dL_law_1452 rfl rfl ?_
  refine q_Vi0 (P := rP_moves_ (c0 g1)) C (KX6_moves_ g1 ) mX6_moves_ ml_L_195 dL_law_1453 (by decide) (by omega) rfl rfl rfl (Nat.le_of_ble_eq_true rfl) rfl (by decide) rfl rfl (fun rb g2 lb ub hb => ?_)
  obtain ⟨A1, A3⟩ := LC_moves I hn hn1 hv hb
  refine q_icmp_eq C 1982 dL_law_1456 (by decide) (by omega) (by omega) (fun cc0 => ?_) (fun cc0 => ?_)
  · exact law_nx C hL hj ih (by omega) ⟨rfl, rfl, rfl, rfl, rfl, rfl, trivial⟩ A3
  · exfalso; omega
set_option maxRecDepth 20000 in
theorem law_c23 (C : qCx X ω RL cL_law 8 (some .boolean) T 20 10000) (S : qSc X ω b L xs) (hL : L ≤ 2048) (hj : 4 * j + 3 < L) (I : LI g) (ih : ∀ g', LI g' → qT X ω 8 (300 + 4 * (j + 1)) Q g' 28 (lwL ω b (4 * ((j + 1 : Nat) : Int))) []) : qT X ω 8 (300 + 4 * j) Q g 1461 (lwL ω b (4 * (j : Int))) [] := by
  refine q_nm (fun hn => ?_)
  refine q_aload_n C 1 dL_law_1461 rfl rfl ?_
  refine q_aload_n C 0 dL_law_1462 rfl rfl ?_
  refine q_iload C dL_law_1463 rfl ?_
  refine q_iconst C dL_law_1465 ?_
  refine q_iadd C dL_law_1466 ?_
  refine q_sld C S (a := (4 * (j : Int) + 1)) (by omega) (by omega) dL_law_1467 ?_
  refine q_aload_n C 0 dL_law_1468 rfl rfl ?_
  refine q_iload C dL_law_1469 rfl ?_
  refine q_iconst C dL_law_1471 ?_
  refine q_iadd C dL_law_1472 ?_
  refine q_sld C S (a := (4 * (j : Int) + 2)) (by omega) (by omega) dL_law_1473 ?_
  refine q_aload_n C 0 dL_law_1474 rfl rfl ?_
  refine q_iload C dL_law_1475 rfl ?_
  refine q_iconst C dL_law_1477 ?_
  refine q_iadd C dL_law_1478 ?_
  refine q_sld C S (a := (4 * (j : Int) + 3)) (by omega) (by omega) dL_law_1479 ?_
  refine q_aload_n C 3 dL_law_1480 rfl rfl ?_
  refine q_SHi C (KL_book g (sI xs (4 * (j : Int) + 1)) (sI_rng _ _) (sI xs (4 * (j : Int) + 2)) (sI_rng _ _) (sI xs (4 * (j : Int) + 3)) (sI_rng _ _) ) mL_book ml_L_196 dL_law_1481 (by decide) (by omega) rfl rfl rfl (Nat.le_of_ble_eq_true rfl) (fun v g1 lv uv hv => ?_)
  refine q_nm (fun hn1 => ?_)
  have F := LF_book I hn hv
  refine q_istoreV C dL_law_1484 (by decide) (fun v6 e6 => ?_)
  subst e6
  refine q_aload_n C 2 dL_law_1486 rfl rfl ?_
  refine q_aload_n C 0 dL_law_1487 rfl rfl ?_
  refine q_iload C dL_law_1488 rfl ?_
  refine q_iconst C dL_law_1490 ?_
  refine q_iadd C dL_law_1491 ?_
  refine q_sld C S (a := (4 * (j : Int) + 1)) (by omega) (by omega) dL_law_1492 ?_
  refine q_aload_n C 0 dL_law_1493 rfl rfl ?_
  refine q_iload C dL_law_1494 rfl ?_
  refine q_iconst C dL_law_1496 ?_
  refine q_iadd C dL_law_1497 ?_
  refine q_sld C S (a := (4 * (j : Int) + 2)) (by omega) (by omega) dL_law_1498 ?_
  refine q_aload_n C 0 dL_law_1499 rfl rfl ?_
  refine q_iload C dL_law_1500 rfl ?_
  refine q_iconst C dL_law_1502 ?_
  refine q_iadd C dL_law_1503 ?_
  refine q_sld C S (a := (4 * (j : Int) + 3)) (by omega) (by omega) dL_law_1504 ?_
  refine q_Vi0 C (KX6_book g1 (sI xs (4 * (j : Int) + 1)) (sI_rng _ _) (sI xs (4 * (j : Int) + 2)) (sI_rng _ _) (sI xs (4 * (j : Int) + 3)) (sI_rng _ _) ) mX6_book ml_L_199 dL_law_1505 (by decide) (by omega) rfl rfl rfl (Nat.le_of_ble_eq_true rfl) rfl (by decide) rfl rfl (fun rb g2 lb ub hb => ?_)
  obtain ⟨A1, A2, A3⟩ := LC_book I hn hn1 hv hb
  refine q_istoreV C dL_law_1508 (by decide) (fun v7 e7 => ?_)
  refine q_aload_n C 2 dL_law_1510 rfl rfl ?_
  refine q_Vf0 C (KX6_thrown _) mX6_thrown ml_L_120 dL_law_1511 (by decide) (by omega) rfl rfl rfl (Nat.le_of_ble_eq_true rfl) rfl (by decide) rfl rfl (fun vt lt ut ht => ?_)
  refine q_iload C dL_law_1514 rfl ?_
  refine q_icmp_eq C 1521 dL_law_1516 (by decide) (by omega) (by omega) (fun ca => ?_) (fun ca => ?_)
  rotate_left
  · exfalso; omega
  refine q_iload C dL_law_1521 rfl ?_
  refine q_ifne C 1538 dL_law_1523 (by decide) (by omega) (fun cb => ?_) (fun cb => ?_)
  · refine q_goto C 1982 dL_law_1538 (by decide) ?_
    exact law_nx C hL hj ih (by omega) ⟨rfl, rfl, rfl, rfl, rfl, rfl, trivial⟩ A3
  · refine q_aload_n C 3 dL_law_1526 rfl rfl ?_
    refine q_iconst C dL_law_1527 ?_
    refine q_lald C (b := 36) (n := 1) (-9223372036854775808) 9223372036854775807 rfl (by decide) (by decide) (by omega) (fun _ => rfl) dL_law_1528 (fun vo eo lo uo => ?_)
    refine q_iload C dL_law_1529 rfl ?_
    refine q_i2l C dL_law_1531 (by omega) ?_
    refine q_lcmpN C dL_law_1532 (by omega) (by omega) (fun vc hc => ?_)
    have hz := A2 cb
    refine q_ifeq C 1538 dL_law_1533 (by decide) (by omega) (fun cc0 => ?_) (fun cc0 => ?_)
    rotate_left
    · exfalso; omega
    refine q_goto C 1982 dL_law_1538 (by decide) ?_
    exact law_nx C hL hj ih (by omega) ⟨rfl, rfl, rfl, rfl, rfl, rfl, trivial⟩ A3
set_option maxRecDepth 20000 in
theorem law_c24 (C : qCx X ω RL cL_law 8 (some .boolean) T 20 10000) (S : qSc X ω b L xs) (hL : L ≤ 2048) (hj : 4 * j + 3 < L) (I : LI g) (ih : ∀ g', LI g' → qT X ω 8 (300 + 4 * (j + 1)) Q g' 28 (lwL ω b (4 * ((j + 1 : Nat) : Int))) []) : qT X ω 8 (300 + 4 * j) Q g 1541 (lwL ω b (4 * (j : Int))) [] := by
  refine q_nm (fun hn => ?_)
  refine q_aload_n C 1 dL_law_1541 rfl rfl ?_
  refine q_aload_n C 0 dL_law_1542 rfl rfl ?_
  refine q_iload C dL_law_1543 rfl ?_
  refine q_iconst C dL_law_1545 ?_
  refine q_iadd C dL_law_1546 ?_
  refine q_sld C S (a := (4 * (j : Int) + 1)) (by omega) (by omega) dL_law_1547 ?_
  refine q_aload_n C 3 dL_law_1548 rfl rfl ?_
  refine q_SHi C (KL_cancel g (sI xs (4 * (j : Int) + 1)) (sI_rng _ _) ) mL_cancel ml_L_200 dL_law_1549 (by decide) (by omega) rfl rfl rfl (Nat.le_of_ble_eq_true rfl) (fun v g1 lv uv hv => ?_)
  refine q_nm (fun hn1 => ?_)
  have F := LF_cancel I hn hv
  refine q_istoreV C dL_law_1552 (by decide) (fun v6 e6 => ?_)
  subst e6
  refine q_aload_n C 2 dL_law_1554 rfl rfl ?_
  refine q_aload_n C 0 dL_law_1555 rfl rfl ?_
  refine q_iload C dL_law_1556 rfl ?_
  refine q_iconst C dL_law_1558 ?_
  refine q_iadd C dL_law_1559 ?_
  refine q_sld C S (a := (4 * (j : Int) + 1)) (by omega) (by omega) dL_law_1560 ?_
  refine q_Vi0 C (KX6_cancel g1 (sI xs (4 * (j : Int) + 1)) (sI_rng _ _) ) mX6_cancel ml_L_202 dL_law_1561 (by decide) (by omega) rfl rfl rfl (Nat.le_of_ble_eq_true rfl) rfl (by decide) rfl rfl (fun rb g2 lb ub hb => ?_)
  obtain ⟨A1, A2, A3⟩ := LC_cancel I hn hn1 hv hb
  refine q_istoreV C dL_law_1564 (by decide) (fun v7 e7 => ?_)
  refine q_aload_n C 2 dL_law_1566 rfl rfl ?_
  refine q_Vf0 C (KX6_thrown _) mX6_thrown ml_L_120 dL_law_1567 (by decide) (by omega) rfl rfl rfl (Nat.le_of_ble_eq_true rfl) rfl (by decide) rfl rfl (fun vt lt ut ht => ?_)
  refine q_iload C dL_law_1570 rfl ?_
  refine q_icmp_eq C 1577 dL_law_1572 (by decide) (by omega) (by omega) (fun ca => ?_) (fun ca => ?_)
  rotate_left
  · exfalso; omega
  refine q_iload C dL_law_1577 rfl ?_
  refine q_ifne C 1594 dL_law_1579 (by decide) (by omega) (fun cb => ?_) (fun cb => ?_)
  · refine q_goto C 1982 dL_law_1594 (by decide) ?_
    exact law_nx C hL hj ih (by omega) ⟨rfl, rfl, rfl, rfl, rfl, rfl, trivial⟩ A3
  · refine q_aload_n C 3 dL_law_1582 rfl rfl ?_
    refine q_iconst C dL_law_1583 ?_
    refine q_lald C (b := 36) (n := 1) (-9223372036854775808) 9223372036854775807 rfl (by decide) (by decide) (by omega) (fun _ => rfl) dL_law_1584 (fun vo eo lo uo => ?_)
    refine q_iload C dL_law_1585 rfl ?_
    refine q_i2l C dL_law_1587 (by omega) ?_
    refine q_lcmpN C dL_law_1588 (by omega) (by omega) (fun vc hc => ?_)
    have hz := A2 cb
    refine q_ifeq C 1594 dL_law_1589 (by decide) (by omega) (fun cc0 => ?_) (fun cc0 => ?_)
    rotate_left
    · exfalso; omega
    refine q_goto C 1982 dL_law_1594 (by decide) ?_
    exact law_nx C hL hj ih (by omega) ⟨rfl, rfl, rfl, rfl, rfl, rfl, trivial⟩ A3
set_option maxRecDepth 20000 in
theorem law_c25 (C : qCx X ω RL cL_law 8 (some .boolean) T 20 10000) (S : qSc X ω b L xs) (hL : L ≤ 2048) (hj : 4 * j + 3 < L) (I : LI g) (ih : ∀ g', LI g' → qT X ω 8 (300 + 4 * (j + 1)) Q g' 28 (lwL ω b (4 * ((j + 1 : Nat) : Int))) []) : qT X ω 8 (300 + 4 * j) Q g 1597 (lwL ω b (4 * (j : Int))) [] := by
  refine q_nm (fun hn => ?_)
  refine q_aload_n C 1 dL_law_1597 rfl rfl ?_
  refine q_aload_n C 0 dL_law_1598 rfl rfl ?_
  refine q_iload C dL_law_1599 rfl ?_
  refine q_iconst C dL_law_1601 ?_
  refine q_iadd C dL_law_1602 ?_
  refine q_sld C S (a := (4 * (j : Int) + 1)) (by omega) (by omega) dL_law_1603 ?_
  refine q_aload_n C 3 dL_law_1604 rfl rfl ?_
  refine q_SHi C (KL_stateOf g (sI xs (4 * (j : Int) + 1)) (sI_rng _ _) ) mL_stateOf ml_L_203 dL_law_1605 (by decide) (by omega) rfl rfl rfl (Nat.le_of_ble_eq_true rfl) (fun v g1 lv uv hv => ?_)
  refine q_nm (fun hn1 => ?_)
  have F := LF_stateOf I hn hv
  refine q_istoreV C dL_law_1608 (by decide) (fun v6 e6 => ?_)
  subst e6
  refine q_aload_n C 2 dL_law_1610 rfl rfl ?_
  refine q_aload_n C 0 dL_law_1611 rfl rfl ?_
  refine q_iload C dL_law_1612 rfl ?_
  refine q_iconst C dL_law_1614 ?_
  refine q_iadd C dL_law_1615 ?_
  refine q_sld C S (a := (4 * (j : Int) + 1)) (by omega) (by omega) dL_law_1616 ?_
  refine q_Vi0 C (KX6_stateOf g1 (sI xs (4 * (j : Int) + 1)) (sI_rng _ _) ) mX6_stateOf ml_L_205 dL_law_1617 (by decide) (by omega) rfl rfl rfl (Nat.le_of_ble_eq_true rfl) rfl (by decide) rfl rfl (fun rb g2 lb ub hb => ?_)
  obtain ⟨A1, A2, A3⟩ := LC_stateOf I hn hn1 hv hb
  refine q_istoreV C dL_law_1620 (by decide) (fun v7 e7 => ?_)
  refine q_aload_n C 2 dL_law_1622 rfl rfl ?_
  refine q_Vf0 C (KX6_thrown _) mX6_thrown ml_L_120 dL_law_1623 (by decide) (by omega) rfl rfl rfl (Nat.le_of_ble_eq_true rfl) rfl (by decide) rfl rfl (fun vt lt ut ht => ?_)
  refine q_iload C dL_law_1626 rfl ?_
  refine q_icmp_eq C 1633 dL_law_1628 (by decide) (by omega) (by omega) (fun ca => ?_) (fun ca => ?_)
  rotate_left
  · exfalso; omega
  refine q_iload C dL_law_1633 rfl ?_
  refine q_ifne C 1650 dL_law_1635 (by decide) (by omega) (fun cb => ?_) (fun cb => ?_)
  · refine q_goto C 1982 dL_law_1650 (by decide) ?_
    exact law_nx C hL hj ih (by omega) ⟨rfl, rfl, rfl, rfl, rfl, rfl, trivial⟩ A3
  · refine q_aload_n C 3 dL_law_1638 rfl rfl ?_
    refine q_iconst C dL_law_1639 ?_
    refine q_lald C (b := 36) (n := 1) (-9223372036854775808) 9223372036854775807 rfl (by decide) (by decide) (by omega) (fun _ => rfl) dL_law_1640 (fun vo eo lo uo => ?_)
    refine q_iload C dL_law_1641 rfl ?_
    refine q_i2l C dL_law_1643 (by omega) ?_
    refine q_lcmpN C dL_law_1644 (by omega) (by omega) (fun vc hc => ?_)
    have hz := A2 cb
    refine q_ifeq C 1650 dL_law_1645 (by decide) (by omega) (fun cc0 => ?_) (fun cc0 => ?_)
    rotate_left
    · exfalso; omega
    refine q_goto C 1982 dL_law_1650 (by decide) ?_
    exact law_nx C hL hj ih (by omega) ⟨rfl, rfl, rfl, rfl, rfl, rfl, trivial⟩ A3
set_option maxRecDepth 20000 in
theorem law_c26 (C : qCx X ω RL cL_law 8 (some .boolean) T 20 10000) (S : qSc X ω b L xs) (hL : L ≤ 2048) (hj : 4 * j + 3 < L) (I : LI g) (ih : ∀ g', LI g' → qT X ω 8 (300 + 4 * (j + 1)) Q g' 28 (lwL ω b (4 * ((j + 1 : Nat) : Int))) []) : qT X ω 8 (300 + 4 * j) Q g 1653 (lwL ω b (4 * (j : Int))) [] := by
  refine q_nm (fun hn => ?_)
  refine q_aload_n C 1 dL_law_1653 rfl rfl ?_
  refine q_aload_n C 0 dL_law_1654 rfl rfl ?_
  refine q_iload C dL_law_1655 rfl ?_
  refine q_iconst C dL_law_1657 ?_
  refine q_iadd C dL_law_1658 ?_
  refine q_sld C S (a := (4 * (j : Int) + 1)) (by omega) (by omega) dL_law_1659 ?_
  refine q_aload_n C 3 dL_law_1660 rfl rfl ?_
  refine q_SHi C (KL_appointmentOf g (sI xs (4 * (j : Int) + 1)) (sI_rng _ _) ) mL_appointmentOf ml_L_206 dL_law_1661 (by decide) (by omega) rfl rfl rfl (Nat.le_of_ble_eq_true rfl) (fun v g1 lv uv hv => ?_)
  refine q_nm (fun hn1 => ?_)
  have F := LF_appointmentOf I hn hv
  refine q_istoreV C dL_law_1664 (by decide) (fun v6 e6 => ?_)
  subst e6
  refine q_aload_n C 2 dL_law_1666 rfl rfl ?_
  refine q_aload_n C 0 dL_law_1667 rfl rfl ?_
  refine q_iload C dL_law_1668 rfl ?_
  refine q_iconst C dL_law_1670 ?_
  refine q_iadd C dL_law_1671 ?_
  refine q_sld C S (a := (4 * (j : Int) + 1)) (by omega) (by omega) dL_law_1672 ?_
  refine q_Vi0 C (KX6_appointmentOf g1 (sI xs (4 * (j : Int) + 1)) (sI_rng _ _) ) mX6_appointmentOf ml_L_208 dL_law_1673 (by decide) (by omega) rfl rfl rfl (Nat.le_of_ble_eq_true rfl) rfl (by decide) rfl rfl (fun rb g2 lb ub hb => ?_)
  obtain ⟨A1, A2, A3⟩ := LC_appointmentOf I hn hn1 hv hb
  refine q_istoreV C dL_law_1676 (by decide) (fun v7 e7 => ?_)
  refine q_aload_n C 2 dL_law_1678 rfl rfl ?_
  refine q_Vf0 C (KX6_thrown _) mX6_thrown ml_L_120 dL_law_1679 (by decide) (by omega) rfl rfl rfl (Nat.le_of_ble_eq_true rfl) rfl (by decide) rfl rfl (fun vt lt ut ht => ?_)
  refine q_iload C dL_law_1682 rfl ?_
  refine q_icmp_eq C 1689 dL_law_1684 (by decide) (by omega) (by omega) (fun ca => ?_) (fun ca => ?_)
  rotate_left
  · exfalso; omega
  refine q_iload C dL_law_1689 rfl ?_
  refine q_ifne C 1706 dL_law_1691 (by decide) (by omega) (fun cb => ?_) (fun cb => ?_)
  · refine q_goto C 1982 dL_law_1706 (by decide) ?_
    exact law_nx C hL hj ih (by omega) ⟨rfl, rfl, rfl, rfl, rfl, rfl, trivial⟩ A3
  · refine q_aload_n C 3 dL_law_1694 rfl rfl ?_
    refine q_iconst C dL_law_1695 ?_
    refine q_lald C (b := 36) (n := 1) (-9223372036854775808) 9223372036854775807 rfl (by decide) (by decide) (by omega) (fun _ => rfl) dL_law_1696 (fun vo eo lo uo => ?_)
    refine q_iload C dL_law_1697 rfl ?_
    refine q_i2l C dL_law_1699 (by omega) ?_
    refine q_lcmpN C dL_law_1700 (by omega) (by omega) (fun vc hc => ?_)
    have hz := A2 cb
    refine q_ifeq C 1706 dL_law_1701 (by decide) (by omega) (fun cc0 => ?_) (fun cc0 => ?_)
    rotate_left
    · exfalso; omega
    refine q_goto C 1982 dL_law_1706 (by decide) ?_
    exact law_nx C hL hj ih (by omega) ⟨rfl, rfl, rfl, rfl, rfl, rfl, trivial⟩ A3
set_option maxRecDepth 20000 in
theorem law_c27 (C : qCx X ω RL cL_law 8 (some .boolean) T 20 10000) (S : qSc X ω b L xs) (hL : L ≤ 2048) (hj : 4 * j + 3 < L) (I : LI g) (ih : ∀ g', LI g' → qT X ω 8 (300 + 4 * (j + 1)) Q g' 28 (lwL ω b (4 * ((j + 1 : Nat) : Int))) []) : qT X ω 8 (300 + 4 * j) Q g 1709 (lwL ω b (4 * (j : Int))) [] := by
  refine q_nm (fun hn => ?_)
  refine q_aload_n C 1 dL_law_1709 rfl rfl ?_
  refine q_aload_n C 0 dL_law_1710 rfl rfl ?_
  refine q_iload C dL_law_1711 rfl ?_
  refine q_iconst C dL_law_1713 ?_
  refine q_iadd C dL_law_1714 ?_
  refine q_sld C S (a := (4 * (j : Int) + 1)) (by omega) (by omega) dL_law_1715 ?_
  refine q_aload_n C 0 dL_law_1716 rfl rfl ?_
  refine q_iload C dL_law_1717 rfl ?_
  refine q_iconst C dL_law_1719 ?_
  refine q_iadd C dL_law_1720 ?_
  refine q_sld C S (a := (4 * (j : Int) + 2)) (by omega) (by omega) dL_law_1721 ?_
  refine q_aload_n C 3 dL_law_1722 rfl rfl ?_
  refine q_SHi C (KL_inLane g (sI xs (4 * (j : Int) + 1)) (sI_rng _ _) (sI xs (4 * (j : Int) + 2)) (sI_rng _ _) ) mL_inLane ml_L_209 dL_law_1723 (by decide) (by omega) rfl rfl rfl (Nat.le_of_ble_eq_true rfl) (fun v g1 lv uv hv => ?_)
  refine q_nm (fun hn1 => ?_)
  have F := LF_inLane I hn hv
  refine q_istoreV C dL_law_1726 (by decide) (fun v6 e6 => ?_)
  subst e6
  refine q_aload_n C 2 dL_law_1728 rfl rfl ?_
  refine q_aload_n C 0 dL_law_1729 rfl rfl ?_
  refine q_iload C dL_law_1730 rfl ?_
  refine q_iconst C dL_law_1732 ?_
  refine q_iadd C dL_law_1733 ?_
  refine q_sld C S (a := (4 * (j : Int) + 1)) (by omega) (by omega) dL_law_1734 ?_
  refine q_aload_n C 0 dL_law_1735 rfl rfl ?_
  refine q_iload C dL_law_1736 rfl ?_
  refine q_iconst C dL_law_1738 ?_
  refine q_iadd C dL_law_1739 ?_
  refine q_sld C S (a := (4 * (j : Int) + 2)) (by omega) (by omega) dL_law_1740 ?_
  refine q_Vi0 C (KX6_inLane g1 (sI xs (4 * (j : Int) + 1)) (sI_rng _ _) (sI xs (4 * (j : Int) + 2)) (sI_rng _ _) ) mX6_inLane ml_L_211 dL_law_1741 (by decide) (by omega) rfl rfl rfl (Nat.le_of_ble_eq_true rfl) rfl (by decide) rfl rfl (fun rb g2 lb ub hb => ?_)
  obtain ⟨A1, A2, A3⟩ := LC_inLane I hn hn1 hv hb
  refine q_istoreV C dL_law_1744 (by decide) (fun v7 e7 => ?_)
  refine q_aload_n C 2 dL_law_1746 rfl rfl ?_
  refine q_Vf0 C (KX6_thrown _) mX6_thrown ml_L_120 dL_law_1747 (by decide) (by omega) rfl rfl rfl (Nat.le_of_ble_eq_true rfl) rfl (by decide) rfl rfl (fun vt lt ut ht => ?_)
  refine q_iload C dL_law_1750 rfl ?_
  refine q_icmp_eq C 1757 dL_law_1752 (by decide) (by omega) (by omega) (fun ca => ?_) (fun ca => ?_)
  rotate_left
  · exfalso; omega
  refine q_iload C dL_law_1757 rfl ?_
  refine q_ifne C 1774 dL_law_1759 (by decide) (by omega) (fun cb => ?_) (fun cb => ?_)
  · refine q_goto C 1982 dL_law_1774 (by decide) ?_
    exact law_nx C hL hj ih (by omega) ⟨rfl, rfl, rfl, rfl, rfl, rfl, trivial⟩ A3
  · refine q_aload_n C 3 dL_law_1762 rfl rfl ?_
    refine q_iconst C dL_law_1763 ?_
    refine q_lald C (b := 36) (n := 1) (-9223372036854775808) 9223372036854775807 rfl (by decide) (by decide) (by omega) (fun _ => rfl) dL_law_1764 (fun vo eo lo uo => ?_)
    refine q_iload C dL_law_1765 rfl ?_
    refine q_i2l C dL_law_1767 (by omega) ?_
    refine q_lcmpN C dL_law_1768 (by omega) (by omega) (fun vc hc => ?_)
    have hz := A2 cb
    refine q_ifeq C 1774 dL_law_1769 (by decide) (by omega) (fun cc0 => ?_) (fun cc0 => ?_)
    rotate_left
    · exfalso; omega
    refine q_goto C 1982 dL_law_1774 (by decide) ?_
    exact law_nx C hL hj ih (by omega) ⟨rfl, rfl, rfl, rfl, rfl, rfl, trivial⟩ A3
set_option maxRecDepth 20000 in
theorem law_c28 (C : qCx X ω RL cL_law 8 (some .boolean) T 20 10000) (S : qSc X ω b L xs) (hL : L ≤ 2048) (hj : 4 * j + 3 < L) (I : LI g) (ih : ∀ g', LI g' → qT X ω 8 (300 + 4 * (j + 1)) Q g' 28 (lwL ω b (4 * ((j + 1 : Nat) : Int))) []) : qT X ω 8 (300 + 4 * j) Q g 1777 (lwL ω b (4 * (j : Int))) [] := by
  refine q_nm (fun hn => ?_)
  refine q_aload_n C 1 dL_law_1777 rfl rfl ?_
  refine q_aload_n C 0 dL_law_1778 rfl rfl ?_
  refine q_iload C dL_law_1779 rfl ?_
  refine q_iconst C dL_law_1781 ?_
  refine q_iadd C dL_law_1782 ?_
  refine q_sld C S (a := (4 * (j : Int) + 1)) (by omega) (by omega) dL_law_1783 ?_
  refine q_aload_n C 3 dL_law_1784 rfl rfl ?_
  refine q_SHi C (KL_firstHour g (sI xs (4 * (j : Int) + 1)) (sI_rng _ _) ) mL_firstHour ml_L_212 dL_law_1785 (by decide) (by omega) rfl rfl rfl (Nat.le_of_ble_eq_true rfl) (fun v g1 lv uv hv => ?_)
  refine q_nm (fun hn1 => ?_)
  have F := LF_firstHour I hn hv
  refine q_istoreV C dL_law_1788 (by decide) (fun v6 e6 => ?_)
  subst e6
  refine q_aload_n C 2 dL_law_1790 rfl rfl ?_
  refine q_aload_n C 0 dL_law_1791 rfl rfl ?_
  refine q_iload C dL_law_1792 rfl ?_
  refine q_iconst C dL_law_1794 ?_
  refine q_iadd C dL_law_1795 ?_
  refine q_sld C S (a := (4 * (j : Int) + 1)) (by omega) (by omega) dL_law_1796 ?_
  refine q_Vi0 C (KX6_firstHour g1 (sI xs (4 * (j : Int) + 1)) (sI_rng _ _) ) mX6_firstHour ml_L_214 dL_law_1797 (by decide) (by omega) rfl rfl rfl (Nat.le_of_ble_eq_true rfl) rfl (by decide) rfl rfl (fun rb g2 lb ub hb => ?_)
  obtain ⟨A1, A2, A3⟩ := LC_firstHour I hn hn1 hv hb
  refine q_istoreV C dL_law_1800 (by decide) (fun v7 e7 => ?_)
  refine q_aload_n C 2 dL_law_1802 rfl rfl ?_
  refine q_Vf0 C (KX6_thrown _) mX6_thrown ml_L_120 dL_law_1803 (by decide) (by omega) rfl rfl rfl (Nat.le_of_ble_eq_true rfl) rfl (by decide) rfl rfl (fun vt lt ut ht => ?_)
  refine q_iload C dL_law_1806 rfl ?_
  refine q_icmp_eq C 1813 dL_law_1808 (by decide) (by omega) (by omega) (fun ca => ?_) (fun ca => ?_)
  rotate_left
  · exfalso; omega
  refine q_iload C dL_law_1813 rfl ?_
  refine q_ifne C 1830 dL_law_1815 (by decide) (by omega) (fun cb => ?_) (fun cb => ?_)
  · refine q_goto C 1982 dL_law_1830 (by decide) ?_
    exact law_nx C hL hj ih (by omega) ⟨rfl, rfl, rfl, rfl, rfl, rfl, trivial⟩ A3
  · refine q_aload_n C 3 dL_law_1818 rfl rfl ?_
    refine q_iconst C dL_law_1819 ?_
    refine q_lald C (b := 36) (n := 1) (-9223372036854775808) 9223372036854775807 rfl (by decide) (by decide) (by omega) (fun _ => rfl) dL_law_1820 (fun vo eo lo uo => ?_)
    refine q_iload C dL_law_1821 rfl ?_
    refine q_i2l C dL_law_1823 (by omega) ?_
    refine q_lcmpN C dL_law_1824 (by omega) (by omega) (fun vc hc => ?_)
    have hz := A2 cb
    refine q_ifeq C 1830 dL_law_1825 (by decide) (by omega) (fun cc0 => ?_) (fun cc0 => ?_)
    rotate_left
    · exfalso; omega
    refine q_goto C 1982 dL_law_1830 (by decide) ?_
    exact law_nx C hL hj ih (by omega) ⟨rfl, rfl, rfl, rfl, rfl, rfl, trivial⟩ A3
set_option maxRecDepth 20000 in
theorem law_c29 (C : qCx X ω RL cL_law 8 (some .boolean) T 20 10000) (S : qSc X ω b L xs) (hL : L ≤ 2048) (hj : 4 * j + 3 < L) (I : LI g) (ih : ∀ g', LI g' → qT X ω 8 (300 + 4 * (j + 1)) Q g' 28 (lwL ω b (4 * ((j + 1 : Nat) : Int))) []) : qT X ω 8 (300 + 4 * j) Q g 1833 (lwL ω b (4 * (j : Int))) [] := by
  refine q_nm (fun hn => ?_)
  refine q_aload_n C 1 dL_law_1833 rfl rfl ?_
  refine q_aload_n C 0 dL_law_1834 rfl rfl ?_
  refine q_iload C dL_law_1835 rfl ?_
  refine q_iconst C dL_law_1837 ?_
  refine q_iadd C dL_law_1838 ?_
  refine q_sld C S (a := (4 * (j : Int) + 1)) (by omega) (by omega) dL_law_1839 ?_
  refine q_aload_n C 3 dL_law_1840 rfl rfl ?_
  refine q_SHi C (KL_pass g (sI xs (4 * (j : Int) + 1)) (sI_rng _ _) I.1.1 I.1.2.2.2) mL_pass ml_L_215 dL_law_1841 (by decide) (by omega) rfl rfl rfl (Nat.le_of_ble_eq_true rfl) (fun v g1 lv uv hv => ?_)
  refine q_nm (fun hn1 => ?_)
  have F := LF_pass I hn hv
  refine q_istoreV C dL_law_1844 (by decide) (fun v6 e6 => ?_)
  subst e6
  refine q_aload_n C 2 dL_law_1846 rfl rfl ?_
  refine q_aload_n C 0 dL_law_1847 rfl rfl ?_
  refine q_iload C dL_law_1848 rfl ?_
  refine q_iconst C dL_law_1850 ?_
  refine q_iadd C dL_law_1851 ?_
  refine q_sld C S (a := (4 * (j : Int) + 1)) (by omega) (by omega) dL_law_1852 ?_
  refine q_Vi0 C (KX6_pass g1 (sI xs (4 * (j : Int) + 1)) (sI_rng _ _) F.1 F.2.1 F.2.2) mX6_pass ml_L_217 dL_law_1853 (by decide) (by omega) rfl rfl rfl (Nat.le_of_ble_eq_true rfl) rfl (by decide) rfl rfl (fun rb g2 lb ub hb => ?_)
  obtain ⟨A1, A2, A3⟩ := LC_pass I hn hn1 hv hb
  refine q_istoreV C dL_law_1856 (by decide) (fun v7 e7 => ?_)
  refine q_aload_n C 2 dL_law_1858 rfl rfl ?_
  refine q_Vf0 C (KX6_thrown _) mX6_thrown ml_L_120 dL_law_1859 (by decide) (by omega) rfl rfl rfl (Nat.le_of_ble_eq_true rfl) rfl (by decide) rfl rfl (fun vt lt ut ht => ?_)
  refine q_iload C dL_law_1862 rfl ?_
  refine q_icmp_eq C 1869 dL_law_1864 (by decide) (by omega) (by omega) (fun ca => ?_) (fun ca => ?_)
  rotate_left
  · exfalso; omega
  refine q_iload C dL_law_1869 rfl ?_
  refine q_ifne C 1886 dL_law_1871 (by decide) (by omega) (fun cb => ?_) (fun cb => ?_)
  · refine q_goto C 1982 dL_law_1886 (by decide) ?_
    exact law_nx C hL hj ih (by omega) ⟨rfl, rfl, rfl, rfl, rfl, rfl, trivial⟩ A3
  · refine q_aload_n C 3 dL_law_1874 rfl rfl ?_
    refine q_iconst C dL_law_1875 ?_
    refine q_lald C (b := 36) (n := 1) (-9223372036854775808) 9223372036854775807 rfl (by decide) (by decide) (by omega) (fun _ => rfl) dL_law_1876 (fun vo eo lo uo => ?_)
    refine q_iload C dL_law_1877 rfl ?_
    refine q_i2l C dL_law_1879 (by omega) ?_
    refine q_lcmpN C dL_law_1880 (by omega) (by omega) (fun vc hc => ?_)
    have hz := A2 cb
    refine q_ifeq C 1886 dL_law_1881 (by decide) (by omega) (fun cc0 => ?_) (fun cc0 => ?_)
    rotate_left
    · exfalso; omega
    refine q_goto C 1982 dL_law_1886 (by decide) ?_
    exact law_nx C hL hj ih (by omega) ⟨rfl, rfl, rfl, rfl, rfl, rfl, trivial⟩ A3
set_option maxRecDepth 20000 in
theorem law_c30 (C : qCx X ω RL cL_law 8 (some .boolean) T 20 10000) (S : qSc X ω b L xs) (hL : L ≤ 2048) (hj : 4 * j + 3 < L) (I : LI g) (ih : ∀ g', LI g' → qT X ω 8 (300 + 4 * (j + 1)) Q g' 28 (lwL ω b (4 * ((j + 1 : Nat) : Int))) []) : qT X ω 8 (300 + 4 * j) Q g 1889 (lwL ω b (4 * (j : Int))) [] := by
  refine q_nm (fun hn => ?_)
  refine q_aload_n C 1 dL_law_1889 rfl rfl ?_
  refine q_Vi0 (P := cP_now g) C (KX5_now g ) mX5_now ml_L_218 dL_law_1890 (by decide) (by omega) rfl rfl rfl (Nat.le_of_ble_eq_true rfl) rfl (by decide) rfl rfl (fun v g1 lv uv hv => ?_)
  refine q_nm (fun hn1 => ?_)
  refine q_aload_n C 2 dL_law_1893 rfl rfl ?_
  refine q_Vi0 (P := rP_now (c0 g1)) C (KX6_now g1 ) mX6_now ml_L_221 dL_law_1894 (by decide) (by omega) rfl rfl rfl (Nat.le_of_ble_eq_true rfl) rfl (by decide) rfl rfl (fun rb g2 lb ub hb => ?_)
  obtain ⟨A1, A3⟩ := LC_now I hn hn1 hv hb
  refine q_icmp_eq C 1982 dL_law_1897 (by decide) (by omega) (by omega) (fun cc0 => ?_) (fun cc0 => ?_)
  · exact law_nx C hL hj ih (by omega) ⟨rfl, rfl, rfl, rfl, rfl, rfl, trivial⟩ A3
  · exfalso; omega
set_option maxRecDepth 20000 in
theorem law_c31 (C : qCx X ω RL cL_law 8 (some .boolean) T 20 10000) (S : qSc X ω b L xs) (hL : L ≤ 2048) (hj : 4 * j + 3 < L) (I : LI g) (ih : ∀ g', LI g' → qT X ω 8 (300 + 4 * (j + 1)) Q g' 28 (lwL ω b (4 * ((j + 1 : Nat) : Int))) []) : qT X ω 8 (300 + 4 * j) Q g 1902 (lwL ω b (4 * (j : Int))) [] := by
  refine q_nm (fun hn => ?_)
  refine q_aload_n C 1 dL_law_1902 rfl rfl ?_
  refine q_Vli0 (P := cP_weightLeft g) C (KX5_weightLeft g ) mX5_weightLeft ml_L_222 dL_law_1903 (by decide) (by omega) rfl rfl rfl (Nat.le_of_ble_eq_true rfl) rfl (by decide) rfl rfl (fun v g1 lv uv hv => ?_)
  refine q_nm (fun hn1 => ?_)
  refine q_aload_n C 2 dL_law_1906 rfl rfl ?_
  refine q_Vli0 (P := rP_weightLeft (c0 g1)) C (KX6_weightLeft g1 ) mX6_weightLeft ml_L_226 dL_law_1907 (by decide) (by omega) rfl rfl rfl (Nat.le_of_ble_eq_true rfl) rfl (by decide) rfl rfl (fun rb g2 lb ub hb => ?_)
  obtain ⟨A1, A3⟩ := LC_weightLeft I hn hn1 hv hb
  refine q_lcmpN C dL_law_1910 (by omega) (by omega) (fun vc hc => ?_)
  refine q_ifeq C 1982 dL_law_1911 (by decide) (by omega) (fun cc0 => ?_) (fun cc0 => ?_)
  · exact law_nx C hL hj ih (by omega) ⟨rfl, rfl, rfl, rfl, rfl, rfl, trivial⟩ A3
  · exfalso; omega
set_option maxRecDepth 20000 in
theorem law_c32 (C : qCx X ω RL cL_law 8 (some .boolean) T 20 10000) (S : qSc X ω b L xs) (hL : L ≤ 2048) (hj : 4 * j + 3 < L) (I : LI g) (ih : ∀ g', LI g' → qT X ω 8 (300 + 4 * (j + 1)) Q g' 28 (lwL ω b (4 * ((j + 1 : Nat) : Int))) []) : qT X ω 8 (300 + 4 * j) Q g 1916 (lwL ω b (4 * (j : Int))) [] := by
  refine q_nm (fun hn => ?_)
  refine q_aload_n C 1 dL_law_1916 rfl rfl ?_
  refine q_aload C dL_law_1917 rfl ?_
  refine q_SHi C (KL_doneShare g) mL_doneShare ml_L_227 dL_law_1919 (by decide) (by omega) rfl rfl rfl (Nat.le_of_ble_eq_true rfl) (fun v g1 lv uv hv => ?_)
  refine q_istoreV C dL_law_1922 (by decide) (fun v6 e6 => ?_)
  subst e6
  refine q_aload_n C 2 dL_law_1924 rfl rfl ?_
  refine q_callV0 C (KX6_doneShare g1) mX6_doneShare ml_L_230 rfl rfl rfl (Nat.le_of_ble_eq_true rfl) dL_law_1925 (by decide) (by omega) rfl (by decide) rfl rfl (fun w g2 hw => ?_) (fun E g' h => h.elim)
  obtain ⟨rb, rfl, hb⟩ := hw
  obtain ⟨A1, A2, A3⟩ := LC_doneShare I hn hv hb
  refine q_fstore C dL_law_1928 (by decide) ?_
  refine q_aload_n C 2 dL_law_1930 rfl rfl ?_
  refine q_Vf0 C (KX6_thrown _) mX6_thrown ml_L_120 dL_law_1931 (by decide) (by omega) rfl rfl rfl (Nat.le_of_ble_eq_true rfl) rfl (by decide) rfl rfl (fun vt lt ut ht => ?_)
  refine q_iload C dL_law_1934 rfl ?_
  refine q_icmp_eq C 1941 dL_law_1936 (by decide) (by omega) (by omega) (fun ca => ?_) (fun ca => ?_)
  rotate_left
  · exfalso; omega
  refine q_iload C dL_law_1941 rfl ?_
  refine q_ifne C 1979 dL_law_1943 (by decide) (by omega) (fun cb => ?_) (fun cb => ?_)
  · refine q_goto C 1982 dL_law_1979 (by decide) ?_
    exact law_nx C hL hj ih (by omega) ⟨rfl, rfl, rfl, rfl, rfl, rfl, trivial⟩ A3
  · obtain ⟨B1, B2, B3, B4⟩ := A2 cb
    subst B2
    refine q_aload C dL_law_1946 rfl ?_
    refine q_iconst C dL_law_1948 ?_
    refine q_dald C (b := 37) (n := 1) rfl (by decide) (by decide) (by omega) dL_law_1949 ?_
    have e37 : UInt64.ofNat (g2 37 0).toNat = FP.f2d (shV (vA g)) := by
      rw [B1]
      exact UInt64.ofNat_toNat
    rw [e37]
    refine q_fload C dL_law_1950 rfl ?_
    refine q_f2d C dL_law_1952 B3 ?_
    refine q_dcmp C dL_law_1953 0 B4 ?_
    refine q_ifeq C 1979 dL_law_1954 (by decide) (by omega) (fun cc0 => ?_) (fun cc0 => ?_)
    · refine q_goto C 1982 dL_law_1979 (by decide) ?_
      exact law_nx C hL hj ih (by omega) ⟨rfl, rfl, rfl, rfl, rfl, rfl, trivial⟩ A3
    · exact absurd rfl cc0
end LAWB
