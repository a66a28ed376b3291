/-! the law's cases (written by gencase.py) -/
theorem x_R (x : Int32) : fc_R x.toInt := ⟨Int32.le_toInt x, Int32.toInt_lt x⟩
section CASES
variable {b L cs sl : Nat} {X : fc_X} {nm : String} {xs : Nat → Int32} {ls : List (Option fc_AV)} {A : Nat → Int → Int} {F : Nat → Nat → Int} {i t : Int}
theorem lc_0 (C : fc_C X RL cL_law 4 1000 600000 7302250 nm) (SC : fl_S X b L xs) (l1 : fc_get ls 1 = some (vR 0)) (l2 : fc_get ls 2 = some (vR 143)) (l3 : fc_get ls 3 = some (vI i)) (i0 : 0 ≤ i) (i1 : i + 3 < (L : Int)) (hL : L ≤ 2048) (hcs : cs ≤ 600000) (hsl : sl ≤ 7302250) (t0 : 0 ≤ t) (t1 : t ≤ 100000) (J : j_I t A F) (next : ∀ (A2 : Nat → Int → Int) (F2 : Nat → Nat → Int), j_I (t + 1) A2 F2 → fl_W b X cs sl 159 (fc_H A2 F2) 920 ls []) : fl_W b X cs sl 159 (fc_H A F) 180 ls [] := by
  obtain ⟨dX, dM, PX, h1, h2, hX, hK⟩ := p_points (x_R (xs (i + 1).toNat)) t A F t0 t1 J
  refine fl_aload_n (x := 0) C dL_law_180 rfl l1 ?_
  refine fl_arg C SC dL_law_181 dL_law_182 dL_law_183 dL_law_184 dL_law_185 l3 (by omega) (by omega) hL ?_
  refine fl_callVE (y := mX6_points) C dL_law_186 ml_L_13 mi_X6_points im_X6_points se_X6_points hX rfl rfl h1 rfl (Nat.le_of_ble_eq_true rfl) hcs hsl rfl ?_
  intro r A1 F1 h3
  obtain ⟨z, rfl, PM, hM, hK2⟩ := hK r A1 F1 h3
  refine fl_eq (st' := [vI z]) rfl rfl ?_
  refine fl_aload_n (x := 143) C dL_law_189 rfl l2 ?_
  refine fl_arg C SC dL_law_190 dL_law_191 dL_law_192 dL_law_193 dL_law_194 l3 (by omega) (by omega) hL ?_
  refine fl_callVE (y := mX7_points) C dL_law_195 ml_L_17 mi_X7_points im_X7_points se_X7_points hM rfl rfl h2 rfl (Nat.le_of_ble_eq_true rfl) hcs hsl rfl ?_
  intro r' A2 F2 h4
  obtain ⟨rfl, J2⟩ := hK2 r' A2 F2 h4
  refine fl_eq (st' := [vI z, vI z]) rfl rfl ?_
  exact fl_same (tgt := 920) C dL_law_198 rfl (next A2 F2 J2)
theorem lc_1 (C : fc_C X RL cL_law 4 1000 600000 7302250 nm) (SC : fl_S X b L xs) (l1 : fc_get ls 1 = some (vR 0)) (l2 : fc_get ls 2 = some (vR 143)) (l3 : fc_get ls 3 = some (vI i)) (i0 : 0 ≤ i) (i1 : i + 3 < (L : Int)) (hL : L ≤ 2048) (hcs : cs ≤ 600000) (hsl : sl ≤ 7302250) (t0 : 0 ≤ t) (t1 : t ≤ 100000) (J : j_I t A F) (next : ∀ (A2 : Nat → Int → Int) (F2 : Nat → Nat → Int), j_I (t + 1) A2 F2 → fl_W b X cs sl 159 (fc_H A2 F2) 920 ls []) : fl_W b X cs sl 159 (fc_H A F) 203 ls [] := by
  obtain ⟨dX, dM, PX, h1, h2, hX, hK⟩ := p_lines (x_R (xs (i + 1).toNat)) (x_R (xs (i + 2).toNat)) (x_R (xs (i + 3).toNat)) t A F t0 t1 J
  refine fl_aload_n (x := 0) C dL_law_203 rfl l1 ?_
  refine fl_arg C SC dL_law_204 dL_law_205 dL_law_206 dL_law_207 dL_law_208 l3 (by omega) (by omega) hL ?_
  refine fl_arg C SC dL_law_209 dL_law_210 dL_law_211 dL_law_212 dL_law_213 l3 (by omega) (by omega) hL ?_
  refine fl_arg C SC dL_law_214 dL_law_215 dL_law_216 dL_law_217 dL_law_218 l3 (by omega) (by omega) hL ?_
  refine fl_callVE (y := mX6_lines) C dL_law_219 ml_L_18 mi_X6_lines im_X6_lines se_X6_lines hX rfl rfl h1 rfl (Nat.le_of_ble_eq_true rfl) hcs hsl rfl ?_
  intro r A1 F1 h3
  obtain ⟨z, rfl, PM, hM, hK2⟩ := hK r A1 F1 h3
  refine fl_eq (st' := [vI z]) rfl rfl ?_
  refine fl_aload_n (x := 143) C dL_law_222 rfl l2 ?_
  refine fl_arg C SC dL_law_223 dL_law_224 dL_law_225 dL_law_226 dL_law_227 l3 (by omega) (by omega) hL ?_
  refine fl_arg C SC dL_law_228 dL_law_229 dL_law_230 dL_law_231 dL_law_232 l3 (by omega) (by omega) hL ?_
  refine fl_arg C SC dL_law_233 dL_law_234 dL_law_235 dL_law_236 dL_law_237 l3 (by omega) (by omega) hL ?_
  refine fl_callVE (y := mX7_lines) C dL_law_238 ml_L_22 mi_X7_lines im_X7_lines se_X7_lines hM rfl rfl h2 rfl (Nat.le_of_ble_eq_true rfl) hcs hsl rfl ?_
  intro r' A2 F2 h4
  obtain ⟨rfl, J2⟩ := hK2 r' A2 F2 h4
  refine fl_eq (st' := [vI z, vI z]) rfl rfl ?_
  exact fl_same (tgt := 920) C dL_law_241 rfl (next A2 F2 J2)
theorem lc_2 (C : fc_C X RL cL_law 4 1000 600000 7302250 nm) (SC : fl_S X b L xs) (l1 : fc_get ls 1 = some (vR 0)) (l2 : fc_get ls 2 = some (vR 143)) (l3 : fc_get ls 3 = some (vI i)) (i0 : 0 ≤ i) (i1 : i + 3 < (L : Int)) (hL : L ≤ 2048) (hcs : cs ≤ 600000) (hsl : sl ≤ 7302250) (t0 : 0 ≤ t) (t1 : t ≤ 100000) (J : j_I t A F) (next : ∀ (A2 : Nat → Int → Int) (F2 : Nat → Nat → Int), j_I (t + 1) A2 F2 → fl_W b X cs sl 159 (fc_H A2 F2) 920 ls []) : fl_W b X cs sl 159 (fc_H A F) 246 ls [] := by
  obtain ⟨dX, dM, PX, h1, h2, hX, hK⟩ := p_draws (x_R (xs (i + 1).toNat)) t A F t0 t1 J
  refine fl_aload_n (x := 0) C dL_law_246 rfl l1 ?_
  refine fl_arg C SC dL_law_247 dL_law_248 dL_law_249 dL_law_250 dL_law_251 l3 (by omega) (by omega) hL ?_
  refine fl_callVE (y := mX6_draws) C dL_law_252 ml_L_23 mi_X6_draws im_X6_draws se_X6_draws hX rfl rfl h1 rfl (Nat.le_of_ble_eq_true rfl) hcs hsl rfl ?_
  intro r A1 F1 h3
  obtain ⟨z, rfl, PM, hM, hK2⟩ := hK r A1 F1 h3
  refine fl_eq (st' := [vI z]) rfl rfl ?_
  refine fl_aload_n (x := 143) C dL_law_255 rfl l2 ?_
  refine fl_arg C SC dL_law_256 dL_law_257 dL_law_258 dL_law_259 dL_law_260 l3 (by omega) (by omega) hL ?_
  refine fl_callVE (y := mX7_draws) C dL_law_261 ml_L_26 mi_X7_draws im_X7_draws se_X7_draws hM rfl rfl h2 rfl (Nat.le_of_ble_eq_true rfl) hcs hsl rfl ?_
  intro r' A2 F2 h4
  obtain ⟨rfl, J2⟩ := hK2 r' A2 F2 h4
  refine fl_eq (st' := [vI z, vI z]) rfl rfl ?_
  exact fl_same (tgt := 920) C dL_law_264 rfl (next A2 F2 J2)
theorem lc_3 (C : fc_C X RL cL_law 4 1000 600000 7302250 nm) (SC : fl_S X b L xs) (l1 : fc_get ls 1 = some (vR 0)) (l2 : fc_get ls 2 = some (vR 143)) (l3 : fc_get ls 3 = some (vI i)) (i0 : 0 ≤ i) (i1 : i + 3 < (L : Int)) (hL : L ≤ 2048) (hcs : cs ≤ 600000) (hsl : sl ≤ 7302250) (t0 : 0 ≤ t) (t1 : t ≤ 100000) (J : j_I t A F) (next : ∀ (A2 : Nat → Int → Int) (F2 : Nat → Nat → Int), j_I (t + 1) A2 F2 → fl_W b X cs sl 159 (fc_H A2 F2) 920 ls []) : fl_W b X cs sl 159 (fc_H A F) 269 ls [] := by
  obtain ⟨dX, dM, PX, h1, h2, hX, hK⟩ := p_net (x_R (xs (i + 1).toNat)) (x_R (xs (i + 2).toNat)) t A F t0 t1 J
  refine fl_aload_n (x := 0) C dL_law_269 rfl l1 ?_
  refine fl_arg C SC dL_law_270 dL_law_271 dL_law_272 dL_law_273 dL_law_274 l3 (by omega) (by omega) hL ?_
  refine fl_arg C SC dL_law_275 dL_law_276 dL_law_277 dL_law_278 dL_law_279 l3 (by omega) (by omega) hL ?_
  refine fl_callVE (y := mX6_net) C dL_law_280 ml_L_27 mi_X6_net im_X6_net se_X6_net hX rfl rfl h1 rfl (Nat.le_of_ble_eq_true rfl) hcs hsl rfl ?_
  intro r A1 F1 h3
  obtain ⟨z, rfl, PM, hM, hK2⟩ := hK r A1 F1 h3
  refine fl_eq (st' := [vI z]) rfl rfl ?_
  refine fl_aload_n (x := 143) C dL_law_283 rfl l2 ?_
  refine fl_arg C SC dL_law_284 dL_law_285 dL_law_286 dL_law_287 dL_law_288 l3 (by omega) (by omega) hL ?_
  refine fl_arg C SC dL_law_289 dL_law_290 dL_law_291 dL_law_292 dL_law_293 l3 (by omega) (by omega) hL ?_
  refine fl_callVE (y := mX7_net) C dL_law_294 ml_L_31 mi_X7_net im_X7_net se_X7_net hM rfl rfl h2 rfl (Nat.le_of_ble_eq_true rfl) hcs hsl rfl ?_
  intro r' A2 F2 h4
  obtain ⟨rfl, J2⟩ := hK2 r' A2 F2 h4
  refine fl_eq (st' := [vI z, vI z]) rfl rfl ?_
  exact fl_same (tgt := 920) C dL_law_297 rfl (next A2 F2 J2)
theorem lc_4 (C : fc_C X RL cL_law 4 1000 600000 7302250 nm) (SC : fl_S X b L xs) (l1 : fc_get ls 1 = some (vR 0)) (l2 : fc_get ls 2 = some (vR 143)) (l3 : fc_get ls 3 = some (vI i)) (i0 : 0 ≤ i) (i1 : i + 3 < (L : Int)) (hL : L ≤ 2048) (hcs : cs ≤ 600000) (hsl : sl ≤ 7302250) (t0 : 0 ≤ t) (t1 : t ≤ 100000) (J : j_I t A F) (next : ∀ (A2 : Nat → Int → Int) (F2 : Nat → Nat → Int), j_I (t + 1) A2 F2 → fl_W b X cs sl 159 (fc_H A2 F2) 920 ls []) : fl_W b X cs sl 159 (fc_H A F) 302 ls [] := by
  obtain ⟨dX, dM, PX, h1, h2, hX, hK⟩ := p_joined t A F t0 t1 J
  refine fl_aload_n (x := 0) C dL_law_302 rfl l1 ?_
  refine fl_callVE (y := mX6_joined) C dL_law_303 ml_L_32 mi_X6_joined im_X6_joined se_X6_joined hX rfl rfl h1 rfl (Nat.le_of_ble_eq_true rfl) hcs hsl rfl ?_
  intro r A1 F1 h3
  obtain ⟨z, rfl, PM, hM, hK2⟩ := hK r A1 F1 h3
  refine fl_eq (st' := [vI z]) rfl rfl ?_
  refine fl_aload_n (x := 143) C dL_law_306 rfl l2 ?_
  refine fl_callVE (y := mX7_joined) C dL_law_307 ml_L_36 mi_X7_joined im_X7_joined se_X7_joined hM rfl rfl h2 rfl (Nat.le_of_ble_eq_true rfl) hcs hsl rfl ?_
  intro r' A2 F2 h4
  obtain ⟨rfl, J2⟩ := hK2 r' A2 F2 h4
  refine fl_eq (st' := [vI z, vI z]) rfl rfl ?_
  exact fl_same (tgt := 920) C dL_law_310 rfl (next A2 F2 J2)
theorem lc_5 (C : fc_C X RL cL_law 4 1000 600000 7302250 nm) (SC : fl_S X b L xs) (l1 : fc_get ls 1 = some (vR 0)) (l2 : fc_get ls 2 = some (vR 143)) (l3 : fc_get ls 3 = some (vI i)) (i0 : 0 ≤ i) (i1 : i + 3 < (L : Int)) (hL : L ≤ 2048) (hcs : cs ≤ 600000) (hsl : sl ≤ 7302250) (t0 : 0 ≤ t) (t1 : t ≤ 100000) (J : j_I t A F) (next : ∀ (A2 : Nat → Int → Int) (F2 : Nat → Nat → Int), j_I (t + 1) A2 F2 → fl_W b X cs sl 159 (fc_H A2 F2) 920 ls []) : fl_W b X cs sl 159 (fc_H A F) 315 ls [] := by
  obtain ⟨dX, dM, PX, h1, h2, hX, hK⟩ := p_sets (x_R (xs (i + 1).toNat)) (x_R (xs (i + 2).toNat)) t A F t0 t1 J
  refine fl_aload_n (x := 0) C dL_law_315 rfl l1 ?_
  refine fl_arg C SC dL_law_316 dL_law_317 dL_law_318 dL_law_319 dL_law_320 l3 (by omega) (by omega) hL ?_
  refine fl_arg C SC dL_law_321 dL_law_322 dL_law_323 dL_law_324 dL_law_325 l3 (by omega) (by omega) hL ?_
  refine fl_callVE (y := mX6_sets) C dL_law_326 ml_L_37 mi_X6_sets im_X6_sets se_X6_sets hX rfl rfl h1 rfl (Nat.le_of_ble_eq_true rfl) hcs hsl rfl ?_
  intro r A1 F1 h3
  obtain ⟨z, rfl, PM, hM, hK2⟩ := hK r A1 F1 h3
  refine fl_eq (st' := [vI z]) rfl rfl ?_
  refine fl_aload_n (x := 143) C dL_law_329 rfl l2 ?_
  refine fl_arg C SC dL_law_330 dL_law_331 dL_law_332 dL_law_333 dL_law_334 l3 (by omega) (by omega) hL ?_
  refine fl_arg C SC dL_law_335 dL_law_336 dL_law_337 dL_law_338 dL_law_339 l3 (by omega) (by omega) hL ?_
  refine fl_callVE (y := mX7_sets) C dL_law_340 ml_L_40 mi_X7_sets im_X7_sets se_X7_sets hM rfl rfl h2 rfl (Nat.le_of_ble_eq_true rfl) hcs hsl rfl ?_
  intro r' A2 F2 h4
  obtain ⟨rfl, J2⟩ := hK2 r' A2 F2 h4
  refine fl_eq (st' := [vI z, vI z]) rfl rfl ?_
  exact fl_same (tgt := 920) C dL_law_343 rfl (next A2 F2 J2)
theorem lc_6 (C : fc_C X RL cL_law 4 1000 600000 7302250 nm) (SC : fl_S X b L xs) (l1 : fc_get ls 1 = some (vR 0)) (l2 : fc_get ls 2 = some (vR 143)) (l3 : fc_get ls 3 = some (vI i)) (i0 : 0 ≤ i) (i1 : i + 3 < (L : Int)) (hL : L ≤ 2048) (hcs : cs ≤ 600000) (hsl : sl ≤ 7302250) (t0 : 0 ≤ t) (t1 : t ≤ 100000) (J : j_I t A F) (next : ∀ (A2 : Nat → Int → Int) (F2 : Nat → Nat → Int), j_I (t + 1) A2 F2 → fl_W b X cs sl 159 (fc_H A2 F2) 920 ls []) : fl_W b X cs sl 159 (fc_H A F) 348 ls [] := by
  obtain ⟨dX, dM, PX, h1, h2, hX, hK⟩ := p_adds (x_R (xs (i + 1).toNat)) (x_R (xs (i + 2).toNat)) t A F t0 t1 J
  refine fl_aload_n (x := 0) C dL_law_348 rfl l1 ?_
  refine fl_arg C SC dL_law_349 dL_law_350 dL_law_351 dL_law_352 dL_law_353 l3 (by omega) (by omega) hL ?_
  refine fl_arg C SC dL_law_354 dL_law_355 dL_law_356 dL_law_357 dL_law_358 l3 (by omega) (by omega) hL ?_
  refine fl_callVE (y := mX6_adds) C dL_law_359 ml_L_41 mi_X6_adds im_X6_adds se_X6_adds hX rfl rfl h1 rfl (Nat.le_of_ble_eq_true rfl) hcs hsl rfl ?_
  intro r A1 F1 h3
  obtain ⟨z, rfl, PM, hM, hK2⟩ := hK r A1 F1 h3
  refine fl_eq (st' := [vI z]) rfl rfl ?_
  refine fl_aload_n (x := 143) C dL_law_362 rfl l2 ?_
  refine fl_arg C SC dL_law_363 dL_law_364 dL_law_365 dL_law_366 dL_law_367 l3 (by omega) (by omega) hL ?_
  refine fl_arg C SC dL_law_368 dL_law_369 dL_law_370 dL_law_371 dL_law_372 l3 (by omega) (by omega) hL ?_
  refine fl_callVE (y := mX7_adds) C dL_law_373 ml_L_44 mi_X7_adds im_X7_adds se_X7_adds hM rfl rfl h2 rfl (Nat.le_of_ble_eq_true rfl) hcs hsl rfl ?_
  intro r' A2 F2 h4
  obtain ⟨rfl, J2⟩ := hK2 r' A2 F2 h4
  refine fl_eq (st' := [vI z, vI z]) rfl rfl ?_
  exact fl_same (tgt := 920) C dL_law_376 rfl (next A2 F2 J2)
theorem lc_7 (C : fc_C X RL cL_law 4 1000 600000 7302250 nm) (SC : fl_S X b L xs) (l1 : fc_get ls 1 = some (vR 0)) (l2 : fc_get ls 2 = some (vR 143)) (l3 : fc_get ls 3 = some (vI i)) (i0 : 0 ≤ i) (i1 : i + 3 < (L : Int)) (hL : L ≤ 2048) (hcs : cs ≤ 600000) (hsl : sl ≤ 7302250) (t0 : 0 ≤ t) (t1 : t ≤ 100000) (J : j_I t A F) (next : ∀ (A2 : Nat → Int → Int) (F2 : Nat → Nat → Int), j_I (t + 1) A2 F2 → fl_W b X cs sl 159 (fc_H A2 F2) 920 ls []) : fl_W b X cs sl 159 (fc_H A F) 381 ls [] := by
  obtain ⟨dX, dM, PX, h1, h2, hX, hK⟩ := p_fires (x_R (xs (i + 1).toNat)) t A F t0 t1 J
  refine fl_aload_n (x := 0) C dL_law_381 rfl l1 ?_
  refine fl_arg C SC dL_law_382 dL_law_383 dL_law_384 dL_law_385 dL_law_386 l3 (by omega) (by omega) hL ?_
  refine fl_callVE (y := mX6_fires) C dL_law_387 ml_L_45 mi_X6_fires im_X6_fires se_X6_fires hX rfl rfl h1 rfl (Nat.le_of_ble_eq_true rfl) hcs hsl rfl ?_
  intro r A1 F1 h3
  obtain ⟨z, rfl, PM, hM, hK2⟩ := hK r A1 F1 h3
  refine fl_eq (st' := [vI z]) rfl rfl ?_
  refine fl_aload_n (x := 143) C dL_law_390 rfl l2 ?_
  refine fl_arg C SC dL_law_391 dL_law_392 dL_law_393 dL_law_394 dL_law_395 l3 (by omega) (by omega) hL ?_
  refine fl_callVE (y := mX7_fires) C dL_law_396 ml_L_48 mi_X7_fires im_X7_fires se_X7_fires hM rfl rfl h2 rfl (Nat.le_of_ble_eq_true rfl) hcs hsl rfl ?_
  intro r' A2 F2 h4
  obtain ⟨rfl, J2⟩ := hK2 r' A2 F2 h4
  refine fl_eq (st' := [vI z, vI z]) rfl rfl ?_
  exact fl_same (tgt := 920) C dL_law_399 rfl (next A2 F2 J2)
theorem lc_8 (C : fc_C X RL cL_law 4 1000 600000 7302250 nm) (SC : fl_S X b L xs) (l1 : fc_get ls 1 = some (vR 0)) (l2 : fc_get ls 2 = some (vR 143)) (l3 : fc_get ls 3 = some (vI i)) (i0 : 0 ≤ i) (i1 : i + 3 < (L : Int)) (hL : L ≤ 2048) (hcs : cs ≤ 600000) (hsl : sl ≤ 7302250) (t0 : 0 ≤ t) (t1 : t ≤ 100000) (J : j_I t A F) (next : ∀ (A2 : Nat → Int → Int) (F2 : Nat → Nat → Int), j_I (t + 1) A2 F2 → fl_W b X cs sl 159 (fc_H A2 F2) 920 ls []) : fl_W b X cs sl 159 (fc_H A F) 404 ls [] := by
  obtain ⟨dX, dM, PX, h1, h2, hX, hK⟩ := p_borrows (x_R (xs (i + 1).toNat)) t A F t0 t1 J
  refine fl_aload_n (x := 0) C dL_law_404 rfl l1 ?_
  refine fl_arg C SC dL_law_405 dL_law_406 dL_law_407 dL_law_408 dL_law_409 l3 (by omega) (by omega) hL ?_
  refine fl_callVE (y := mX6_borrows) C dL_law_410 ml_L_49 mi_X6_borrows im_X6_borrows se_X6_borrows hX rfl rfl h1 rfl (Nat.le_of_ble_eq_true rfl) hcs hsl rfl ?_
  intro r A1 F1 h3
  obtain ⟨z, rfl, PM, hM, hK2⟩ := hK r A1 F1 h3
  refine fl_eq (st' := [vI z]) rfl rfl ?_
  refine fl_aload_n (x := 143) C dL_law_413 rfl l2 ?_
  refine fl_arg C SC dL_law_414 dL_law_415 dL_law_416 dL_law_417 dL_law_418 l3 (by omega) (by omega) hL ?_
  refine fl_callVE (y := mX7_borrows) C dL_law_419 ml_L_52 mi_X7_borrows im_X7_borrows se_X7_borrows hM rfl rfl h2 rfl (Nat.le_of_ble_eq_true rfl) hcs hsl rfl ?_
  intro r' A2 F2 h4
  obtain ⟨rfl, J2⟩ := hK2 r' A2 F2 h4
  refine fl_eq (st' := [vI z, vI z]) rfl rfl ?_
  exact fl_same (tgt := 920) C dL_law_422 rfl (next A2 F2 J2)
theorem lc_9 (C : fc_C X RL cL_law 4 1000 600000 7302250 nm) (SC : fl_S X b L xs) (l1 : fc_get ls 1 = some (vR 0)) (l2 : fc_get ls 2 = some (vR 143)) (l3 : fc_get ls 3 = some (vI i)) (i0 : 0 ≤ i) (i1 : i + 3 < (L : Int)) (hL : L ≤ 2048) (hcs : cs ≤ 600000) (hsl : sl ≤ 7302250) (t0 : 0 ≤ t) (t1 : t ≤ 100000) (J : j_I t A F) (next : ∀ (A2 : Nat → Int → Int) (F2 : Nat → Nat → Int), j_I (t + 1) A2 F2 → fl_W b X cs sl 159 (fc_H A2 F2) 920 ls []) : fl_W b X cs sl 159 (fc_H A F) 427 ls [] := by
  obtain ⟨dX, dM, PX, h1, h2, hX, hK⟩ := p_together (x_R (xs (i + 1).toNat)) t A F t0 t1 J
  refine fl_aload_n (x := 0) C dL_law_427 rfl l1 ?_
  refine fl_arg C SC dL_law_428 dL_law_429 dL_law_430 dL_law_431 dL_law_432 l3 (by omega) (by omega) hL ?_
  refine fl_callVE (y := mX6_together) C dL_law_433 ml_L_53 mi_X6_together im_X6_together se_X6_together hX rfl rfl h1 rfl (Nat.le_of_ble_eq_true rfl) hcs hsl rfl ?_
  intro r A1 F1 h3
  obtain ⟨z, rfl, PM, hM, hK2⟩ := hK r A1 F1 h3
  refine fl_eq (st' := [vI z]) rfl rfl ?_
  refine fl_aload_n (x := 143) C dL_law_436 rfl l2 ?_
  refine fl_arg C SC dL_law_437 dL_law_438 dL_law_439 dL_law_440 dL_law_441 l3 (by omega) (by omega) hL ?_
  refine fl_callVE (y := mX7_together) C dL_law_442 ml_L_56 mi_X7_together im_X7_together se_X7_together hM rfl rfl h2 rfl (Nat.le_of_ble_eq_true rfl) hcs hsl rfl ?_
  intro r' A2 F2 h4
  obtain ⟨rfl, J2⟩ := hK2 r' A2 F2 h4
  refine fl_eq (st' := [vI z, vI z]) rfl rfl ?_
  exact fl_same (tgt := 920) C dL_law_445 rfl (next A2 F2 J2)
theorem lc_10 (C : fc_C X RL cL_law 4 1000 600000 7302250 nm) (SC : fl_S X b L xs) (l1 : fc_get ls 1 = some (vR 0)) (l2 : fc_get ls 2 = some (vR 143)) (l3 : fc_get ls 3 = some (vI i)) (i0 : 0 ≤ i) (i1 : i + 3 < (L : Int)) (hL : L ≤ 2048) (hcs : cs ≤ 600000) (hsl : sl ≤ 7302250) (t0 : 0 ≤ t) (t1 : t ≤ 100000) (J : j_I t A F) (next : ∀ (A2 : Nat → Int → Int) (F2 : Nat → Nat → Int), j_I (t + 1) A2 F2 → fl_W b X cs sl 159 (fc_H A2 F2) 920 ls []) : fl_W b X cs sl 159 (fc_H A F) 450 ls [] := by
  obtain ⟨dX, dM, PX, h1, h2, hX, hK⟩ := p_settles t A F t0 t1 J
  refine fl_aload_n (x := 0) C dL_law_450 rfl l1 ?_
  refine fl_callVE (y := mX6_settles) C dL_law_451 ml_L_57 mi_X6_settles im_X6_settles se_X6_settles hX rfl rfl h1 rfl (Nat.le_of_ble_eq_true rfl) hcs hsl rfl ?_
  intro r A1 F1 h3
  obtain ⟨z, rfl, PM, hM, hK2⟩ := hK r A1 F1 h3
  refine fl_eq (st' := [vI z]) rfl rfl ?_
  refine fl_aload_n (x := 143) C dL_law_454 rfl l2 ?_
  refine fl_callVE (y := mX7_settles) C dL_law_455 ml_L_60 mi_X7_settles im_X7_settles se_X7_settles hM rfl rfl h2 rfl (Nat.le_of_ble_eq_true rfl) hcs hsl rfl ?_
  intro r' A2 F2 h4
  obtain ⟨rfl, J2⟩ := hK2 r' A2 F2 h4
  refine fl_eq (st' := [vI z, vI z]) rfl rfl ?_
  exact fl_same (tgt := 920) C dL_law_458 rfl (next A2 F2 J2)
theorem lc_11 (C : fc_C X RL cL_law 4 1000 600000 7302250 nm) (SC : fl_S X b L xs) (l1 : fc_get ls 1 = some (vR 0)) (l2 : fc_get ls 2 = some (vR 143)) (l3 : fc_get ls 3 = some (vI i)) (i0 : 0 ≤ i) (i1 : i + 3 < (L : Int)) (hL : L ≤ 2048) (hcs : cs ≤ 600000) (hsl : sl ≤ 7302250) (t0 : 0 ≤ t) (t1 : t ≤ 100000) (J : j_I t A F) (next : ∀ (A2 : Nat → Int → Int) (F2 : Nat → Nat → Int), j_I (t + 1) A2 F2 → fl_W b X cs sl 159 (fc_H A2 F2) 920 ls []) : fl_W b X cs sl 159 (fc_H A F) 463 ls [] := by
  obtain ⟨dX, dM, PX, h1, h2, hX, hK⟩ := p_script (x_R (xs (i + 1).toNat)) t A F t0 t1 J
  refine fl_aload_n (x := 0) C dL_law_463 rfl l1 ?_
  refine fl_arg C SC dL_law_464 dL_law_465 dL_law_466 dL_law_467 dL_law_468 l3 (by omega) (by omega) hL ?_
  refine fl_callVE (y := mX6_script) C dL_law_469 ml_L_61 mi_X6_script im_X6_script se_X6_script hX rfl rfl h1 rfl (Nat.le_of_ble_eq_true rfl) hcs hsl rfl ?_
  intro r A1 F1 h3
  obtain ⟨z, rfl, PM, hM, hK2⟩ := hK r A1 F1 h3
  refine fl_eq (st' := [vI z]) rfl rfl ?_
  refine fl_aload_n (x := 143) C dL_law_472 rfl l2 ?_
  refine fl_arg C SC dL_law_473 dL_law_474 dL_law_475 dL_law_476 dL_law_477 l3 (by omega) (by omega) hL ?_
  refine fl_callVE (y := mX7_script) C dL_law_478 ml_L_64 mi_X7_script im_X7_script se_X7_script hM rfl rfl h2 rfl (Nat.le_of_ble_eq_true rfl) hcs hsl rfl ?_
  intro r' A2 F2 h4
  obtain ⟨rfl, J2⟩ := hK2 r' A2 F2 h4
  refine fl_eq (st' := [vI z, vI z]) rfl rfl ?_
  exact fl_same (tgt := 920) C dL_law_481 rfl (next A2 F2 J2)
theorem lc_12 (C : fc_C X RL cL_law 4 1000 600000 7302250 nm) (SC : fl_S X b L xs) (l1 : fc_get ls 1 = some (vR 0)) (l2 : fc_get ls 2 = some (vR 143)) (l3 : fc_get ls 3 = some (vI i)) (i0 : 0 ≤ i) (i1 : i + 3 < (L : Int)) (hL : L ≤ 2048) (hcs : cs ≤ 600000) (hsl : sl ≤ 7302250) (t0 : 0 ≤ t) (t1 : t ≤ 100000) (J : j_I t A F) (next : ∀ (A2 : Nat → Int → Int) (F2 : Nat → Nat → Int), j_I (t + 1) A2 F2 → fl_W b X cs sl 159 (fc_H A2 F2) 920 ls []) : fl_W b X cs sl 159 (fc_H A F) 486 ls [] := by
  obtain ⟨dX, dM, PX, h1, h2, hX, hK⟩ := p_of (x_R (xs (i + 1).toNat)) (x_R (xs (i + 2).toNat)) t A F t0 t1 J
  refine fl_aload_n (x := 0) C dL_law_486 rfl l1 ?_
  refine fl_arg C SC dL_law_487 dL_law_488 dL_law_489 dL_law_490 dL_law_491 l3 (by omega) (by omega) hL ?_
  refine fl_arg C SC dL_law_492 dL_law_493 dL_law_494 dL_law_495 dL_law_496 l3 (by omega) (by omega) hL ?_
  refine fl_callVE (y := mX6_of) C dL_law_497 ml_L_65 mi_X6_of im_X6_of se_X6_of hX rfl rfl h1 rfl (Nat.le_of_ble_eq_true rfl) hcs hsl rfl ?_
  intro r A1 F1 h3
  obtain ⟨z, rfl, PM, hM, hK2⟩ := hK r A1 F1 h3
  refine fl_eq (st' := [vI z]) rfl rfl ?_
  refine fl_aload_n (x := 143) C dL_law_500 rfl l2 ?_
  refine fl_arg C SC dL_law_501 dL_law_502 dL_law_503 dL_law_504 dL_law_505 l3 (by omega) (by omega) hL ?_
  refine fl_arg C SC dL_law_506 dL_law_507 dL_law_508 dL_law_509 dL_law_510 l3 (by omega) (by omega) hL ?_
  refine fl_callVE (y := mX7_of) C dL_law_511 ml_L_68 mi_X7_of im_X7_of se_X7_of hM rfl rfl h2 rfl (Nat.le_of_ble_eq_true rfl) hcs hsl rfl ?_
  intro r' A2 F2 h4
  obtain ⟨rfl, J2⟩ := hK2 r' A2 F2 h4
  refine fl_eq (st' := [vI z, vI z]) rfl rfl ?_
  exact fl_same (tgt := 920) C dL_law_514 rfl (next A2 F2 J2)
theorem lc_13 (C : fc_C X RL cL_law 4 1000 600000 7302250 nm) (SC : fl_S X b L xs) (l1 : fc_get ls 1 = some (vR 0)) (l2 : fc_get ls 2 = some (vR 143)) (l3 : fc_get ls 3 = some (vI i)) (i0 : 0 ≤ i) (i1 : i + 3 < (L : Int)) (hL : L ≤ 2048) (hcs : cs ≤ 600000) (hsl : sl ≤ 7302250) (t0 : 0 ≤ t) (t1 : t ≤ 100000) (J : j_I t A F) (next : ∀ (A2 : Nat → Int → Int) (F2 : Nat → Nat → Int), j_I (t + 1) A2 F2 → fl_W b X cs sl 159 (fc_H A2 F2) 920 ls []) : fl_W b X cs sl 159 (fc_H A F) 519 ls [] := by
  obtain ⟨dX, dM, PX, h1, h2, hX, hK⟩ := p_stable t A F t0 t1 J
  refine fl_aload_n (x := 0) C dL_law_519 rfl l1 ?_
  refine fl_callVE (y := mX6_stable) C dL_law_520 ml_L_69 mi_X6_stable im_X6_stable se_X6_stable hX rfl rfl h1 rfl (Nat.le_of_ble_eq_true rfl) hcs hsl rfl ?_
  intro r A1 F1 h3
  obtain ⟨z, rfl, PM, hM, hK2⟩ := hK r A1 F1 h3
  refine fl_eq (st' := [vI z]) rfl rfl ?_
  refine fl_aload_n (x := 143) C dL_law_523 rfl l2 ?_
  refine fl_callVE (y := mX7_stable) C dL_law_524 ml_L_72 mi_X7_stable im_X7_stable se_X7_stable hM rfl rfl h2 rfl (Nat.le_of_ble_eq_true rfl) hcs hsl rfl ?_
  intro r' A2 F2 h4
  obtain ⟨rfl, J2⟩ := hK2 r' A2 F2 h4
  refine fl_eq (st' := [vI z, vI z]) rfl rfl ?_
  exact fl_same (tgt := 920) C dL_law_527 rfl (next A2 F2 J2)
theorem lc_14 (C : fc_C X RL cL_law 4 1000 600000 7302250 nm) (SC : fl_S X b L xs) (l1 : fc_get ls 1 = some (vR 0)) (l2 : fc_get ls 2 = some (vR 143)) (l3 : fc_get ls 3 = some (vI i)) (i0 : 0 ≤ i) (i1 : i + 3 < (L : Int)) (hL : L ≤ 2048) (hcs : cs ≤ 600000) (hsl : sl ≤ 7302250) (t0 : 0 ≤ t) (t1 : t ≤ 100000) (J : j_I t A F) (next : ∀ (A2 : Nat → Int → Int) (F2 : Nat → Nat → Int), j_I (t + 1) A2 F2 → fl_W b X cs sl 159 (fc_H A2 F2) 920 ls []) : fl_W b X cs sl 159 (fc_H A F) 532 ls [] := by
  obtain ⟨dX, dM, PX, h1, h2, hX, hK⟩ := p_burns (x_R (xs (i + 1).toNat)) t A F t0 t1 J
  refine fl_aload_n (x := 0) C dL_law_532 rfl l1 ?_
  refine fl_arg C SC dL_law_533 dL_law_534 dL_law_535 dL_law_536 dL_law_537 l3 (by omega) (by omega) hL ?_
  refine fl_callVE (y := mX6_burns) C dL_law_538 ml_L_73 mi_X6_burns im_X6_burns se_X6_burns hX rfl rfl h1 rfl (Nat.le_of_ble_eq_true rfl) hcs hsl rfl ?_
  intro r A1 F1 h3
  obtain ⟨z, rfl, PM, hM, hK2⟩ := hK r A1 F1 h3
  refine fl_eq (st' := [vI z]) rfl rfl ?_
  refine fl_aload_n (x := 143) C dL_law_541 rfl l2 ?_
  refine fl_arg C SC dL_law_542 dL_law_543 dL_law_544 dL_law_545 dL_law_546 l3 (by omega) (by omega) hL ?_
  refine fl_callVE (y := mX7_burns) C dL_law_547 ml_L_76 mi_X7_burns im_X7_burns se_X7_burns hM rfl rfl h2 rfl (Nat.le_of_ble_eq_true rfl) hcs hsl rfl ?_
  intro r' A2 F2 h4
  obtain ⟨rfl, J2⟩ := hK2 r' A2 F2 h4
  refine fl_eq (st' := [vI z, vI z]) rfl rfl ?_
  exact fl_same (tgt := 920) C dL_law_550 rfl (next A2 F2 J2)
theorem lc_15 (C : fc_C X RL cL_law 4 1000 600000 7302250 nm) (SC : fl_S X b L xs) (l1 : fc_get ls 1 = some (vR 0)) (l2 : fc_get ls 2 = some (vR 143)) (l3 : fc_get ls 3 = some (vI i)) (i0 : 0 ≤ i) (i1 : i + 3 < (L : Int)) (hL : L ≤ 2048) (hcs : cs ≤ 600000) (hsl : sl ≤ 7302250) (t0 : 0 ≤ t) (t1 : t ≤ 100000) (J : j_I t A F) (next : ∀ (A2 : Nat → Int → Int) (F2 : Nat → Nat → Int), j_I (t + 1) A2 F2 → fl_W b X cs sl 159 (fc_H A2 F2) 920 ls []) : fl_W b X cs sl 159 (fc_H A F) 555 ls [] := by
  obtain ⟨dX, dM, PX, h1, h2, hX, hK⟩ := p_trees t A F t0 t1 J
  refine fl_aload_n (x := 0) C dL_law_555 rfl l1 ?_
  refine fl_callVE (y := mX6_trees) C dL_law_556 ml_L_77 mi_X6_trees im_X6_trees se_X6_trees hX rfl rfl h1 rfl (Nat.le_of_ble_eq_true rfl) hcs hsl rfl ?_
  intro r A1 F1 h3
  obtain ⟨z, rfl, PM, hM, hK2⟩ := hK r A1 F1 h3
  refine fl_eq (st' := [vI z]) rfl rfl ?_
  refine fl_aload_n (x := 143) C dL_law_559 rfl l2 ?_
  refine fl_callVE (y := mX7_trees) C dL_law_560 ml_L_80 mi_X7_trees im_X7_trees se_X7_trees hM rfl rfl h2 rfl (Nat.le_of_ble_eq_true rfl) hcs hsl rfl ?_
  intro r' A2 F2 h4
  obtain ⟨rfl, J2⟩ := hK2 r' A2 F2 h4
  refine fl_eq (st' := [vI z, vI z]) rfl rfl ?_
  exact fl_same (tgt := 920) C dL_law_563 rfl (next A2 F2 J2)
theorem lc_16 (C : fc_C X RL cL_law 4 1000 600000 7302250 nm) (SC : fl_S X b L xs) (l1 : fc_get ls 1 = some (vR 0)) (l2 : fc_get ls 2 = some (vR 143)) (l3 : fc_get ls 3 = some (vI i)) (i0 : 0 ≤ i) (i1 : i + 3 < (L : Int)) (hL : L ≤ 2048) (hcs : cs ≤ 600000) (hsl : sl ≤ 7302250) (t0 : 0 ≤ t) (t1 : t ≤ 100000) (J : j_I t A F) (next : ∀ (A2 : Nat → Int → Int) (F2 : Nat → Nat → Int), j_I (t + 1) A2 F2 → fl_W b X cs sl 159 (fc_H A2 F2) 920 ls []) : fl_W b X cs sl 159 (fc_H A F) 568 ls [] := by
  obtain ⟨dX, dM, PX, h1, h2, hX, hK⟩ := p_parts (x_R (xs (i + 1).toNat)) t A F t0 t1 J
  refine fl_aload_n (x := 0) C dL_law_568 rfl l1 ?_
  refine fl_arg C SC dL_law_569 dL_law_570 dL_law_571 dL_law_572 dL_law_573 l3 (by omega) (by omega) hL ?_
  refine fl_callVE (y := mX6_parts) C dL_law_574 ml_L_81 mi_X6_parts im_X6_parts se_X6_parts hX rfl rfl h1 rfl (Nat.le_of_ble_eq_true rfl) hcs hsl rfl ?_
  intro r A1 F1 h3
  obtain ⟨z, rfl, PM, hM, hK2⟩ := hK r A1 F1 h3
  refine fl_eq (st' := [vI z]) rfl rfl ?_
  refine fl_aload_n (x := 143) C dL_law_577 rfl l2 ?_
  refine fl_arg C SC dL_law_578 dL_law_579 dL_law_580 dL_law_581 dL_law_582 l3 (by omega) (by omega) hL ?_
  refine fl_callVE (y := mX7_parts) C dL_law_583 ml_L_84 mi_X7_parts im_X7_parts se_X7_parts hM rfl rfl h2 rfl (Nat.le_of_ble_eq_true rfl) hcs hsl rfl ?_
  intro r' A2 F2 h4
  obtain ⟨rfl, J2⟩ := hK2 r' A2 F2 h4
  refine fl_eq (st' := [vI z, vI z]) rfl rfl ?_
  exact fl_same (tgt := 920) C dL_law_586 rfl (next A2 F2 J2)
theorem lc_17 (C : fc_C X RL cL_law 4 1000 600000 7302250 nm) (SC : fl_S X b L xs) (l1 : fc_get ls 1 = some (vR 0)) (l2 : fc_get ls 2 = some (vR 143)) (l3 : fc_get ls 3 = some (vI i)) (i0 : 0 ≤ i) (i1 : i + 3 < (L : Int)) (hL : L ≤ 2048) (hcs : cs ≤ 600000) (hsl : sl ≤ 7302250) (t0 : 0 ≤ t) (t1 : t ≤ 100000) (J : j_I t A F) (next : ∀ (A2 : Nat → Int → Int) (F2 : Nat → Nat → Int), j_I (t + 1) A2 F2 → fl_W b X cs sl 159 (fc_H A2 F2) 920 ls []) : fl_W b X cs sl 159 (fc_H A F) 591 ls [] := by
  obtain ⟨dX, dM, PX, h1, h2, hX, hK⟩ := p_identity (x_R (xs (i + 1).toNat)) t A F t0 t1 J
  refine fl_aload_n (x := 0) C dL_law_591 rfl l1 ?_
  refine fl_arg C SC dL_law_592 dL_law_593 dL_law_594 dL_law_595 dL_law_596 l3 (by omega) (by omega) hL ?_
  refine fl_callVE (y := mX6_identity) C dL_law_597 ml_L_85 mi_X6_identity im_X6_identity se_X6_identity hX rfl rfl h1 rfl (Nat.le_of_ble_eq_true rfl) hcs hsl rfl ?_
  intro r A1 F1 h3
  obtain ⟨z, rfl, PM, hM, hK2⟩ := hK r A1 F1 h3
  refine fl_eq (st' := [vI z]) rfl rfl ?_
  refine fl_aload_n (x := 143) C dL_law_600 rfl l2 ?_
  refine fl_arg C SC dL_law_601 dL_law_602 dL_law_603 dL_law_604 dL_law_605 l3 (by omega) (by omega) hL ?_
  refine fl_callVE (y := mX7_identity) C dL_law_606 ml_L_88 mi_X7_identity im_X7_identity se_X7_identity hM rfl rfl h2 rfl (Nat.le_of_ble_eq_true rfl) hcs hsl rfl ?_
  intro r' A2 F2 h4
  obtain ⟨rfl, J2⟩ := hK2 r' A2 F2 h4
  refine fl_eq (st' := [vI z, vI z]) rfl rfl ?_
  exact fl_same (tgt := 920) C dL_law_609 rfl (next A2 F2 J2)
theorem lc_18 (C : fc_C X RL cL_law 4 1000 600000 7302250 nm) (SC : fl_S X b L xs) (l1 : fc_get ls 1 = some (vR 0)) (l2 : fc_get ls 2 = some (vR 143)) (l3 : fc_get ls 3 = some (vI i)) (i0 : 0 ≤ i) (i1 : i + 3 < (L : Int)) (hL : L ≤ 2048) (hcs : cs ≤ 600000) (hsl : sl ≤ 7302250) (t0 : 0 ≤ t) (t1 : t ≤ 100000) (J : j_I t A F) (next : ∀ (A2 : Nat → Int → Int) (F2 : Nat → Nat → Int), j_I (t + 1) A2 F2 → fl_W b X cs sl 159 (fc_H A2 F2) 920 ls []) : fl_W b X cs sl 159 (fc_H A F) 614 ls [] := by
  obtain ⟨dX, dM, PX, h1, h2, hX, hK⟩ := p_recurrent (x_R (xs (i + 1).toNat)) t A F t0 t1 J
  refine fl_aload_n (x := 0) C dL_law_614 rfl l1 ?_
  refine fl_arg C SC dL_law_615 dL_law_616 dL_law_617 dL_law_618 dL_law_619 l3 (by omega) (by omega) hL ?_
  refine fl_callVE (y := mX6_recurrent) C dL_law_620 ml_L_89 mi_X6_recurrent im_X6_recurrent se_X6_recurrent hX rfl rfl h1 rfl (Nat.le_of_ble_eq_true rfl) hcs hsl rfl ?_
  intro r A1 F1 h3
  obtain ⟨z, rfl, PM, hM, hK2⟩ := hK r A1 F1 h3
  refine fl_eq (st' := [vI z]) rfl rfl ?_
  refine fl_aload_n (x := 143) C dL_law_623 rfl l2 ?_
  refine fl_arg C SC dL_law_624 dL_law_625 dL_law_626 dL_law_627 dL_law_628 l3 (by omega) (by omega) hL ?_
  refine fl_callVE (y := mX7_recurrent) C dL_law_629 ml_L_92 mi_X7_recurrent im_X7_recurrent se_X7_recurrent hM rfl rfl h2 rfl (Nat.le_of_ble_eq_true rfl) hcs hsl rfl ?_
  intro r' A2 F2 h4
  obtain ⟨rfl, J2⟩ := hK2 r' A2 F2 h4
  refine fl_eq (st' := [vI z, vI z]) rfl rfl ?_
  exact fl_same (tgt := 920) C dL_law_632 rfl (next A2 F2 J2)
theorem lc_19 (C : fc_C X RL cL_law 4 1000 600000 7302250 nm) (SC : fl_S X b L xs) (l1 : fc_get ls 1 = some (vR 0)) (l2 : fc_get ls 2 = some (vR 143)) (l3 : fc_get ls 3 = some (vI i)) (i0 : 0 ≤ i) (i1 : i + 3 < (L : Int)) (hL : L ≤ 2048) (hcs : cs ≤ 600000) (hsl : sl ≤ 7302250) (t0 : 0 ≤ t) (t1 : t ≤ 100000) (J : j_I t A F) (next : ∀ (A2 : Nat → Int → Int) (F2 : Nat → Nat → Int), j_I (t + 1) A2 F2 → fl_W b X cs sl 159 (fc_H A2 F2) 920 ls []) : fl_W b X cs sl 159 (fc_H A F) 637 ls [] := by
  obtain ⟨dX, dM, PX, h1, h2, hX, hK⟩ := p_order t A F t0 t1 J
  refine fl_aload_n (x := 0) C dL_law_637 rfl l1 ?_
  refine fl_callVE (y := mX6_order) C dL_law_638 ml_L_93 mi_X6_order im_X6_order se_X6_order hX rfl rfl h1 rfl (Nat.le_of_ble_eq_true rfl) hcs hsl rfl ?_
  intro r A1 F1 h3
  obtain ⟨z, rfl, PM, hM, hK2⟩ := hK r A1 F1 h3
  refine fl_eq (st' := [vI z]) rfl rfl ?_
  refine fl_aload_n (x := 143) C dL_law_641 rfl l2 ?_
  refine fl_callVE (y := mX7_order) C dL_law_642 ml_L_96 mi_X7_order im_X7_order se_X7_order hM rfl rfl h2 rfl (Nat.le_of_ble_eq_true rfl) hcs hsl rfl ?_
  intro r' A2 F2 h4
  obtain ⟨rfl, J2⟩ := hK2 r' A2 F2 h4
  refine fl_eq (st' := [vI z, vI z]) rfl rfl ?_
  exact fl_same (tgt := 920) C dL_law_645 rfl (next A2 F2 J2)
theorem lc_20 (C : fc_C X RL cL_law 4 1000 600000 7302250 nm) (SC : fl_S X b L xs) (l1 : fc_get ls 1 = some (vR 0)) (l2 : fc_get ls 2 = some (vR 143)) (l3 : fc_get ls 3 = some (vI i)) (i0 : 0 ≤ i) (i1 : i + 3 < (L : Int)) (hL : L ≤ 2048) (hcs : cs ≤ 600000) (hsl : sl ≤ 7302250) (t0 : 0 ≤ t) (t1 : t ≤ 100000) (J : j_I t A F) (next : ∀ (A2 : Nat → Int → Int) (F2 : Nat → Nat → Int), j_I (t + 1) A2 F2 → fl_W b X cs sl 159 (fc_H A2 F2) 920 ls []) : fl_W b X cs sl 159 (fc_H A F) 650 ls [] := by
  obtain ⟨dX, dM, PX, h1, h2, hX, hK⟩ := p_heaps (x_R (xs (i + 1).toNat)) t A F t0 t1 J
  refine fl_aload_n (x := 0) C dL_law_650 rfl l1 ?_
  refine fl_arg C SC dL_law_651 dL_law_652 dL_law_653 dL_law_654 dL_law_655 l3 (by omega) (by omega) hL ?_
  refine fl_callVE (y := mX6_heaps) C dL_law_656 ml_L_97 mi_X6_heaps im_X6_heaps se_X6_heaps hX rfl rfl h1 rfl (Nat.le_of_ble_eq_true rfl) hcs hsl rfl ?_
  intro r A1 F1 h3
  obtain ⟨z, rfl, PM, hM, hK2⟩ := hK r A1 F1 h3
  refine fl_eq (st' := [vI z]) rfl rfl ?_
  refine fl_aload_n (x := 143) C dL_law_659 rfl l2 ?_
  refine fl_arg C SC dL_law_660 dL_law_661 dL_law_662 dL_law_663 dL_law_664 l3 (by omega) (by omega) hL ?_
  refine fl_callVE (y := mX7_heaps) C dL_law_665 ml_L_100 mi_X7_heaps im_X7_heaps se_X7_heaps hM rfl rfl h2 rfl (Nat.le_of_ble_eq_true rfl) hcs hsl rfl ?_
  intro r' A2 F2 h4
  obtain ⟨rfl, J2⟩ := hK2 r' A2 F2 h4
  refine fl_eq (st' := [vI z, vI z]) rfl rfl ?_
  exact fl_same (tgt := 920) C dL_law_668 rfl (next A2 F2 J2)
theorem lc_21 (C : fc_C X RL cL_law 4 1000 600000 7302250 nm) (SC : fl_S X b L xs) (l1 : fc_get ls 1 = some (vR 0)) (l2 : fc_get ls 2 = some (vR 143)) (l3 : fc_get ls 3 = some (vI i)) (i0 : 0 ≤ i) (i1 : i + 3 < (L : Int)) (hL : L ≤ 2048) (hcs : cs ≤ 600000) (hsl : sl ≤ 7302250) (t0 : 0 ≤ t) (t1 : t ≤ 100000) (J : j_I t A F) (next : ∀ (A2 : Nat → Int → Int) (F2 : Nat → Nat → Int), j_I (t + 1) A2 F2 → fl_W b X cs sl 159 (fc_H A2 F2) 920 ls []) : fl_W b X cs sl 159 (fc_H A F) 673 ls [] := by
  obtain ⟨dX, dM, PX, h1, h2, hX, hK⟩ := p_rank (x_R (xs (i + 1).toNat)) t A F t0 t1 J
  refine fl_aload_n (x := 0) C dL_law_673 rfl l1 ?_
  refine fl_arg C SC dL_law_674 dL_law_675 dL_law_676 dL_law_677 dL_law_678 l3 (by omega) (by omega) hL ?_
  refine fl_callVE (y := mX6_rank) C dL_law_679 ml_L_101 mi_X6_rank im_X6_rank se_X6_rank hX rfl rfl h1 rfl (Nat.le_of_ble_eq_true rfl) hcs hsl rfl ?_
  intro r A1 F1 h3
  obtain ⟨z, rfl, PM, hM, hK2⟩ := hK r A1 F1 h3
  refine fl_eq (st' := [vI z]) rfl rfl ?_
  refine fl_aload_n (x := 143) C dL_law_682 rfl l2 ?_
  refine fl_arg C SC dL_law_683 dL_law_684 dL_law_685 dL_law_686 dL_law_687 l3 (by omega) (by omega) hL ?_
  refine fl_callVE (y := mX7_rank) C dL_law_688 ml_L_104 mi_X7_rank im_X7_rank se_X7_rank hM rfl rfl h2 rfl (Nat.le_of_ble_eq_true rfl) hcs hsl rfl ?_
  intro r' A2 F2 h4
  obtain ⟨rfl, J2⟩ := hK2 r' A2 F2 h4
  refine fl_eq (st' := [vI z, vI z]) rfl rfl ?_
  exact fl_same (tgt := 920) C dL_law_691 rfl (next A2 F2 J2)
theorem lc_22 (C : fc_C X RL cL_law 4 1000 600000 7302250 nm) (SC : fl_S X b L xs) (l1 : fc_get ls 1 = some (vR 0)) (l2 : fc_get ls 2 = some (vR 143)) (l3 : fc_get ls 3 = some (vI i)) (i0 : 0 ≤ i) (i1 : i + 3 < (L : Int)) (hL : L ≤ 2048) (hcs : cs ≤ 600000) (hsl : sl ≤ 7302250) (t0 : 0 ≤ t) (t1 : t ≤ 100000) (J : j_I t A F) (next : ∀ (A2 : Nat → Int → Int) (F2 : Nat → Nat → Int), j_I (t + 1) A2 F2 → fl_W b X cs sl 159 (fc_H A2 F2) 920 ls []) : fl_W b X cs sl 159 (fc_H A F) 696 ls [] := by
  obtain ⟨dX, dM, PX, h1, h2, hX, hK⟩ := p_reduced (x_R (xs (i + 1).toNat)) (x_R (xs (i + 2).toNat)) t A F t0 t1 J
  refine fl_aload_n (x := 0) C dL_law_696 rfl l1 ?_
  refine fl_arg C SC dL_law_697 dL_law_698 dL_law_699 dL_law_700 dL_law_701 l3 (by omega) (by omega) hL ?_
  refine fl_arg C SC dL_law_702 dL_law_703 dL_law_704 dL_law_705 dL_law_706 l3 (by omega) (by omega) hL ?_
  refine fl_callVE (y := mX6_reduced) C dL_law_707 ml_L_105 mi_X6_reduced im_X6_reduced se_X6_reduced hX rfl rfl h1 rfl (Nat.le_of_ble_eq_true rfl) hcs hsl rfl ?_
  intro r A1 F1 h3
  obtain ⟨z, rfl, PM, hM, hK2⟩ := hK r A1 F1 h3
  refine fl_eq (st' := [vI z]) rfl rfl ?_
  refine fl_aload_n (x := 143) C dL_law_710 rfl l2 ?_
  refine fl_arg C SC dL_law_711 dL_law_712 dL_law_713 dL_law_714 dL_law_715 l3 (by omega) (by omega) hL ?_
  refine fl_arg C SC dL_law_716 dL_law_717 dL_law_718 dL_law_719 dL_law_720 l3 (by omega) (by omega) hL ?_
  refine fl_callVE (y := mX7_reduced) C dL_law_721 ml_L_108 mi_X7_reduced im_X7_reduced se_X7_reduced hM rfl rfl h2 rfl (Nat.le_of_ble_eq_true rfl) hcs hsl rfl ?_
  intro r' A2 F2 h4
  obtain ⟨rfl, J2⟩ := hK2 r' A2 F2 h4
  refine fl_eq (st' := [vI z, vI z]) rfl rfl ?_
  exact fl_same (tgt := 920) C dL_law_724 rfl (next A2 F2 J2)
theorem lc_23 (C : fc_C X RL cL_law 4 1000 600000 7302250 nm) (SC : fl_S X b L xs) (l1 : fc_get ls 1 = some (vR 0)) (l2 : fc_get ls 2 = some (vR 143)) (l3 : fc_get ls 3 = some (vI i)) (i0 : 0 ≤ i) (i1 : i + 3 < (L : Int)) (hL : L ≤ 2048) (hcs : cs ≤ 600000) (hsl : sl ≤ 7302250) (t0 : 0 ≤ t) (t1 : t ≤ 100000) (J : j_I t A F) (next : ∀ (A2 : Nat → Int → Int) (F2 : Nat → Nat → Int), j_I (t + 1) A2 F2 → fl_W b X cs sl 159 (fc_H A2 F2) 920 ls []) : fl_W b X cs sl 159 (fc_H A F) 729 ls [] := by
  obtain ⟨dX, dM, PX, h1, h2, hX, hK⟩ := p_won t A F t0 t1 J
  refine fl_aload_n (x := 0) C dL_law_729 rfl l1 ?_
  refine fl_callVE (y := mX6_won) C dL_law_730 ml_L_109 mi_X6_won im_X6_won se_X6_won hX rfl rfl h1 rfl (Nat.le_of_ble_eq_true rfl) hcs hsl rfl ?_
  intro r A1 F1 h3
  obtain ⟨z, rfl, PM, hM, hK2⟩ := hK r A1 F1 h3
  refine fl_eq (st' := [vI z]) rfl rfl ?_
  refine fl_aload_n (x := 143) C dL_law_733 rfl l2 ?_
  refine fl_callVE (y := mX7_won) C dL_law_734 ml_L_112 mi_X7_won im_X7_won se_X7_won hM rfl rfl h2 rfl (Nat.le_of_ble_eq_true rfl) hcs hsl rfl ?_
  intro r' A2 F2 h4
  obtain ⟨rfl, J2⟩ := hK2 r' A2 F2 h4
  refine fl_eq (st' := [vI z, vI z]) rfl rfl ?_
  exact fl_same (tgt := 920) C dL_law_737 rfl (next A2 F2 J2)
theorem lc_24 (C : fc_C X RL cL_law 4 1000 600000 7302250 nm) (SC : fl_S X b L xs) (l1 : fc_get ls 1 = some (vR 0)) (l2 : fc_get ls 2 = some (vR 143)) (l3 : fc_get ls 3 = some (vI i)) (i0 : 0 ≤ i) (i1 : i + 3 < (L : Int)) (hL : L ≤ 2048) (hcs : cs ≤ 600000) (hsl : sl ≤ 7302250) (t0 : 0 ≤ t) (t1 : t ≤ 100000) (J : j_I t A F) (next : ∀ (A2 : Nat → Int → Int) (F2 : Nat → Nat → Int), j_I (t + 1) A2 F2 → fl_W b X cs sl 159 (fc_H A2 F2) 920 ls []) : fl_W b X cs sl 159 (fc_H A F) 742 ls [] := by
  obtain ⟨dX, dM, PX, h1, h2, hX, hK⟩ := p_keeps (x_R (xs (i + 1).toNat)) t A F t0 t1 J
  refine fl_aload_n (x := 0) C dL_law_742 rfl l1 ?_
  refine fl_arg C SC dL_law_743 dL_law_744 dL_law_745 dL_law_746 dL_law_747 l3 (by omega) (by omega) hL ?_
  refine fl_callVE (y := mX6_keeps) C dL_law_748 ml_L_113 mi_X6_keeps im_X6_keeps se_X6_keeps hX rfl rfl h1 rfl (Nat.le_of_ble_eq_true rfl) hcs hsl rfl ?_
  intro r A1 F1 h3
  obtain ⟨z, rfl, PM, hM, hK2⟩ := hK r A1 F1 h3
  refine fl_eq (st' := [vI z]) rfl rfl ?_
  refine fl_aload_n (x := 143) C dL_law_751 rfl l2 ?_
  refine fl_arg C SC dL_law_752 dL_law_753 dL_law_754 dL_law_755 dL_law_756 l3 (by omega) (by omega) hL ?_
  refine fl_callVE (y := mX7_keeps) C dL_law_757 ml_L_116 mi_X7_keeps im_X7_keeps se_X7_keeps hM rfl rfl h2 rfl (Nat.le_of_ble_eq_true rfl) hcs hsl rfl ?_
  intro r' A2 F2 h4
  obtain ⟨rfl, J2⟩ := hK2 r' A2 F2 h4
  refine fl_eq (st' := [vI z, vI z]) rfl rfl ?_
  exact fl_same (tgt := 920) C dL_law_760 rfl (next A2 F2 J2)
theorem lc_25 (C : fc_C X RL cL_law 4 1000 600000 7302250 nm) (SC : fl_S X b L xs) (l1 : fc_get ls 1 = some (vR 0)) (l2 : fc_get ls 2 = some (vR 143)) (l3 : fc_get ls 3 = some (vI i)) (i0 : 0 ≤ i) (i1 : i + 3 < (L : Int)) (hL : L ≤ 2048) (hcs : cs ≤ 600000) (hsl : sl ≤ 7302250) (t0 : 0 ≤ t) (t1 : t ≤ 100000) (J : j_I t A F) (next : ∀ (A2 : Nat → Int → Int) (F2 : Nat → Nat → Int), j_I (t + 1) A2 F2 → fl_W b X cs sl 159 (fc_H A2 F2) 920 ls []) : fl_W b X cs sl 159 (fc_H A F) 765 ls [] := by
  obtain ⟨dX, dM, PX, h1, h2, hX, hK⟩ := p_equal (x_R (xs (i + 1).toNat)) t A F t0 t1 J
  refine fl_aload_n (x := 0) C dL_law_765 rfl l1 ?_
  refine fl_arg C SC dL_law_766 dL_law_767 dL_law_768 dL_law_769 dL_law_770 l3 (by omega) (by omega) hL ?_
  refine fl_callVE (y := mX6_equal) C dL_law_771 ml_L_117 mi_X6_equal im_X6_equal se_X6_equal hX rfl rfl h1 rfl (Nat.le_of_ble_eq_true rfl) hcs hsl rfl ?_
  intro r A1 F1 h3
  obtain ⟨z, rfl, PM, hM, hK2⟩ := hK r A1 F1 h3
  refine fl_eq (st' := [vI z]) rfl rfl ?_
  refine fl_aload_n (x := 143) C dL_law_774 rfl l2 ?_
  refine fl_arg C SC dL_law_775 dL_law_776 dL_law_777 dL_law_778 dL_law_779 l3 (by omega) (by omega) hL ?_
  refine fl_callVE (y := mX7_equal) C dL_law_780 ml_L_120 mi_X7_equal im_X7_equal se_X7_equal hM rfl rfl h2 rfl (Nat.le_of_ble_eq_true rfl) hcs hsl rfl ?_
  intro r' A2 F2 h4
  obtain ⟨rfl, J2⟩ := hK2 r' A2 F2 h4
  refine fl_eq (st' := [vI z, vI z]) rfl rfl ?_
  exact fl_same (tgt := 920) C dL_law_783 rfl (next A2 F2 J2)
theorem lc_26 (C : fc_C X RL cL_law 4 1000 600000 7302250 nm) (SC : fl_S X b L xs) (l1 : fc_get ls 1 = some (vR 0)) (l2 : fc_get ls 2 = some (vR 143)) (l3 : fc_get ls 3 = some (vI i)) (i0 : 0 ≤ i) (i1 : i + 3 < (L : Int)) (hL : L ≤ 2048) (hcs : cs ≤ 600000) (hsl : sl ≤ 7302250) (t0 : 0 ≤ t) (t1 : t ≤ 100000) (J : j_I t A F) (next : ∀ (A2 : Nat → Int → Int) (F2 : Nat → Nat → Int), j_I (t + 1) A2 F2 → fl_W b X cs sl 159 (fc_H A2 F2) 920 ls []) : fl_W b X cs sl 159 (fc_H A F) 788 ls [] := by
  obtain ⟨dX, dM, PX, h1, h2, hX, hK⟩ := p_way (x_R (xs (i + 1).toNat)) (x_R (xs (i + 2).toNat)) t A F t0 t1 J
  refine fl_aload_n (x := 0) C dL_law_788 rfl l1 ?_
  refine fl_arg C SC dL_law_789 dL_law_790 dL_law_791 dL_law_792 dL_law_793 l3 (by omega) (by omega) hL ?_
  refine fl_arg C SC dL_law_794 dL_law_795 dL_law_796 dL_law_797 dL_law_798 l3 (by omega) (by omega) hL ?_
  refine fl_callVE (y := mX6_way) C dL_law_799 ml_L_121 mi_X6_way im_X6_way se_X6_way hX rfl rfl h1 rfl (Nat.le_of_ble_eq_true rfl) hcs hsl rfl ?_
  intro r A1 F1 h3
  obtain ⟨z, rfl, PM, hM, hK2⟩ := hK r A1 F1 h3
  refine fl_eq (st' := [vI z]) rfl rfl ?_
  refine fl_aload_n (x := 143) C dL_law_802 rfl l2 ?_
  refine fl_arg C SC dL_law_803 dL_law_804 dL_law_805 dL_law_806 dL_law_807 l3 (by omega) (by omega) hL ?_
  refine fl_arg C SC dL_law_808 dL_law_809 dL_law_810 dL_law_811 dL_law_812 l3 (by omega) (by omega) hL ?_
  refine fl_callVE (y := mX7_way) C dL_law_813 ml_L_124 mi_X7_way im_X7_way se_X7_way hM rfl rfl h2 rfl (Nat.le_of_ble_eq_true rfl) hcs hsl rfl ?_
  intro r' A2 F2 h4
  obtain ⟨rfl, J2⟩ := hK2 r' A2 F2 h4
  refine fl_eq (st' := [vI z, vI z]) rfl rfl ?_
  exact fl_same (tgt := 920) C dL_law_816 rfl (next A2 F2 J2)
theorem lc_27 (C : fc_C X RL cL_law 4 1000 600000 7302250 nm) (SC : fl_S X b L xs) (l1 : fc_get ls 1 = some (vR 0)) (l2 : fc_get ls 2 = some (vR 143)) (l3 : fc_get ls 3 = some (vI i)) (i0 : 0 ≤ i) (i1 : i + 3 < (L : Int)) (hL : L ≤ 2048) (hcs : cs ≤ 600000) (hsl : sl ≤ 7302250) (t0 : 0 ≤ t) (t1 : t ≤ 100000) (J : j_I t A F) (next : ∀ (A2 : Nat → Int → Int) (F2 : Nat → Nat → Int), j_I (t + 1) A2 F2 → fl_W b X cs sl 159 (fc_H A2 F2) 920 ls []) : fl_W b X cs sl 159 (fc_H A F) 821 ls [] := by
  obtain ⟨dX, dM, PX, h1, h2, hX, hK⟩ := p_type (x_R (xs (i + 1).toNat)) t A F t0 t1 J
  refine fl_aload_n (x := 0) C dL_law_821 rfl l1 ?_
  refine fl_arg C SC dL_law_822 dL_law_823 dL_law_824 dL_law_825 dL_law_826 l3 (by omega) (by omega) hL ?_
  refine fl_callVE (y := mX6_type) C dL_law_827 ml_L_125 mi_X6_type im_X6_type se_X6_type hX rfl rfl h1 rfl (Nat.le_of_ble_eq_true rfl) hcs hsl rfl ?_
  intro r A1 F1 h3
  obtain ⟨z, rfl, PM, hM, hK2⟩ := hK r A1 F1 h3
  refine fl_eq (st' := [vI z]) rfl rfl ?_
  refine fl_aload_n (x := 143) C dL_law_830 rfl l2 ?_
  refine fl_arg C SC dL_law_831 dL_law_832 dL_law_833 dL_law_834 dL_law_835 l3 (by omega) (by omega) hL ?_
  refine fl_callVE (y := mX7_type) C dL_law_836 ml_L_128 mi_X7_type im_X7_type se_X7_type hM rfl rfl h2 rfl (Nat.le_of_ble_eq_true rfl) hcs hsl rfl ?_
  intro r' A2 F2 h4
  obtain ⟨rfl, J2⟩ := hK2 r' A2 F2 h4
  refine fl_eq (st' := [vI z, vI z]) rfl rfl ?_
  exact fl_same (tgt := 920) C dL_law_839 rfl (next A2 F2 J2)
theorem lc_28 (C : fc_C X RL cL_law 4 1000 600000 7302250 nm) (SC : fl_S X b L xs) (l1 : fc_get ls 1 = some (vR 0)) (l2 : fc_get ls 2 = some (vR 143)) (l3 : fc_get ls 3 = some (vI i)) (i0 : 0 ≤ i) (i1 : i + 3 < (L : Int)) (hL : L ≤ 2048) (hcs : cs ≤ 600000) (hsl : sl ≤ 7302250) (t0 : 0 ≤ t) (t1 : t ≤ 100000) (J : j_I t A F) (next : ∀ (A2 : Nat → Int → Int) (F2 : Nat → Nat → Int), j_I (t + 1) A2 F2 → fl_W b X cs sl 159 (fc_H A2 F2) 920 ls []) : fl_W b X cs sl 159 (fc_H A F) 844 ls [] := by
  obtain ⟨dX, dM, PX, h1, h2, hX, hK⟩ := p_clear t A F t0 t1 J
  refine fl_aload_n (x := 0) C dL_law_844 rfl l1 ?_
  refine fl_callVE (y := mX6_clear) C dL_law_845 ml_L_129 mi_X6_clear im_X6_clear se_X6_clear hX rfl rfl h1 rfl (Nat.le_of_ble_eq_true rfl) hcs hsl rfl ?_
  intro r A1 F1 h3
  obtain ⟨z, rfl, PM, hM, hK2⟩ := hK r A1 F1 h3
  refine fl_eq (st' := [vI z]) rfl rfl ?_
  refine fl_aload_n (x := 143) C dL_law_848 rfl l2 ?_
  refine fl_callVE (y := mX7_clear) C dL_law_849 ml_L_132 mi_X7_clear im_X7_clear se_X7_clear hM rfl rfl h2 rfl (Nat.le_of_ble_eq_true rfl) hcs hsl rfl ?_
  intro r' A2 F2 h4
  obtain ⟨rfl, J2⟩ := hK2 r' A2 F2 h4
  refine fl_eq (st' := [vI z, vI z]) rfl rfl ?_
  exact fl_same (tgt := 920) C dL_law_852 rfl (next A2 F2 J2)
theorem lc_29 (C : fc_C X RL cL_law 4 1000 600000 7302250 nm) (SC : fl_S X b L xs) (l1 : fc_get ls 1 = some (vR 0)) (l2 : fc_get ls 2 = some (vR 143)) (l3 : fc_get ls 3 = some (vI i)) (i0 : 0 ≤ i) (i1 : i + 3 < (L : Int)) (hL : L ≤ 2048) (hcs : cs ≤ 600000) (hsl : sl ≤ 7302250) (t0 : 0 ≤ t) (t1 : t ≤ 100000) (J : j_I t A F) (next : ∀ (A2 : Nat → Int → Int) (F2 : Nat → Nat → Int), j_I (t + 1) A2 F2 → fl_W b X cs sl 159 (fc_H A2 F2) 920 ls []) : fl_W b X cs sl 159 (fc_H A F) 857 ls [] := by
  obtain ⟨dX, dM, PX, h1, h2, hX, hK⟩ := p_reads t A F t0 t1 J
  refine fl_aload_n (x := 0) C dL_law_857 rfl l1 ?_
  refine fl_callVE (y := mX6_reads) C dL_law_858 ml_L_133 mi_X6_reads im_X6_reads se_X6_reads hX rfl rfl h1 rfl (Nat.le_of_ble_eq_true rfl) hcs hsl rfl ?_
  intro r A1 F1 h3
  obtain ⟨z, rfl, PM, hM, hK2⟩ := hK r A1 F1 h3
  refine fl_eq (st' := [vI z]) rfl rfl ?_
  refine fl_aload_n (x := 143) C dL_law_861 rfl l2 ?_
  refine fl_callVE (y := mX7_reads) C dL_law_862 ml_L_136 mi_X7_reads im_X7_reads se_X7_reads hM rfl rfl h2 rfl (Nat.le_of_ble_eq_true rfl) hcs hsl rfl ?_
  intro r' A2 F2 h4
  obtain ⟨rfl, J2⟩ := hK2 r' A2 F2 h4
  refine fl_eq (st' := [vI z, vI z]) rfl rfl ?_
  exact fl_same (tgt := 920) C dL_law_865 rfl (next A2 F2 J2)
theorem lc_30 (C : fc_C X RL cL_law 4 1000 600000 7302250 nm) (SC : fl_S X b L xs) (l1 : fc_get ls 1 = some (vR 0)) (l2 : fc_get ls 2 = some (vR 143)) (l3 : fc_get ls 3 = some (vI i)) (i0 : 0 ≤ i) (i1 : i + 3 < (L : Int)) (hL : L ≤ 2048) (hcs : cs ≤ 600000) (hsl : sl ≤ 7302250) (t0 : 0 ≤ t) (t1 : t ≤ 100000) (J : j_I t A F) (next : ∀ (A2 : Nat → Int → Int) (F2 : Nat → Nat → Int), j_I (t + 1) A2 F2 → fl_W b X cs sl 159 (fc_H A2 F2) 920 ls []) : fl_W b X cs sl 159 (fc_H A F) 870 ls [] := by
  obtain ⟨dX, dM, PX, h1, h2, hX, hK⟩ := p_back t A F t0 t1 J
  refine fl_aload_n (x := 0) C dL_law_870 rfl l1 ?_
  refine fl_callVE (y := mX6_back) C dL_law_871 ml_L_137 mi_X6_back im_X6_back se_X6_back hX rfl rfl h1 rfl (Nat.le_of_ble_eq_true rfl) hcs hsl rfl ?_
  intro r A1 F1 h3
  obtain ⟨z, rfl, PM, hM, hK2⟩ := hK r A1 F1 h3
  refine fl_eq (st' := [vI z]) rfl rfl ?_
  refine fl_aload_n (x := 143) C dL_law_874 rfl l2 ?_
  refine fl_callVE (y := mX7_back) C dL_law_875 ml_L_140 mi_X7_back im_X7_back se_X7_back hM rfl rfl h2 rfl (Nat.le_of_ble_eq_true rfl) hcs hsl rfl ?_
  intro r' A2 F2 h4
  obtain ⟨rfl, J2⟩ := hK2 r' A2 F2 h4
  refine fl_eq (st' := [vI z, vI z]) rfl rfl ?_
  exact fl_same (tgt := 920) C dL_law_878 rfl (next A2 F2 J2)
theorem lc_31 (C : fc_C X RL cL_law 4 1000 600000 7302250 nm) (SC : fl_S X b L xs) (l1 : fc_get ls 1 = some (vR 0)) (l2 : fc_get ls 2 = some (vR 143)) (l3 : fc_get ls 3 = some (vI i)) (i0 : 0 ≤ i) (i1 : i + 3 < (L : Int)) (hL : L ≤ 2048) (hcs : cs ≤ 600000) (hsl : sl ≤ 7302250) (t0 : 0 ≤ t) (t1 : t ≤ 100000) (J : j_I t A F) (next : ∀ (A2 : Nat → Int → Int) (F2 : Nat → Nat → Int), j_I (t + 1) A2 F2 → fl_W b X cs sl 159 (fc_H A2 F2) 920 ls []) : fl_W b X cs sl 159 (fc_H A F) 883 ls [] := by
  obtain ⟨dX, dM, PX, h1, h2, hX, hK⟩ := p_told (x_R (xs (i + 1).toNat)) t A F t0 t1 J
  refine fl_aload_n (x := 0) C dL_law_883 rfl l1 ?_
  refine fl_arg C SC dL_law_884 dL_law_885 dL_law_886 dL_law_887 dL_law_888 l3 (by omega) (by omega) hL ?_
  refine fl_callVE (y := mX6_told) C dL_law_889 ml_L_141 mi_X6_told im_X6_told se_X6_told hX rfl rfl h1 rfl (Nat.le_of_ble_eq_true rfl) hcs hsl rfl ?_
  intro r A1 F1 h3
  obtain ⟨z, rfl, PM, hM, hK2⟩ := hK r A1 F1 h3
  refine fl_eq (st' := [vI z]) rfl rfl ?_
  refine fl_aload_n (x := 143) C dL_law_892 rfl l2 ?_
  refine fl_arg C SC dL_law_893 dL_law_894 dL_law_895 dL_law_896 dL_law_897 l3 (by omega) (by omega) hL ?_
  refine fl_callVE (y := mX7_told) C dL_law_898 ml_L_144 mi_X7_told im_X7_told se_X7_told hM rfl rfl h2 rfl (Nat.le_of_ble_eq_true rfl) hcs hsl rfl ?_
  intro r' A2 F2 h4
  obtain ⟨rfl, J2⟩ := hK2 r' A2 F2 h4
  refine fl_eq (st' := [vI z, vI z]) rfl rfl ?_
  exact fl_same (tgt := 920) C dL_law_901 rfl (next A2 F2 J2)
theorem lc_32 (C : fc_C X RL cL_law 4 1000 600000 7302250 nm) (SC : fl_S X b L xs) (l1 : fc_get ls 1 = some (vR 0)) (l2 : fc_get ls 2 = some (vR 143)) (l3 : fc_get ls 3 = some (vI i)) (i0 : 0 ≤ i) (i1 : i + 3 < (L : Int)) (hL : L ≤ 2048) (hcs : cs ≤ 600000) (hsl : sl ≤ 7302250) (t0 : 0 ≤ t) (t1 : t ≤ 100000) (J : j_I t A F) (next : ∀ (A2 : Nat → Int → Int) (F2 : Nat → Nat → Int), j_I (t + 1) A2 F2 → fl_W b X cs sl 159 (fc_H A2 F2) 920 ls []) : fl_W b X cs sl 159 (fc_H A F) 906 ls [] := by
  obtain ⟨dX, dM, PX, h1, h2, hX, hK⟩ := p_digest t A F t0 t1 J
  refine fl_aload_n (x := 0) C dL_law_906 rfl l1 ?_
  refine fl_callVE (y := mX6_digest) C dL_law_907 ml_L_145 mi_X6_digest im_X6_digest se_X6_digest hX rfl rfl h1 rfl (Nat.le_of_ble_eq_true rfl) hcs hsl rfl ?_
  intro r A1 F1 h3
  obtain ⟨z, rfl, PM, hM, hK2⟩ := hK r A1 F1 h3
  refine fl_eq (st' := [vL z]) rfl rfl ?_
  refine fl_aload_n (x := 143) C dL_law_910 rfl l2 ?_
  refine fl_callVE (y := mX7_digest) C dL_law_911 ml_L_149 mi_X7_digest im_X7_digest se_X7_digest hM rfl rfl h2 rfl (Nat.le_of_ble_eq_true rfl) hcs hsl rfl ?_
  intro r' A2 F2 h4
  obtain ⟨rfl, J2⟩ := hK2 r' A2 F2 h4
  refine fl_eq (st' := [vL z, vL z]) rfl rfl ?_
  exact fl_sameL (tgt := 920) C dL_law_914 dL_law_915 rfl (next A2 F2 J2)
end CASES
