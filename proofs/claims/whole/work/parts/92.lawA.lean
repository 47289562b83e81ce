/-! the law, case by case -/
theorem lg_cmp_self (x : Int64) : lg_cmp x x = 0 := by
  unfold lg_cmp
  simp
theorem law_0 {G : Gk} {nm : String} {post : Option Value → Hp → Prop} {b L x m i n cr sr : Nat} {xs : Nat → Int32} {h : Hp} {s : Mem} (hL : L ≤ 3584) (hi : i + 6 < L) (hJ : LJ G b L xs x m h s) (I : Inv n s) (hn : n < 512) (K : ∀ h' t, LJ G b L xs x m h' t → Inv (n + 1) t → V G (la nm) post h' cr sr 1457 [some (.ref b), some (.ref x), some (.ref m), some (.int (nI i))] []) : V G (la nm) post h (cr + 600) (sr + 3480) 184 [some (.ref b), some (.ref x), some (.ref m), some (.int (nI i))] [] := by
  obtain ⟨g, am, rfl, R, Rm, hM, hb, hgb⟩ := hJ
  have IA := I.a hn
  refine V_exists (N := md_shape) d_la_law_199 ml_la_17 mdf_md_shape wi_md_shape wz_md_shape (mc_shape G Rm IA (xs (i + 1))) Rm.obj ⟨_, rfl, rfl⟩ rfl (Nat.le_of_ble_eq_true rfl) (by decide) rfl rfl (fun hE => ?_)
  obtain ⟨_, _, r0, _, t0, _, Q0⟩ := hE
  refine V.need (cr := cr + 2) (sr := sr + 12) ?_ (by omega) (by omega)
  refine V_aload_n d_la_law_184 rfl rfl ?_
  refine V_arg 1 d_la_law_185 d_la_law_186 d_la_law_187 d_la_law_188 d_la_law_189 (by decide) hb hL (by omega) ?_
  refine V_callV (N := fe_shape) d_la_law_190 ml_la_13 mdf_fe_shape wi_fe_shape wz_fe_shape (xc_shape G R IA (xs (i + 1))) R.1.1.1 ⟨_, rfl, rfl⟩ rfl rfl (Nat.le_of_ble_eq_true rfl) (by decide) (Nat.le_of_ble_eq_true rfl) rfl rfl (kI fun r1 h1 p1 => ?_)
  obtain ⟨g1, _, S1, _⟩ := (p1 r0 t0 Q0).2
  obtain ⟨Rm1, _⟩ := Rm.st hM S1
  have hb1 : h1 b = some (31, scrL L xs) := (S1.1 b (by rw [hb]; simp) hgb).1.trans hb
  refine V_aload_n d_la_law_193 rfl rfl ?_
  refine V_arg 1 d_la_law_194 d_la_law_195 d_la_law_196 d_la_law_197 d_la_law_198 (by decide) hb1 hL (by omega) ?_
  refine V_callV (N := md_shape) d_la_law_199 ml_la_17 mdf_md_shape wi_md_shape wz_md_shape (mc_shape G Rm1 IA (xs (i + 1))) Rm1.obj ⟨_, rfl, rfl⟩ rfl rfl (Nat.le_of_ble_eq_true rfl) (by decide) (Nat.le_of_ble_eq_true rfl) rfl rfl (kI fun r2 h2 p2 => ?_)
  obtain ⟨t, M2, Q2⟩ := p2
  obtain ⟨e12, N2⟩ := p1 r2 t Q2
  have I2 : Inv (n + 1) t := I.shape Q2
  refine V_icmp_eq d_la_law_202 (fun c => ?_) (fun c => absurd e12 c)
  exact K h2 t (LJ.next rfl Rm hM hb hgb I2.sm N2 M2) I2
theorem law_1 {G : Gk} {nm : String} {post : Option Value → Hp → Prop} {b L x m i n cr sr : Nat} {xs : Nat → Int32} {h : Hp} {s : Mem} (hL : L ≤ 3584) (hi : i + 6 < L) (hJ : LJ G b L xs x m h s) (I : Inv n s) (hn : n < 512) (K : ∀ h' t, LJ G b L xs x m h' t → Inv (n + 1) t → V G (la nm) post h' cr sr 1457 [some (.ref b), some (.ref x), some (.ref m), some (.int (nI i))] []) : V G (la nm) post h (cr + 600) (sr + 3480) 207 [some (.ref b), some (.ref x), some (.ref m), some (.int (nI i))] [] := by
  obtain ⟨g, am, rfl, R, Rm, hM, hb, hgb⟩ := hJ
  have IA := I.a hn
  refine V_exists (N := md_number) d_la_law_294 ml_la_22 mdf_md_number wi_md_number wz_md_number (mc_number G Rm IA (xs (i + 1)) (xs (i + 2)) (xs (i + 3)) (bz (xs (i + 4))) (bz (xs (i + 5)))) Rm.obj ⟨_, rfl, rfl⟩ rfl (Nat.le_of_ble_eq_true rfl) (by decide) rfl rfl (fun hE => ?_)
  obtain ⟨_, _, r0, _, t0, _, Q0⟩ := hE
  refine V.need (cr := cr + 1) (sr := sr + 5) ?_ (by omega) (by omega)
  refine V_aload_n d_la_law_207 rfl rfl ?_
  refine V_arg 1 d_la_law_208 d_la_law_209 d_la_law_210 d_la_law_211 d_la_law_212 (by decide) hb hL (by omega) ?_
  refine V_arg 2 d_la_law_213 d_la_law_214 d_la_law_215 d_la_law_216 d_la_law_217 (by decide) hb hL (by omega) ?_
  refine V_arg 3 d_la_law_218 d_la_law_219 d_la_law_220 d_la_law_221 d_la_law_222 (by decide) hb hL (by omega) ?_
  refine V_arg 4 d_la_law_223 d_la_law_224 d_la_law_225 d_la_law_226 d_la_law_227 (by decide) hb hL (by omega) ?_
  refine V_bool d_la_law_228 d_la_law_231 d_la_law_232 d_la_law_235 ?_
  refine V_arg 5 d_la_law_236 d_la_law_237 d_la_law_238 d_la_law_239 d_la_law_240 (by decide) hb hL (by omega) ?_
  refine V_bool d_la_law_241 d_la_law_244 d_la_law_245 d_la_law_248 ?_
  refine V_callV (N := fe_number) d_la_law_249 ml_la_18 mdf_fe_number wi_fe_number wz_fe_number (xc_number G R IA (xs (i + 1)) (xs (i + 2)) (xs (i + 3)) (bz (xs (i + 4))) (bz (xs (i + 5)))) R.1.1.1 ⟨_, rfl, rfl⟩ rfl rfl (Nat.le_of_ble_eq_true rfl) (by decide) (Nat.le_of_ble_eq_true rfl) rfl rfl (kI fun r1 h1 p1 => ?_)
  obtain ⟨g1, _, S1, _⟩ := (p1 r0 t0 Q0).2
  obtain ⟨Rm1, _⟩ := Rm.st hM S1
  have hb1 : h1 b = some (31, scrL L xs) := (S1.1 b (by rw [hb]; simp) hgb).1.trans hb
  refine V_aload_n d_la_law_252 rfl rfl ?_
  refine V_arg 1 d_la_law_253 d_la_law_254 d_la_law_255 d_la_law_256 d_la_law_257 (by decide) hb1 hL (by omega) ?_
  refine V_arg 2 d_la_law_258 d_la_law_259 d_la_law_260 d_la_law_261 d_la_law_262 (by decide) hb1 hL (by omega) ?_
  refine V_arg 3 d_la_law_263 d_la_law_264 d_la_law_265 d_la_law_266 d_la_law_267 (by decide) hb1 hL (by omega) ?_
  refine V_arg 4 d_la_law_268 d_la_law_269 d_la_law_270 d_la_law_271 d_la_law_272 (by decide) hb1 hL (by omega) ?_
  refine V_bool d_la_law_273 d_la_law_276 d_la_law_277 d_la_law_280 ?_
  refine V_arg 5 d_la_law_281 d_la_law_282 d_la_law_283 d_la_law_284 d_la_law_285 (by decide) hb1 hL (by omega) ?_
  refine V_bool d_la_law_286 d_la_law_289 d_la_law_290 d_la_law_293 ?_
  refine V_callV (N := md_number) d_la_law_294 ml_la_22 mdf_md_number wi_md_number wz_md_number (mc_number G Rm1 IA (xs (i + 1)) (xs (i + 2)) (xs (i + 3)) (bz (xs (i + 4))) (bz (xs (i + 5)))) Rm1.obj ⟨_, rfl, rfl⟩ rfl rfl (Nat.le_of_ble_eq_true rfl) (by decide) (Nat.le_of_ble_eq_true rfl) rfl rfl (kI fun r2 h2 p2 => ?_)
  obtain ⟨t, M2, Q2⟩ := p2
  obtain ⟨e12, N2⟩ := p1 r2 t Q2
  have I2 : Inv (n + 1) t := I.number Q2
  refine V_icmp_eq d_la_law_297 (fun c => ?_) (fun c => absurd e12 c)
  exact K h2 t (LJ.next rfl Rm hM hb hgb I2.sm N2 M2) I2
theorem law_2 {G : Gk} {nm : String} {post : Option Value → Hp → Prop} {b L x m i n cr sr : Nat} {xs : Nat → Int32} {h : Hp} {s : Mem} (hL : L ≤ 3584) (hi : i + 6 < L) (hJ : LJ G b L xs x m h s) (I : Inv n s) (hn : n < 512) (K : ∀ h' t, LJ G b L xs x m h' t → Inv (n + 1) t → V G (la nm) post h' cr sr 1457 [some (.ref b), some (.ref x), some (.ref m), some (.int (nI i))] []) : V G (la nm) post h (cr + 600) (sr + 3480) 302 [some (.ref b), some (.ref x), some (.ref m), some (.int (nI i))] [] := by
  obtain ⟨g, am, rfl, R, Rm, hM, hb, hgb⟩ := hJ
  have IA := I.a hn
  refine V_exists (N := md_link) d_la_law_433 ml_la_27 mdf_md_link wi_md_link wz_md_link (mc_link G Rm IA (xs (i + 1)) (xs (i + 2)) (bz (xs (i + 3))) (bz (xs (i + 4))) (bz (xs (i + 5))) (bz (xs (i + 6)))) Rm.obj ⟨_, rfl, rfl⟩ rfl (Nat.le_of_ble_eq_true rfl) (by decide) rfl rfl (fun hE => ?_)
  obtain ⟨_, _, r0, _, t0, _, Q0⟩ := hE
  refine V.need (cr := cr + 1) (sr := sr + 5) ?_ (by omega) (by omega)
  refine V_aload_n d_la_law_302 rfl rfl ?_
  refine V_arg 1 d_la_law_303 d_la_law_304 d_la_law_305 d_la_law_306 d_la_law_307 (by decide) hb hL (by omega) ?_
  refine V_arg 2 d_la_law_308 d_la_law_309 d_la_law_310 d_la_law_311 d_la_law_312 (by decide) hb hL (by omega) ?_
  refine V_arg 3 d_la_law_313 d_la_law_314 d_la_law_315 d_la_law_316 d_la_law_317 (by decide) hb hL (by omega) ?_
  refine V_bool d_la_law_318 d_la_law_321 d_la_law_322 d_la_law_325 ?_
  refine V_arg 4 d_la_law_326 d_la_law_327 d_la_law_328 d_la_law_329 d_la_law_330 (by decide) hb hL (by omega) ?_
  refine V_bool d_la_law_331 d_la_law_334 d_la_law_335 d_la_law_338 ?_
  refine V_arg 5 d_la_law_339 d_la_law_340 d_la_law_341 d_la_law_342 d_la_law_343 (by decide) hb hL (by omega) ?_
  refine V_bool d_la_law_344 d_la_law_347 d_la_law_348 d_la_law_351 ?_
  refine V_arg6 6 d_la_law_352 d_la_law_353 d_la_law_354 d_la_law_356 d_la_law_357 (by decide) hb hL (by omega) ?_
  refine V_bool d_la_law_358 d_la_law_361 d_la_law_362 d_la_law_365 ?_
  refine V_callV (N := fe_link) d_la_law_366 ml_la_23 mdf_fe_link wi_fe_link wz_fe_link (xc_link G R IA (xs (i + 1)) (xs (i + 2)) (bz (xs (i + 3))) (bz (xs (i + 4))) (bz (xs (i + 5))) (bz (xs (i + 6)))) R.1.1.1 ⟨_, rfl, rfl⟩ rfl rfl (Nat.le_of_ble_eq_true rfl) (by decide) (Nat.le_of_ble_eq_true rfl) rfl rfl (kI fun r1 h1 p1 => ?_)
  obtain ⟨g1, _, S1, _⟩ := (p1 r0 t0 Q0).2
  obtain ⟨Rm1, _⟩ := Rm.st hM S1
  have hb1 : h1 b = some (31, scrL L xs) := (S1.1 b (by rw [hb]; simp) hgb).1.trans hb
  refine V_aload_n d_la_law_369 rfl rfl ?_
  refine V_arg 1 d_la_law_370 d_la_law_371 d_la_law_372 d_la_law_373 d_la_law_374 (by decide) hb1 hL (by omega) ?_
  refine V_arg 2 d_la_law_375 d_la_law_376 d_la_law_377 d_la_law_378 d_la_law_379 (by decide) hb1 hL (by omega) ?_
  refine V_arg 3 d_la_law_380 d_la_law_381 d_la_law_382 d_la_law_383 d_la_law_384 (by decide) hb1 hL (by omega) ?_
  refine V_bool d_la_law_385 d_la_law_388 d_la_law_389 d_la_law_392 ?_
  refine V_arg 4 d_la_law_393 d_la_law_394 d_la_law_395 d_la_law_396 d_la_law_397 (by decide) hb1 hL (by omega) ?_
  refine V_bool d_la_law_398 d_la_law_401 d_la_law_402 d_la_law_405 ?_
  refine V_arg 5 d_la_law_406 d_la_law_407 d_la_law_408 d_la_law_409 d_la_law_410 (by decide) hb1 hL (by omega) ?_
  refine V_bool d_la_law_411 d_la_law_414 d_la_law_415 d_la_law_418 ?_
  refine V_arg6 6 d_la_law_419 d_la_law_420 d_la_law_421 d_la_law_423 d_la_law_424 (by decide) hb1 hL (by omega) ?_
  refine V_bool d_la_law_425 d_la_law_428 d_la_law_429 d_la_law_432 ?_
  refine V_callV (N := md_link) d_la_law_433 ml_la_27 mdf_md_link wi_md_link wz_md_link (mc_link G Rm1 IA (xs (i + 1)) (xs (i + 2)) (bz (xs (i + 3))) (bz (xs (i + 4))) (bz (xs (i + 5))) (bz (xs (i + 6)))) Rm1.obj ⟨_, rfl, rfl⟩ rfl rfl (Nat.le_of_ble_eq_true rfl) (by decide) (Nat.le_of_ble_eq_true rfl) rfl rfl (kI fun r2 h2 p2 => ?_)
  obtain ⟨t, M2, Q2⟩ := p2
  obtain ⟨e12, N2⟩ := p1 r2 t Q2
  have I2 : Inv (n + 1) t := I.link Q2
  refine V_icmp_eq d_la_law_436 (fun c => ?_) (fun c => absurd e12 c)
  exact K h2 t (LJ.next rfl Rm hM hb hgb I2.sm N2 M2) I2
theorem law_3 {G : Gk} {nm : String} {post : Option Value → Hp → Prop} {b L x m i n cr sr : Nat} {xs : Nat → Int32} {h : Hp} {s : Mem} (hL : L ≤ 3584) (hi : i + 6 < L) (hJ : LJ G b L xs x m h s) (I : Inv n s) (hn : n < 512) (K : ∀ h' t, LJ G b L xs x m h' t → Inv (n + 1) t → V G (la nm) post h' cr sr 1457 [some (.ref b), some (.ref x), some (.ref m), some (.int (nI i))] []) : V G (la nm) post h (cr + 600) (sr + 3480) 441 [some (.ref b), some (.ref x), some (.ref m), some (.int (nI i))] [] := by
  obtain ⟨g, am, rfl, R, Rm, hM, hb, hgb⟩ := hJ
  have IA := I.a hn
  refine V_exists (N := md_derived) d_la_law_486 ml_la_32 mdf_md_derived wi_md_derived wz_md_derived (mc_derived G Rm IA (xs (i + 1)) (xs (i + 2)) (xs (i + 3)) (xs (i + 4))) Rm.obj ⟨_, rfl, rfl⟩ rfl (Nat.le_of_ble_eq_true rfl) (by decide) rfl rfl (fun hE => ?_)
  obtain ⟨_, _, r0, _, t0, _, Q0⟩ := hE
  refine V.need (cr := cr + 1) (sr := sr + 5) ?_ (by omega) (by omega)
  refine V_aload_n d_la_law_441 rfl rfl ?_
  refine V_arg 1 d_la_law_442 d_la_law_443 d_la_law_444 d_la_law_445 d_la_law_446 (by decide) hb hL (by omega) ?_
  refine V_arg 2 d_la_law_447 d_la_law_448 d_la_law_449 d_la_law_450 d_la_law_451 (by decide) hb hL (by omega) ?_
  refine V_arg 3 d_la_law_452 d_la_law_453 d_la_law_454 d_la_law_455 d_la_law_456 (by decide) hb hL (by omega) ?_
  refine V_arg 4 d_la_law_457 d_la_law_458 d_la_law_459 d_la_law_460 d_la_law_461 (by decide) hb hL (by omega) ?_
  refine V_callV (N := fe_derived) d_la_law_462 ml_la_28 mdf_fe_derived wi_fe_derived wz_fe_derived (xc_derived G R IA (xs (i + 1)) (xs (i + 2)) (xs (i + 3)) (xs (i + 4))) R.1.1.1 ⟨_, rfl, rfl⟩ rfl rfl (Nat.le_of_ble_eq_true rfl) (by decide) (Nat.le_of_ble_eq_true rfl) rfl rfl (kI fun r1 h1 p1 => ?_)
  obtain ⟨g1, _, S1, _⟩ := (p1 r0 t0 Q0).2
  obtain ⟨Rm1, _⟩ := Rm.st hM S1
  have hb1 : h1 b = some (31, scrL L xs) := (S1.1 b (by rw [hb]; simp) hgb).1.trans hb
  refine V_aload_n d_la_law_465 rfl rfl ?_
  refine V_arg 1 d_la_law_466 d_la_law_467 d_la_law_468 d_la_law_469 d_la_law_470 (by decide) hb1 hL (by omega) ?_
  refine V_arg 2 d_la_law_471 d_la_law_472 d_la_law_473 d_la_law_474 d_la_law_475 (by decide) hb1 hL (by omega) ?_
  refine V_arg 3 d_la_law_476 d_la_law_477 d_la_law_478 d_la_law_479 d_la_law_480 (by decide) hb1 hL (by omega) ?_
  refine V_arg 4 d_la_law_481 d_la_law_482 d_la_law_483 d_la_law_484 d_la_law_485 (by decide) hb1 hL (by omega) ?_
  refine V_callV (N := md_derived) d_la_law_486 ml_la_32 mdf_md_derived wi_md_derived wz_md_derived (mc_derived G Rm1 IA (xs (i + 1)) (xs (i + 2)) (xs (i + 3)) (xs (i + 4))) Rm1.obj ⟨_, rfl, rfl⟩ rfl rfl (Nat.le_of_ble_eq_true rfl) (by decide) (Nat.le_of_ble_eq_true rfl) rfl rfl (kI fun r2 h2 p2 => ?_)
  obtain ⟨t, M2, Q2⟩ := p2
  obtain ⟨e12, N2⟩ := p1 r2 t Q2
  have I2 : Inv (n + 1) t := I.derived Q2
  refine V_icmp_eq d_la_law_489 (fun c => ?_) (fun c => absurd e12 c)
  exact K h2 t (LJ.next rfl Rm hM hb hgb I2.sm N2 M2) I2
theorem law_4 {G : Gk} {nm : String} {post : Option Value → Hp → Prop} {b L x m i n cr sr : Nat} {xs : Nat → Int32} {h : Hp} {s : Mem} (hL : L ≤ 3584) (hi : i + 6 < L) (hJ : LJ G b L xs x m h s) (I : Inv n s) (hn : n < 512) (K : ∀ h' t, LJ G b L xs x m h' t → Inv (n + 1) t → V G (la nm) post h' cr sr 1457 [some (.ref b), some (.ref x), some (.ref m), some (.int (nI i))] []) : V G (la nm) post h (cr + 600) (sr + 3480) 494 [some (.ref b), some (.ref x), some (.ref m), some (.int (nI i))] [] := by
  obtain ⟨g, am, rfl, R, Rm, hM, hb, hgb⟩ := hJ
  have IA := I.a hn
  refine V_exists (N := md_told) d_la_law_529 ml_la_37 mdf_md_told wi_md_told wz_md_told (mc_told G Rm IA (xs (i + 1)) (xs (i + 2)) (xs (i + 3))) Rm.obj ⟨_, rfl, rfl⟩ rfl (Nat.le_of_ble_eq_true rfl) (by decide) rfl rfl (fun hE => ?_)
  obtain ⟨_, _, r0, _, t0, _, Q0⟩ := hE
  refine V.need (cr := cr + 0) (sr := sr + 0) ?_ (by omega) (by omega)
  refine V_aload_n d_la_law_494 rfl rfl ?_
  refine V_arg 1 d_la_law_495 d_la_law_496 d_la_law_497 d_la_law_498 d_la_law_499 (by decide) hb hL (by omega) ?_
  refine V_arg 2 d_la_law_500 d_la_law_501 d_la_law_502 d_la_law_503 d_la_law_504 (by decide) hb hL (by omega) ?_
  refine V_arg 3 d_la_law_505 d_la_law_506 d_la_law_507 d_la_law_508 d_la_law_509 (by decide) hb hL (by omega) ?_
  refine V_callV (N := fe_told) d_la_law_510 ml_la_33 mdf_fe_told wi_fe_told wz_fe_told (xc_told G R IA (xs (i + 1)) (xs (i + 2)) (xs (i + 3))) R.1.1.1 ⟨_, rfl, rfl⟩ rfl rfl (Nat.le_of_ble_eq_true rfl) (by decide) (Nat.le_of_ble_eq_true rfl) rfl rfl (kI fun r1 h1 p1 => ?_)
  obtain ⟨g1, _, S1, _⟩ := (p1 r0 t0 Q0).2
  obtain ⟨Rm1, _⟩ := Rm.st hM S1
  have hb1 : h1 b = some (31, scrL L xs) := (S1.1 b (by rw [hb]; simp) hgb).1.trans hb
  refine V_aload_n d_la_law_513 rfl rfl ?_
  refine V_arg 1 d_la_law_514 d_la_law_515 d_la_law_516 d_la_law_517 d_la_law_518 (by decide) hb1 hL (by omega) ?_
  refine V_arg 2 d_la_law_519 d_la_law_520 d_la_law_521 d_la_law_522 d_la_law_523 (by decide) hb1 hL (by omega) ?_
  refine V_arg 3 d_la_law_524 d_la_law_525 d_la_law_526 d_la_law_527 d_la_law_528 (by decide) hb1 hL (by omega) ?_
  refine V_callV (N := md_told) d_la_law_529 ml_la_37 mdf_md_told wi_md_told wz_md_told (mc_told G Rm1 IA (xs (i + 1)) (xs (i + 2)) (xs (i + 3))) Rm1.obj ⟨_, rfl, rfl⟩ rfl rfl (Nat.le_of_ble_eq_true rfl) (by decide) (Nat.le_of_ble_eq_true rfl) rfl rfl (kI fun r2 h2 p2 => ?_)
  obtain ⟨t, M2, Q2⟩ := p2
  obtain ⟨e12, N2⟩ := p1 r2 t Q2
  have I2 : Inv (n + 1) t := I.sc Q2.2
  refine V_icmp_eq d_la_law_532 (fun c => ?_) (fun c => absurd e12 c)
  exact K h2 t (LJ.next rfl Rm hM hb hgb I2.sm N2 M2) I2
theorem law_5 {G : Gk} {nm : String} {post : Option Value → Hp → Prop} {b L x m i n cr sr : Nat} {xs : Nat → Int32} {h : Hp} {s : Mem} (hL : L ≤ 3584) (hi : i + 6 < L) (hJ : LJ G b L xs x m h s) (I : Inv n s) (hn : n < 512) (K : ∀ h' t, LJ G b L xs x m h' t → Inv (n + 1) t → V G (la nm) post h' cr sr 1457 [some (.ref b), some (.ref x), some (.ref m), some (.int (nI i))] []) : V G (la nm) post h (cr + 600) (sr + 3480) 537 [some (.ref b), some (.ref x), some (.ref m), some (.int (nI i))] [] := by
  obtain ⟨g, am, rfl, R, Rm, hM, hb, hgb⟩ := hJ
  have IA := I.a hn
  refine V_exists (N := md_object) d_la_law_552 ml_la_41 mdf_md_object wi_md_object wz_md_object (mc_object G Rm IA (xs (i + 1))) Rm.obj ⟨_, rfl, rfl⟩ rfl (Nat.le_of_ble_eq_true rfl) (by decide) rfl rfl (fun hE => ?_)
  obtain ⟨_, _, r0, _, t0, _, Q0⟩ := hE
  refine V.need (cr := cr + 10) (sr := sr + 18) ?_ (by omega) (by omega)
  refine V_aload_n d_la_law_537 rfl rfl ?_
  refine V_arg 1 d_la_law_538 d_la_law_539 d_la_law_540 d_la_law_541 d_la_law_542 (by decide) hb hL (by omega) ?_
  refine V_callV (N := fe_object) d_la_law_543 ml_la_38 mdf_fe_object wi_fe_object wz_fe_object (xc_object G R IA (xs (i + 1))) R.1.1.1 ⟨_, rfl, rfl⟩ rfl rfl (Nat.le_of_ble_eq_true rfl) (by decide) (Nat.le_of_ble_eq_true rfl) rfl rfl (kI fun r1 h1 p1 => ?_)
  obtain ⟨g1, _, S1, _⟩ := (p1 r0 t0 Q0).2
  obtain ⟨Rm1, _⟩ := Rm.st hM S1
  have hb1 : h1 b = some (31, scrL L xs) := (S1.1 b (by rw [hb]; simp) hgb).1.trans hb
  refine V_aload_n d_la_law_546 rfl rfl ?_
  refine V_arg 1 d_la_law_547 d_la_law_548 d_la_law_549 d_la_law_550 d_la_law_551 (by decide) hb1 hL (by omega) ?_
  refine V_callV (N := md_object) d_la_law_552 ml_la_41 mdf_md_object wi_md_object wz_md_object (mc_object G Rm1 IA (xs (i + 1))) Rm1.obj ⟨_, rfl, rfl⟩ rfl rfl (Nat.le_of_ble_eq_true rfl) (by decide) (Nat.le_of_ble_eq_true rfl) rfl rfl (kI fun r2 h2 p2 => ?_)
  obtain ⟨t, M2, Q2⟩ := p2
  obtain ⟨e12, N2⟩ := p1 r2 t Q2
  have I2 : Inv (n + 1) t := I.object Q2
  refine V_icmp_eq d_la_law_555 (fun c => ?_) (fun c => absurd e12 c)
  exact K h2 t (LJ.next rfl Rm hM hb hgb I2.sm N2 M2) I2
theorem law_6 {G : Gk} {nm : String} {post : Option Value → Hp → Prop} {b L x m i n cr sr : Nat} {xs : Nat → Int32} {h : Hp} {s : Mem} (hL : L ≤ 3584) (hi : i + 6 < L) (hJ : LJ G b L xs x m h s) (I : Inv n s) (hn : n < 512) (K : ∀ h' t, LJ G b L xs x m h' t → Inv (n + 1) t → V G (la nm) post h' cr sr 1457 [some (.ref b), some (.ref x), some (.ref m), some (.int (nI i))] []) : V G (la nm) post h (cr + 600) (sr + 3480) 560 [some (.ref b), some (.ref x), some (.ref m), some (.int (nI i))] [] := by
  obtain ⟨g, am, rfl, R, Rm, hM, hb, hgb⟩ := hJ
  have IA := I.a hn
  refine V_exists (N := md_get) d_la_law_585 ml_la_46 mdf_md_get wi_md_get wz_md_get (mc_get G Rm IA (xs (i + 1)) (xs (i + 2))) Rm.obj ⟨_, rfl, rfl⟩ rfl (Nat.le_of_ble_eq_true rfl) (by decide) rfl rfl (fun hE => ?_)
  obtain ⟨_, _, r0, _, t0, _, Q0⟩ := hE
  refine V.need (cr := cr + 0) (sr := sr + 0) ?_ (by omega) (by omega)
  refine V_aload_n d_la_law_560 rfl rfl ?_
  refine V_arg 1 d_la_law_561 d_la_law_562 d_la_law_563 d_la_law_564 d_la_law_565 (by decide) hb hL (by omega) ?_
  refine V_arg 2 d_la_law_566 d_la_law_567 d_la_law_568 d_la_law_569 d_la_law_570 (by decide) hb hL (by omega) ?_
  refine V_callV (N := fe_get) d_la_law_571 ml_la_42 mdf_fe_get wi_fe_get wz_fe_get (xc_get G R IA (xs (i + 1)) (xs (i + 2))) R.1.1.1 ⟨_, rfl, rfl⟩ rfl rfl (Nat.le_of_ble_eq_true rfl) (by decide) (Nat.le_of_ble_eq_true rfl) rfl rfl (kI fun r1 h1 p1 => ?_)
  obtain ⟨g1, _, S1, _⟩ := (p1 r0 t0 Q0).2
  obtain ⟨Rm1, _⟩ := Rm.st hM S1
  have hb1 : h1 b = some (31, scrL L xs) := (S1.1 b (by rw [hb]; simp) hgb).1.trans hb
  refine V_aload_n d_la_law_574 rfl rfl ?_
  refine V_arg 1 d_la_law_575 d_la_law_576 d_la_law_577 d_la_law_578 d_la_law_579 (by decide) hb1 hL (by omega) ?_
  refine V_arg 2 d_la_law_580 d_la_law_581 d_la_law_582 d_la_law_583 d_la_law_584 (by decide) hb1 hL (by omega) ?_
  refine V_callV (N := md_get) d_la_law_585 ml_la_46 mdf_md_get wi_md_get wz_md_get (mc_get G Rm1 IA (xs (i + 1)) (xs (i + 2))) Rm1.obj ⟨_, rfl, rfl⟩ rfl rfl (Nat.le_of_ble_eq_true rfl) (by decide) (Nat.le_of_ble_eq_true rfl) rfl rfl (kI fun r2 h2 p2 => ?_)
  obtain ⟨t, M2, Q2⟩ := p2
  obtain ⟨e12, N2⟩ := p1 r2 t Q2
  have I2 : Inv (n + 1) t := I.sc Q2.2
  refine V_icmp_eq d_la_law_588 (fun c => ?_) (fun c => absurd e12 c)
  exact K h2 t (LJ.next rfl Rm hM hb hgb I2.sm N2 M2) I2
theorem law_7 {G : Gk} {nm : String} {post : Option Value → Hp → Prop} {b L x m i n cr sr : Nat} {xs : Nat → Int32} {h : Hp} {s : Mem} (hL : L ≤ 3584) (hi : i + 6 < L) (hJ : LJ G b L xs x m h s) (I : Inv n s) (hn : n < 512) (K : ∀ h' t, LJ G b L xs x m h' t → Inv (n + 1) t → V G (la nm) post h' cr sr 1457 [some (.ref b), some (.ref x), some (.ref m), some (.int (nI i))] []) : V G (la nm) post h (cr + 600) (sr + 3480) 593 [some (.ref b), some (.ref x), some (.ref m), some (.int (nI i))] [] := by
  obtain ⟨g, am, rfl, R, Rm, hM, hb, hgb⟩ := hJ
  have IA := I.a hn
  refine V_exists (N := md_element) d_la_law_628 ml_la_50 mdf_md_element wi_md_element wz_md_element (mc_element G Rm IA (xs (i + 1)) (xs (i + 2)) (xs (i + 3))) Rm.obj ⟨_, rfl, rfl⟩ rfl (Nat.le_of_ble_eq_true rfl) (by decide) rfl rfl (fun hE => ?_)
  obtain ⟨_, _, r0, _, t0, _, Q0⟩ := hE
  refine V.need (cr := cr + 0) (sr := sr + 0) ?_ (by omega) (by omega)
  refine V_aload_n d_la_law_593 rfl rfl ?_
  refine V_arg 1 d_la_law_594 d_la_law_595 d_la_law_596 d_la_law_597 d_la_law_598 (by decide) hb hL (by omega) ?_
  refine V_arg 2 d_la_law_599 d_la_law_600 d_la_law_601 d_la_law_602 d_la_law_603 (by decide) hb hL (by omega) ?_
  refine V_arg 3 d_la_law_604 d_la_law_605 d_la_law_606 d_la_law_607 d_la_law_608 (by decide) hb hL (by omega) ?_
  refine V_callV (N := fe_element) d_la_law_609 ml_la_47 mdf_fe_element wi_fe_element wz_fe_element (xc_element G R IA (xs (i + 1)) (xs (i + 2)) (xs (i + 3))) R.1.1.1 ⟨_, rfl, rfl⟩ rfl rfl (Nat.le_of_ble_eq_true rfl) (by decide) (Nat.le_of_ble_eq_true rfl) rfl rfl (kI fun r1 h1 p1 => ?_)
  obtain ⟨g1, _, S1, _⟩ := (p1 r0 t0 Q0).2
  obtain ⟨Rm1, _⟩ := Rm.st hM S1
  have hb1 : h1 b = some (31, scrL L xs) := (S1.1 b (by rw [hb]; simp) hgb).1.trans hb
  refine V_aload_n d_la_law_612 rfl rfl ?_
  refine V_arg 1 d_la_law_613 d_la_law_614 d_la_law_615 d_la_law_616 d_la_law_617 (by decide) hb1 hL (by omega) ?_
  refine V_arg 2 d_la_law_618 d_la_law_619 d_la_law_620 d_la_law_621 d_la_law_622 (by decide) hb1 hL (by omega) ?_
  refine V_arg 3 d_la_law_623 d_la_law_624 d_la_law_625 d_la_law_626 d_la_law_627 (by decide) hb1 hL (by omega) ?_
  refine V_callV (N := md_element) d_la_law_628 ml_la_50 mdf_md_element wi_md_element wz_md_element (mc_element G Rm1 IA (xs (i + 1)) (xs (i + 2)) (xs (i + 3))) Rm1.obj ⟨_, rfl, rfl⟩ rfl rfl (Nat.le_of_ble_eq_true rfl) (by decide) (Nat.le_of_ble_eq_true rfl) rfl rfl (kI fun r2 h2 p2 => ?_)
  obtain ⟨t, M2, Q2⟩ := p2
  obtain ⟨e12, N2⟩ := p1 r2 t Q2
  have I2 : Inv (n + 1) t := I.sc Q2.2
  refine V_icmp_eq d_la_law_631 (fun c => ?_) (fun c => absurd e12 c)
  exact K h2 t (LJ.next rfl Rm hM hb hgb I2.sm N2 M2) I2
theorem law_8 {G : Gk} {nm : String} {post : Option Value → Hp → Prop} {b L x m i n cr sr : Nat} {xs : Nat → Int32} {h : Hp} {s : Mem} (hL : L ≤ 3584) (hi : i + 6 < L) (hJ : LJ G b L xs x m h s) (I : Inv n s) (hn : n < 512) (K : ∀ h' t, LJ G b L xs x m h' t → Inv (n + 1) t → V G (la nm) post h' cr sr 1457 [some (.ref b), some (.ref x), some (.ref m), some (.int (nI i))] []) : V G (la nm) post h (cr + 600) (sr + 3480) 636 [some (.ref b), some (.ref x), some (.ref m), some (.int (nI i))] [] := by
  obtain ⟨g, am, rfl, R, Rm, hM, hb, hgb⟩ := hJ
  have IA := I.a hn
  refine V_exists (N := md_shapeOf) d_la_law_651 ml_la_54 mdf_md_shapeOf wi_md_shapeOf wz_md_shapeOf (mc_shapeOf G Rm IA (xs (i + 1))) Rm.obj ⟨_, rfl, rfl⟩ rfl (Nat.le_of_ble_eq_true rfl) (by decide) rfl rfl (fun hE => ?_)
  obtain ⟨_, _, r0, _, t0, _, Q0⟩ := hE
  refine V.need (cr := cr + 0) (sr := sr + 0) ?_ (by omega) (by omega)
  refine V_aload_n d_la_law_636 rfl rfl ?_
  refine V_arg 1 d_la_law_637 d_la_law_638 d_la_law_639 d_la_law_640 d_la_law_641 (by decide) hb hL (by omega) ?_
  refine V_callV (N := fe_shapeOf) d_la_law_642 ml_la_51 mdf_fe_shapeOf wi_fe_shapeOf wz_fe_shapeOf (xc_shapeOf G R IA (xs (i + 1))) R.1.1.1 ⟨_, rfl, rfl⟩ rfl rfl (Nat.le_of_ble_eq_true rfl) (by decide) (Nat.le_of_ble_eq_true rfl) rfl rfl (kI fun r1 h1 p1 => ?_)
  obtain ⟨g1, _, S1, _⟩ := (p1 r0 t0 Q0).2
  obtain ⟨Rm1, _⟩ := Rm.st hM S1
  have hb1 : h1 b = some (31, scrL L xs) := (S1.1 b (by rw [hb]; simp) hgb).1.trans hb
  refine V_aload_n d_la_law_645 rfl rfl ?_
  refine V_arg 1 d_la_law_646 d_la_law_647 d_la_law_648 d_la_law_649 d_la_law_650 (by decide) hb1 hL (by omega) ?_
  refine V_callV (N := md_shapeOf) d_la_law_651 ml_la_54 mdf_md_shapeOf wi_md_shapeOf wz_md_shapeOf (mc_shapeOf G Rm1 IA (xs (i + 1))) Rm1.obj ⟨_, rfl, rfl⟩ rfl rfl (Nat.le_of_ble_eq_true rfl) (by decide) (Nat.le_of_ble_eq_true rfl) rfl rfl (kI fun r2 h2 p2 => ?_)
  obtain ⟨t, M2, Q2⟩ := p2
  obtain ⟨e12, N2⟩ := p1 r2 t Q2
  have I2 : Inv (n + 1) t := I.sc Q2.2
  refine V_icmp_eq d_la_law_654 (fun c => ?_) (fun c => absurd e12 c)
  exact K h2 t (LJ.next rfl Rm hM hb hgb I2.sm N2 M2) I2
theorem law_9 {G : Gk} {nm : String} {post : Option Value → Hp → Prop} {b L x m i n cr sr : Nat} {xs : Nat → Int32} {h : Hp} {s : Mem} (hL : L ≤ 3584) (hi : i + 6 < L) (hJ : LJ G b L xs x m h s) (I : Inv n s) (hn : n < 512) (K : ∀ h' t, LJ G b L xs x m h' t → Inv (n + 1) t → V G (la nm) post h' cr sr 1457 [some (.ref b), some (.ref x), some (.ref m), some (.int (nI i))] []) : V G (la nm) post h (cr + 600) (sr + 3480) 659 [some (.ref b), some (.ref x), some (.ref m), some (.int (nI i))] [] := by
  obtain ⟨g, am, rfl, R, Rm, hM, hb, hgb⟩ := hJ
  have IA := I.a hn
  refine V_exists (N := md_holders) d_la_law_674 ml_la_58 mdf_md_holders wi_md_holders wz_md_holders (mc_holders G Rm IA (xs (i + 1))) Rm.obj ⟨_, rfl, rfl⟩ rfl (Nat.le_of_ble_eq_true rfl) (by decide) rfl rfl (fun hE => ?_)
  obtain ⟨_, _, r0, _, t0, _, Q0⟩ := hE
  refine V.need (cr := cr + 0) (sr := sr + 0) ?_ (by omega) (by omega)
  refine V_aload_n d_la_law_659 rfl rfl ?_
  refine V_arg 1 d_la_law_660 d_la_law_661 d_la_law_662 d_la_law_663 d_la_law_664 (by decide) hb hL (by omega) ?_
  refine V_callV (N := fe_holders) d_la_law_665 ml_la_55 mdf_fe_holders wi_fe_holders wz_fe_holders (xc_holders G R IA (xs (i + 1))) R.1.1.1 ⟨_, rfl, rfl⟩ rfl rfl (Nat.le_of_ble_eq_true rfl) (by decide) (Nat.le_of_ble_eq_true rfl) rfl rfl (kI fun r1 h1 p1 => ?_)
  obtain ⟨g1, _, S1, _⟩ := (p1 r0 t0 Q0).2
  obtain ⟨Rm1, _⟩ := Rm.st hM S1
  have hb1 : h1 b = some (31, scrL L xs) := (S1.1 b (by rw [hb]; simp) hgb).1.trans hb
  refine V_aload_n d_la_law_668 rfl rfl ?_
  refine V_arg 1 d_la_law_669 d_la_law_670 d_la_law_671 d_la_law_672 d_la_law_673 (by decide) hb1 hL (by omega) ?_
  refine V_callV (N := md_holders) d_la_law_674 ml_la_58 mdf_md_holders wi_md_holders wz_md_holders (mc_holders G Rm1 IA (xs (i + 1))) Rm1.obj ⟨_, rfl, rfl⟩ rfl rfl (Nat.le_of_ble_eq_true rfl) (by decide) (Nat.le_of_ble_eq_true rfl) rfl rfl (kI fun r2 h2 p2 => ?_)
  obtain ⟨t, M2, Q2⟩ := p2
  obtain ⟨e12, N2⟩ := p1 r2 t Q2
  have I2 : Inv (n + 1) t := I.sc Q2.2
  refine V_icmp_eq d_la_law_677 (fun c => ?_) (fun c => absurd e12 c)
  exact K h2 t (LJ.next rfl Rm hM hb hgb I2.sm N2 M2) I2
theorem law_10 {G : Gk} {nm : String} {post : Option Value → Hp → Prop} {b L x m i n cr sr : Nat} {xs : Nat → Int32} {h : Hp} {s : Mem} (hL : L ≤ 3584) (hi : i + 6 < L) (hJ : LJ G b L xs x m h s) (I : Inv n s) (hn : n < 512) (K : ∀ h' t, LJ G b L xs x m h' t → Inv (n + 1) t → V G (la nm) post h' cr sr 1457 [some (.ref b), some (.ref x), some (.ref m), some (.int (nI i))] []) : V G (la nm) post h (cr + 600) (sr + 3480) 682 [some (.ref b), some (.ref x), some (.ref m), some (.int (nI i))] [] := by
  obtain ⟨g, am, rfl, R, Rm, hM, hb, hgb⟩ := hJ
  have IA := I.a hn
  refine V_exists (N := md_holds) d_la_law_707 ml_la_62 mdf_md_holds wi_md_holds wz_md_holds (mc_holds G Rm IA (xs (i + 1)) (xs (i + 2))) Rm.obj ⟨_, rfl, rfl⟩ rfl (Nat.le_of_ble_eq_true rfl) (by decide) rfl rfl (fun hE => ?_)
  obtain ⟨_, _, r0, _, t0, _, Q0⟩ := hE
  refine V.need (cr := cr + 0) (sr := sr + 0) ?_ (by omega) (by omega)
  refine V_aload_n d_la_law_682 rfl rfl ?_
  refine V_arg 1 d_la_law_683 d_la_law_684 d_la_law_685 d_la_law_686 d_la_law_687 (by decide) hb hL (by omega) ?_
  refine V_arg 2 d_la_law_688 d_la_law_689 d_la_law_690 d_la_law_691 d_la_law_692 (by decide) hb hL (by omega) ?_
  refine V_callV (N := fe_holds) d_la_law_693 ml_la_59 mdf_fe_holds wi_fe_holds wz_fe_holds (xc_holds G R IA (xs (i + 1)) (xs (i + 2))) R.1.1.1 ⟨_, rfl, rfl⟩ rfl rfl (Nat.le_of_ble_eq_true rfl) (by decide) (Nat.le_of_ble_eq_true rfl) rfl rfl (kI fun r1 h1 p1 => ?_)
  obtain ⟨g1, _, S1, _⟩ := (p1 r0 t0 Q0).2
  obtain ⟨Rm1, _⟩ := Rm.st hM S1
  have hb1 : h1 b = some (31, scrL L xs) := (S1.1 b (by rw [hb]; simp) hgb).1.trans hb
  refine V_aload_n d_la_law_696 rfl rfl ?_
  refine V_arg 1 d_la_law_697 d_la_law_698 d_la_law_699 d_la_law_700 d_la_law_701 (by decide) hb1 hL (by omega) ?_
  refine V_arg 2 d_la_law_702 d_la_law_703 d_la_law_704 d_la_law_705 d_la_law_706 (by decide) hb1 hL (by omega) ?_
  refine V_callV (N := md_holds) d_la_law_707 ml_la_62 mdf_md_holds wi_md_holds wz_md_holds (mc_holds G Rm1 IA (xs (i + 1)) (xs (i + 2))) Rm1.obj ⟨_, rfl, rfl⟩ rfl rfl (Nat.le_of_ble_eq_true rfl) (by decide) (Nat.le_of_ble_eq_true rfl) rfl rfl (kI fun r2 h2 p2 => ?_)
  obtain ⟨t, M2, Q2⟩ := p2
  obtain ⟨e12, N2⟩ := p1 r2 t Q2
  have I2 : Inv (n + 1) t := I.sc Q2.2
  refine V_icmp_eq d_la_law_710 (fun c => ?_) (fun c => absurd e12 c)
  exact K h2 t (LJ.next rfl Rm hM hb hgb I2.sm N2 M2) I2
theorem law_11 {G : Gk} {nm : String} {post : Option Value → Hp → Prop} {b L x m i n cr sr : Nat} {xs : Nat → Int32} {h : Hp} {s : Mem} (hL : L ≤ 3584) (hi : i + 6 < L) (hJ : LJ G b L xs x m h s) (I : Inv n s) (hn : n < 512) (K : ∀ h' t, LJ G b L xs x m h' t → Inv (n + 1) t → V G (la nm) post h' cr sr 1457 [some (.ref b), some (.ref x), some (.ref m), some (.int (nI i))] []) : V G (la nm) post h (cr + 600) (sr + 3480) 715 [some (.ref b), some (.ref x), some (.ref m), some (.int (nI i))] [] := by
  obtain ⟨g, am, rfl, R, Rm, hM, hb, hgb⟩ := hJ
  have IA := I.a hn
  refine V_exists (N := md_set) d_la_law_750 ml_la_66 mdf_md_set wi_md_set wz_md_set (mc_set G Rm IA (xs (i + 1)) (xs (i + 2)) (xs (i + 3))) Rm.obj ⟨_, rfl, rfl⟩ rfl (Nat.le_of_ble_eq_true rfl) (by decide) rfl rfl (fun hE => ?_)
  obtain ⟨_, _, r0, _, t0, _, Q0⟩ := hE
  refine V.need (cr := cr + 6) (sr := sr + 1630) ?_ (by omega) (by omega)
  refine V_aload_n d_la_law_715 rfl rfl ?_
  refine V_arg 1 d_la_law_716 d_la_law_717 d_la_law_718 d_la_law_719 d_la_law_720 (by decide) hb hL (by omega) ?_
  refine V_arg 2 d_la_law_721 d_la_law_722 d_la_law_723 d_la_law_724 d_la_law_725 (by decide) hb hL (by omega) ?_
  refine V_arg 3 d_la_law_726 d_la_law_727 d_la_law_728 d_la_law_729 d_la_law_730 (by decide) hb hL (by omega) ?_
  refine V_callV (N := fe_set) d_la_law_731 ml_la_63 mdf_fe_set wi_fe_set wz_fe_set (xc_set G R IA (xs (i + 1)) (xs (i + 2)) (xs (i + 3))) R.1.1.1 ⟨_, rfl, rfl⟩ rfl rfl (Nat.le_of_ble_eq_true rfl) (by decide) (Nat.le_of_ble_eq_true rfl) rfl rfl (kI fun r1 h1 p1 => ?_)
  obtain ⟨g1, _, S1, _⟩ := (p1 r0 t0 Q0).2
  obtain ⟨Rm1, _⟩ := Rm.st hM S1
  have hb1 : h1 b = some (31, scrL L xs) := (S1.1 b (by rw [hb]; simp) hgb).1.trans hb
  refine V_aload_n d_la_law_734 rfl rfl ?_
  refine V_arg 1 d_la_law_735 d_la_law_736 d_la_law_737 d_la_law_738 d_la_law_739 (by decide) hb1 hL (by omega) ?_
  refine V_arg 2 d_la_law_740 d_la_law_741 d_la_law_742 d_la_law_743 d_la_law_744 (by decide) hb1 hL (by omega) ?_
  refine V_arg 3 d_la_law_745 d_la_law_746 d_la_law_747 d_la_law_748 d_la_law_749 (by decide) hb1 hL (by omega) ?_
  refine V_callV (N := md_set) d_la_law_750 ml_la_66 mdf_md_set wi_md_set wz_md_set (mc_set G Rm1 IA (xs (i + 1)) (xs (i + 2)) (xs (i + 3))) Rm1.obj ⟨_, rfl, rfl⟩ rfl rfl (Nat.le_of_ble_eq_true rfl) (by decide) (Nat.le_of_ble_eq_true rfl) rfl rfl (kI fun r2 h2 p2 => ?_)
  obtain ⟨t, M2, Q2⟩ := p2
  obtain ⟨e12, N2⟩ := p1 r2 t Q2
  have I2 : Inv (n + 1) t := I.set hn Q2
  refine V_icmp_eq d_la_law_753 (fun c => ?_) (fun c => absurd e12 c)
  exact K h2 t (LJ.next rfl Rm hM hb hgb I2.sm N2 M2) I2
theorem law_12 {G : Gk} {nm : String} {post : Option Value → Hp → Prop} {b L x m i n cr sr : Nat} {xs : Nat → Int32} {h : Hp} {s : Mem} (hL : L ≤ 3584) (hi : i + 6 < L) (hJ : LJ G b L xs x m h s) (I : Inv n s) (hn : n < 512) (K : ∀ h' t, LJ G b L xs x m h' t → Inv (n + 1) t → V G (la nm) post h' cr sr 1457 [some (.ref b), some (.ref x), some (.ref m), some (.int (nI i))] []) : V G (la nm) post h (cr + 600) (sr + 3480) 758 [some (.ref b), some (.ref x), some (.ref m), some (.int (nI i))] [] := by
  obtain ⟨g, am, rfl, R, Rm, hM, hb, hgb⟩ := hJ
  have IA := I.a hn
  refine V_exists (N := md_lead) d_la_law_793 ml_la_70 mdf_md_lead wi_md_lead wz_md_lead (mc_lead G Rm IA (xs (i + 1)) (xs (i + 2)) (xs (i + 3))) Rm.obj ⟨_, rfl, rfl⟩ rfl (Nat.le_of_ble_eq_true rfl) (by decide) rfl rfl (fun hE => ?_)
  obtain ⟨_, _, r0, _, t0, _, Q0⟩ := hE
  refine V.need (cr := cr + 6) (sr := sr + 1630) ?_ (by omega) (by omega)
  refine V_aload_n d_la_law_758 rfl rfl ?_
  refine V_arg 1 d_la_law_759 d_la_law_760 d_la_law_761 d_la_law_762 d_la_law_763 (by decide) hb hL (by omega) ?_
  refine V_arg 2 d_la_law_764 d_la_law_765 d_la_law_766 d_la_law_767 d_la_law_768 (by decide) hb hL (by omega) ?_
  refine V_arg 3 d_la_law_769 d_la_law_770 d_la_law_771 d_la_law_772 d_la_law_773 (by decide) hb hL (by omega) ?_
  refine V_callV (N := fe_lead) d_la_law_774 ml_la_67 mdf_fe_lead wi_fe_lead wz_fe_lead (xc_lead G R IA (xs (i + 1)) (xs (i + 2)) (xs (i + 3))) R.1.1.1 ⟨_, rfl, rfl⟩ rfl rfl (Nat.le_of_ble_eq_true rfl) (by decide) (Nat.le_of_ble_eq_true rfl) rfl rfl (kI fun r1 h1 p1 => ?_)
  obtain ⟨g1, _, S1, _⟩ := (p1 r0 t0 Q0).2
  obtain ⟨Rm1, _⟩ := Rm.st hM S1
  have hb1 : h1 b = some (31, scrL L xs) := (S1.1 b (by rw [hb]; simp) hgb).1.trans hb
  refine V_aload_n d_la_law_777 rfl rfl ?_
  refine V_arg 1 d_la_law_778 d_la_law_779 d_la_law_780 d_la_law_781 d_la_law_782 (by decide) hb1 hL (by omega) ?_
  refine V_arg 2 d_la_law_783 d_la_law_784 d_la_law_785 d_la_law_786 d_la_law_787 (by decide) hb1 hL (by omega) ?_
  refine V_arg 3 d_la_law_788 d_la_law_789 d_la_law_790 d_la_law_791 d_la_law_792 (by decide) hb1 hL (by omega) ?_
  refine V_callV (N := md_lead) d_la_law_793 ml_la_70 mdf_md_lead wi_md_lead wz_md_lead (mc_lead G Rm1 IA (xs (i + 1)) (xs (i + 2)) (xs (i + 3))) Rm1.obj ⟨_, rfl, rfl⟩ rfl rfl (Nat.le_of_ble_eq_true rfl) (by decide) (Nat.le_of_ble_eq_true rfl) rfl rfl (kI fun r2 h2 p2 => ?_)
  obtain ⟨t, M2, Q2⟩ := p2
  obtain ⟨e12, N2⟩ := p1 r2 t Q2
  have I2 : Inv (n + 1) t := I.lead hn Q2
  refine V_icmp_eq d_la_law_796 (fun c => ?_) (fun c => absurd e12 c)
  exact K h2 t (LJ.next rfl Rm hM hb hgb I2.sm N2 M2) I2
theorem law_13 {G : Gk} {nm : String} {post : Option Value → Hp → Prop} {b L x m i n cr sr : Nat} {xs : Nat → Int32} {h : Hp} {s : Mem} (hL : L ≤ 3584) (hi : i + 6 < L) (hJ : LJ G b L xs x m h s) (I : Inv n s) (hn : n < 512) (K : ∀ h' t, LJ G b L xs x m h' t → Inv (n + 1) t → V G (la nm) post h' cr sr 1457 [some (.ref b), some (.ref x), some (.ref m), some (.int (nI i))] []) : V G (la nm) post h (cr + 600) (sr + 3480) 801 [some (.ref b), some (.ref x), some (.ref m), some (.int (nI i))] [] := by
  obtain ⟨g, am, rfl, R, Rm, hM, hb, hgb⟩ := hJ
  have IA := I.a hn
  refine V_exists (N := md_unset) d_la_law_826 ml_la_74 mdf_md_unset wi_md_unset wz_md_unset (mc_unset G Rm IA (xs (i + 1)) (xs (i + 2))) Rm.obj ⟨_, rfl, rfl⟩ rfl (Nat.le_of_ble_eq_true rfl) (by decide) rfl rfl (fun hE => ?_)
  obtain ⟨_, _, r0, _, t0, _, Q0⟩ := hE
  refine V.need (cr := cr + 6) (sr := sr + 1630) ?_ (by omega) (by omega)
  refine V_aload_n d_la_law_801 rfl rfl ?_
  refine V_arg 1 d_la_law_802 d_la_law_803 d_la_law_804 d_la_law_805 d_la_law_806 (by decide) hb hL (by omega) ?_
  refine V_arg 2 d_la_law_807 d_la_law_808 d_la_law_809 d_la_law_810 d_la_law_811 (by decide) hb hL (by omega) ?_
  refine V_callV (N := fe_unset) d_la_law_812 ml_la_71 mdf_fe_unset wi_fe_unset wz_fe_unset (xc_unset G R IA (xs (i + 1)) (xs (i + 2))) R.1.1.1 ⟨_, rfl, rfl⟩ rfl rfl (Nat.le_of_ble_eq_true rfl) (by decide) (Nat.le_of_ble_eq_true rfl) rfl rfl (kI fun r1 h1 p1 => ?_)
  obtain ⟨g1, _, S1, _⟩ := (p1 r0 t0 Q0).2
  obtain ⟨Rm1, _⟩ := Rm.st hM S1
  have hb1 : h1 b = some (31, scrL L xs) := (S1.1 b (by rw [hb]; simp) hgb).1.trans hb
  refine V_aload_n d_la_law_815 rfl rfl ?_
  refine V_arg 1 d_la_law_816 d_la_law_817 d_la_law_818 d_la_law_819 d_la_law_820 (by decide) hb1 hL (by omega) ?_
  refine V_arg 2 d_la_law_821 d_la_law_822 d_la_law_823 d_la_law_824 d_la_law_825 (by decide) hb1 hL (by omega) ?_
  refine V_callV (N := md_unset) d_la_law_826 ml_la_74 mdf_md_unset wi_md_unset wz_md_unset (mc_unset G Rm1 IA (xs (i + 1)) (xs (i + 2))) Rm1.obj ⟨_, rfl, rfl⟩ rfl rfl (Nat.le_of_ble_eq_true rfl) (by decide) (Nat.le_of_ble_eq_true rfl) rfl rfl (kI fun r2 h2 p2 => ?_)
  obtain ⟨t, M2, Q2⟩ := p2
  obtain ⟨e12, N2⟩ := p1 r2 t Q2
  have I2 : Inv (n + 1) t := I.unset hn Q2
  refine V_icmp_eq d_la_law_829 (fun c => ?_) (fun c => absurd e12 c)
  exact K h2 t (LJ.next rfl Rm hM hb hgb I2.sm N2 M2) I2
theorem law_14 {G : Gk} {nm : String} {post : Option Value → Hp → Prop} {b L x m i n cr sr : Nat} {xs : Nat → Int32} {h : Hp} {s : Mem} (hL : L ≤ 3584) (hi : i + 6 < L) (hJ : LJ G b L xs x m h s) (I : Inv n s) (hn : n < 512) (K : ∀ h' t, LJ G b L xs x m h' t → Inv (n + 1) t → V G (la nm) post h' cr sr 1457 [some (.ref b), some (.ref x), some (.ref m), some (.int (nI i))] []) : V G (la nm) post h (cr + 600) (sr + 3480) 834 [some (.ref b), some (.ref x), some (.ref m), some (.int (nI i))] [] := by
  obtain ⟨g, am, rfl, R, Rm, hM, hb, hgb⟩ := hJ
  have IA := I.a hn
  refine V_exists (N := md_insert) d_la_law_879 ml_la_78 mdf_md_insert wi_md_insert wz_md_insert (mc_insert G Rm IA (xs (i + 1)) (xs (i + 2)) (xs (i + 3)) (xs (i + 4))) Rm.obj ⟨_, rfl, rfl⟩ rfl (Nat.le_of_ble_eq_true rfl) (by decide) rfl rfl (fun hE => ?_)
  obtain ⟨_, _, r0, _, t0, _, Q0⟩ := hE
  refine V.need (cr := cr + 6) (sr := sr + 1630) ?_ (by omega) (by omega)
  refine V_aload_n d_la_law_834 rfl rfl ?_
  refine V_arg 1 d_la_law_835 d_la_law_836 d_la_law_837 d_la_law_838 d_la_law_839 (by decide) hb hL (by omega) ?_
  refine V_arg 2 d_la_law_840 d_la_law_841 d_la_law_842 d_la_law_843 d_la_law_844 (by decide) hb hL (by omega) ?_
  refine V_arg 3 d_la_law_845 d_la_law_846 d_la_law_847 d_la_law_848 d_la_law_849 (by decide) hb hL (by omega) ?_
  refine V_arg 4 d_la_law_850 d_la_law_851 d_la_law_852 d_la_law_853 d_la_law_854 (by decide) hb hL (by omega) ?_
  refine V_callV (N := fe_insert) d_la_law_855 ml_la_75 mdf_fe_insert wi_fe_insert wz_fe_insert (xc_insert G R IA (xs (i + 1)) (xs (i + 2)) (xs (i + 3)) (xs (i + 4))) R.1.1.1 ⟨_, rfl, rfl⟩ rfl rfl (Nat.le_of_ble_eq_true rfl) (by decide) (Nat.le_of_ble_eq_true rfl) rfl rfl (kI fun r1 h1 p1 => ?_)
  obtain ⟨g1, _, S1, _⟩ := (p1 r0 t0 Q0).2
  obtain ⟨Rm1, _⟩ := Rm.st hM S1
  have hb1 : h1 b = some (31, scrL L xs) := (S1.1 b (by rw [hb]; simp) hgb).1.trans hb
  refine V_aload_n d_la_law_858 rfl rfl ?_
  refine V_arg 1 d_la_law_859 d_la_law_860 d_la_law_861 d_la_law_862 d_la_law_863 (by decide) hb1 hL (by omega) ?_
  refine V_arg 2 d_la_law_864 d_la_law_865 d_la_law_866 d_la_law_867 d_la_law_868 (by decide) hb1 hL (by omega) ?_
  refine V_arg 3 d_la_law_869 d_la_law_870 d_la_law_871 d_la_law_872 d_la_law_873 (by decide) hb1 hL (by omega) ?_
  refine V_arg 4 d_la_law_874 d_la_law_875 d_la_law_876 d_la_law_877 d_la_law_878 (by decide) hb1 hL (by omega) ?_
  refine V_callV (N := md_insert) d_la_law_879 ml_la_78 mdf_md_insert wi_md_insert wz_md_insert (mc_insert G Rm1 IA (xs (i + 1)) (xs (i + 2)) (xs (i + 3)) (xs (i + 4))) Rm1.obj ⟨_, rfl, rfl⟩ rfl rfl (Nat.le_of_ble_eq_true rfl) (by decide) (Nat.le_of_ble_eq_true rfl) rfl rfl (kI fun r2 h2 p2 => ?_)
  obtain ⟨t, M2, Q2⟩ := p2
  obtain ⟨e12, N2⟩ := p1 r2 t Q2
  have I2 : Inv (n + 1) t := I.insert hn Q2
  refine V_icmp_eq d_la_law_882 (fun c => ?_) (fun c => absurd e12 c)
  exact K h2 t (LJ.next rfl Rm hM hb hgb I2.sm N2 M2) I2
theorem law_15 {G : Gk} {nm : String} {post : Option Value → Hp → Prop} {b L x m i n cr sr : Nat} {xs : Nat → Int32} {h : Hp} {s : Mem} (hL : L ≤ 3584) (hi : i + 6 < L) (hJ : LJ G b L xs x m h s) (I : Inv n s) (hn : n < 512) (K : ∀ h' t, LJ G b L xs x m h' t → Inv (n + 1) t → V G (la nm) post h' cr sr 1457 [some (.ref b), some (.ref x), some (.ref m), some (.int (nI i))] []) : V G (la nm) post h (cr + 600) (sr + 3480) 887 [some (.ref b), some (.ref x), some (.ref m), some (.int (nI i))] [] := by
  obtain ⟨g, am, rfl, R, Rm, hM, hb, hgb⟩ := hJ
  have IA := I.a hn
  refine V_exists (N := md_remove) d_la_law_922 ml_la_82 mdf_md_remove wi_md_remove wz_md_remove (mc_remove G Rm IA (xs (i + 1)) (xs (i + 2)) (xs (i + 3))) Rm.obj ⟨_, rfl, rfl⟩ rfl (Nat.le_of_ble_eq_true rfl) (by decide) rfl rfl (fun hE => ?_)
  obtain ⟨_, _, r0, _, t0, _, Q0⟩ := hE
  refine V.need (cr := cr + 6) (sr := sr + 1630) ?_ (by omega) (by omega)
  refine V_aload_n d_la_law_887 rfl rfl ?_
  refine V_arg 1 d_la_law_888 d_la_law_889 d_la_law_890 d_la_law_891 d_la_law_892 (by decide) hb hL (by omega) ?_
  refine V_arg 2 d_la_law_893 d_la_law_894 d_la_law_895 d_la_law_896 d_la_law_897 (by decide) hb hL (by omega) ?_
  refine V_arg 3 d_la_law_898 d_la_law_899 d_la_law_900 d_la_law_901 d_la_law_902 (by decide) hb hL (by omega) ?_
  refine V_callV (N := fe_remove) d_la_law_903 ml_la_79 mdf_fe_remove wi_fe_remove wz_fe_remove (xc_remove G R IA (xs (i + 1)) (xs (i + 2)) (xs (i + 3))) R.1.1.1 ⟨_, rfl, rfl⟩ rfl rfl (Nat.le_of_ble_eq_true rfl) (by decide) (Nat.le_of_ble_eq_true rfl) rfl rfl (kI fun r1 h1 p1 => ?_)
  obtain ⟨g1, _, S1, _⟩ := (p1 r0 t0 Q0).2
  obtain ⟨Rm1, _⟩ := Rm.st hM S1
  have hb1 : h1 b = some (31, scrL L xs) := (S1.1 b (by rw [hb]; simp) hgb).1.trans hb
  refine V_aload_n d_la_law_906 rfl rfl ?_
  refine V_arg 1 d_la_law_907 d_la_law_908 d_la_law_909 d_la_law_910 d_la_law_911 (by decide) hb1 hL (by omega) ?_
  refine V_arg 2 d_la_law_912 d_la_law_913 d_la_law_914 d_la_law_915 d_la_law_916 (by decide) hb1 hL (by omega) ?_
  refine V_arg 3 d_la_law_917 d_la_law_918 d_la_law_919 d_la_law_920 d_la_law_921 (by decide) hb1 hL (by omega) ?_
  refine V_callV (N := md_remove) d_la_law_922 ml_la_82 mdf_md_remove wi_md_remove wz_md_remove (mc_remove G Rm1 IA (xs (i + 1)) (xs (i + 2)) (xs (i + 3))) Rm1.obj ⟨_, rfl, rfl⟩ rfl rfl (Nat.le_of_ble_eq_true rfl) (by decide) (Nat.le_of_ble_eq_true rfl) rfl rfl (kI fun r2 h2 p2 => ?_)
  obtain ⟨t, M2, Q2⟩ := p2
  obtain ⟨e12, N2⟩ := p1 r2 t Q2
  have I2 : Inv (n + 1) t := I.remove hn Q2
  refine V_icmp_eq d_la_law_925 (fun c => ?_) (fun c => absurd e12 c)
  exact K h2 t (LJ.next rfl Rm hM hb hgb I2.sm N2 M2) I2
theorem law_16 {G : Gk} {nm : String} {post : Option Value → Hp → Prop} {b L x m i n cr sr : Nat} {xs : Nat → Int32} {h : Hp} {s : Mem} (hL : L ≤ 3584) (hi : i + 6 < L) (hJ : LJ G b L xs x m h s) (I : Inv n s) (hn : n < 512) (K : ∀ h' t, LJ G b L xs x m h' t → Inv (n + 1) t → V G (la nm) post h' cr sr 1457 [some (.ref b), some (.ref x), some (.ref m), some (.int (nI i))] []) : V G (la nm) post h (cr + 600) (sr + 3480) 930 [some (.ref b), some (.ref x), some (.ref m), some (.int (nI i))] [] := by
  obtain ⟨g, am, rfl, R, Rm, hM, hb, hgb⟩ := hJ
  have IA := I.a hn
  refine V_exists (N := md_sort) d_la_law_991 ml_la_87 mdf_md_sort wi_md_sort wz_md_sort (mc_sort G Rm IA (xs (i + 1)) (xs (i + 2)) (xs (i + 3)) (bz (xs (i + 4)))) Rm.obj ⟨_, rfl, rfl⟩ rfl (Nat.le_of_ble_eq_true rfl) (by decide) rfl rfl (fun hE => ?_)
  obtain ⟨_, _, r0, _, t0, _, Q0⟩ := hE
  refine V.need (cr := cr + 8) (sr := sr + 1640) ?_ (by omega) (by omega)
  refine V_aload_n d_la_law_930 rfl rfl ?_
  refine V_arg 1 d_la_law_931 d_la_law_932 d_la_law_933 d_la_law_934 d_la_law_935 (by decide) hb hL (by omega) ?_
  refine V_arg 2 d_la_law_936 d_la_law_937 d_la_law_938 d_la_law_939 d_la_law_940 (by decide) hb hL (by omega) ?_
  refine V_arg 3 d_la_law_941 d_la_law_942 d_la_law_943 d_la_law_944 d_la_law_945 (by decide) hb hL (by omega) ?_
  refine V_arg 4 d_la_law_946 d_la_law_947 d_la_law_948 d_la_law_949 d_la_law_950 (by decide) hb hL (by omega) ?_
  refine V_bool d_la_law_951 d_la_law_954 d_la_law_955 d_la_law_958 ?_
  refine V_callV (N := fe_sort) d_la_law_959 ml_la_83 mdf_fe_sort wi_fe_sort wz_fe_sort (xc_sort G R IA (xs (i + 1)) (xs (i + 2)) (xs (i + 3)) (bz (xs (i + 4)))) R.1.1.1 ⟨_, rfl, rfl⟩ rfl rfl (Nat.le_of_ble_eq_true rfl) (by decide) (Nat.le_of_ble_eq_true rfl) rfl rfl (kI fun r1 h1 p1 => ?_)
  obtain ⟨g1, _, S1, _⟩ := (p1 r0 t0 Q0).2
  obtain ⟨Rm1, _⟩ := Rm.st hM S1
  have hb1 : h1 b = some (31, scrL L xs) := (S1.1 b (by rw [hb]; simp) hgb).1.trans hb
  refine V_aload_n d_la_law_962 rfl rfl ?_
  refine V_arg 1 d_la_law_963 d_la_law_964 d_la_law_965 d_la_law_966 d_la_law_967 (by decide) hb1 hL (by omega) ?_
  refine V_arg 2 d_la_law_968 d_la_law_969 d_la_law_970 d_la_law_971 d_la_law_972 (by decide) hb1 hL (by omega) ?_
  refine V_arg 3 d_la_law_973 d_la_law_974 d_la_law_975 d_la_law_976 d_la_law_977 (by decide) hb1 hL (by omega) ?_
  refine V_arg 4 d_la_law_978 d_la_law_979 d_la_law_980 d_la_law_981 d_la_law_982 (by decide) hb1 hL (by omega) ?_
  refine V_bool d_la_law_983 d_la_law_986 d_la_law_987 d_la_law_990 ?_
  refine V_callV (N := md_sort) d_la_law_991 ml_la_87 mdf_md_sort wi_md_sort wz_md_sort (mc_sort G Rm1 IA (xs (i + 1)) (xs (i + 2)) (xs (i + 3)) (bz (xs (i + 4)))) Rm1.obj ⟨_, rfl, rfl⟩ rfl rfl (Nat.le_of_ble_eq_true rfl) (by decide) (Nat.le_of_ble_eq_true rfl) rfl rfl (kI fun r2 h2 p2 => ?_)
  obtain ⟨t, M2, Q2⟩ := p2
  obtain ⟨e12, N2⟩ := p1 r2 t Q2
  have I2 : Inv (n + 1) t := I.sort hn Q2
  refine V_icmp_eq d_la_law_994 (fun c => ?_) (fun c => absurd e12 c)
  exact K h2 t (LJ.next rfl Rm hM hb hgb I2.sm N2 M2) I2
