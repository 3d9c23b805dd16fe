/-! The law's cases, printed by wip/whole/gen/lawcases.py -/
section CASES
variable {l : Launch} {K Mo L p k n : Nat} {xs : Nat → Int32} {M : List va_E}
theorem lg_cmp_same (x : Int64) : lg_cmp x x = 0 := by simp [lg_cmp]
theorem lw_store (hLI : LI K Mo L xs M) (hL : L ≤ 2562) (hp : p + 5 ≤ L) (hS : Sp l i_L_store i_R_store [.int (xs (p + 1))] K Mo L xs M) (hk : k + 2 ≤ 601024) (hn : n + 12 ≤ 7293000) (IH : ∀ M2, LI K Mo L xs M2 → ∃ Mf, LI K Mo L xs Mf ∧ J l (i_law L xs) 991 [(0, .ref 1000), (1, .ref 0), (2, .ref 15), (3, .ref 27), (4, .int (nI p))] [] M2 (k + 2) (n + 12) (.inl (some (.int (nI 1)), Mf))) : ∃ Mf, LI K Mo L xs Mf ∧ J l (i_law L xs) 216 [(0, .ref 1000), (1, .ref 0), (2, .ref 15), (3, .ref 27), (4, .int (nI p))] [] M k n (.inl (some (.int (nI 1)), Mf)) := by
  obtain ⟨M1, M2, r, a, f, fs, fs2, c1, h15, hl1, c2, h15b, c3, h27, hf, hLI2⟩ := hS
  obtain ⟨Mf, hF, hJ⟩ := IH M2 hLI2
  refine ⟨Mf, hF, ?_⟩
  have hl0 := hLI.len
  have hl2 := hLI2.len
  refine J.aload_n d_L_law_216 rfl rfl ?_
  refine J.aload_n d_L_law_217 rfl rfl ?_
  refine J.iload d_L_law_218 rfl ?_
  refine J.iconst d_L_law_220 (v := nI 1) (by decide) ?_
  refine J.iaddN d_L_law_221 ?_
  refine J.ialoadS d_L_law_222 rfl (by omega) (by omega) ?_
  refine J.aload_n d_L_law_223 rfl rfl ?_
  refine J.invokestaticW (as := [.ref 0, .int (xs (p + 1)), .ref 27]) (rest := []) c1 k_law_L_store d_L_law_224 rfl (Nat.le_of_ble_eq_true rfl) ⟨hk, hn⟩ (Or.inl (hl1.trans hl0.symm)) ?_
  refine J.istore d_L_law_227 (Nat.le_of_ble_eq_true rfl) rfl ?_
  refine J.aload_n d_L_law_229 rfl rfl ?_
  refine J.aload_n d_L_law_230 rfl rfl ?_
  refine J.iload d_L_law_231 rfl ?_
  refine J.iconst d_L_law_233 (v := nI 1) (by decide) ?_
  refine J.iaddN d_L_law_234 ?_
  refine J.ialoadS d_L_law_235 rfl (by omega) (by omega) ?_
  refine J.v1i c2 k_law_R_store d_L_law_236 h15 rfl (hl2.trans hl1.symm) ?_ (hf := ⟨by show k + 2 + 0 ≤ 601024; omega, by show n + 12 + 0 ≤ 7293000; omega⟩)
  refine J.istore d_L_law_239 (Nat.le_of_ble_eq_true rfl) rfl ?_
  refine J.aload_n d_L_law_241 rfl rfl ?_
  refine J.v0i c3 k_law_R_thrown d_L_law_242 h15b rfl rfl ?_ (hf := ⟨by show k + 2 + 0 + 0 ≤ 601024; omega, by show n + 12 + 0 + 0 ≤ 7293000; omega⟩)
  refine J.iload d_L_law_245 rfl ?_
  refine J.icmp_eq d_L_law_247 (tgt := 252) (by decide) (fun _ => ?_) (fun h => absurd rfl h)
  refine J.iload d_L_law_252 rfl ?_
  refine J.if_ne d_L_law_254 (tgt := 269) (by decide) (fun h => ?_) (fun h => ?_)
  · refine J.goto d_L_law_269 (tgt := 991) (by decide) ?_
    exact J.lvtake 5 rfl hJ
  · have h0 : r = 0 := h
    refine J.aload_n d_L_law_257 rfl rfl ?_
    refine J.iconst d_L_law_258 (v := nI 0) (by decide) ?_
    refine J.laloadR d_L_law_259 h27 (vp_in_nI (by decide) (by decide)) ?_
    refine J.iload d_L_law_260 rfl ?_
    refine J.i2l d_L_law_262 ?_
    refine J.lcmp d_L_law_263 ?_
    have e0 : lg_cmp (f (nI 0).toNatClampNeg) a.toInt64 = 0 := by rw [show (nI 0).toNatClampNeg = 0 from by decide, hf h0]; exact lg_cmp_same _
    refine J.if_eq d_L_law_264 (tgt := 269) (by decide) (fun _ => ?_) (fun h => absurd e0 h)
    refine J.goto d_L_law_269 (tgt := 991) (by decide) ?_
    exact J.lvtake 5 rfl hJ
theorem lw_drop (hLI : LI K Mo L xs M) (hL : L ≤ 2562) (hp : p + 5 ≤ L) (hS : Sp l i_L_drop i_R_drop [.int (xs (p + 1))] K Mo L xs M) (hk : k + 2 ≤ 601024) (hn : n + 12 ≤ 7293000) (IH : ∀ M2, LI K Mo L xs M2 → ∃ Mf, LI K Mo L xs Mf ∧ J l (i_law L xs) 991 [(0, .ref 1000), (1, .ref 0), (2, .ref 15), (3, .ref 27), (4, .int (nI p))] [] M2 (k + 2) (n + 12) (.inl (some (.int (nI 1)), Mf))) : ∃ Mf, LI K Mo L xs Mf ∧ J l (i_law L xs) 272 [(0, .ref 1000), (1, .ref 0), (2, .ref 15), (3, .ref 27), (4, .int (nI p))] [] M k n (.inl (some (.int (nI 1)), Mf)) := by
  obtain ⟨M1, M2, r, a, f, fs, fs2, c1, h15, hl1, c2, h15b, c3, h27, hf, hLI2⟩ := hS
  obtain ⟨Mf, hF, hJ⟩ := IH M2 hLI2
  refine ⟨Mf, hF, ?_⟩
  have hl0 := hLI.len
  have hl2 := hLI2.len
  refine J.aload_n d_L_law_272 rfl rfl ?_
  refine J.aload_n d_L_law_273 rfl rfl ?_
  refine J.iload d_L_law_274 rfl ?_
  refine J.iconst d_L_law_276 (v := nI 1) (by decide) ?_
  refine J.iaddN d_L_law_277 ?_
  refine J.ialoadS d_L_law_278 rfl (by omega) (by omega) ?_
  refine J.aload_n d_L_law_279 rfl rfl ?_
  refine J.invokestaticW (as := [.ref 0, .int (xs (p + 1)), .ref 27]) (rest := []) c1 k_law_L_drop d_L_law_280 rfl (Nat.le_of_ble_eq_true rfl) ⟨hk, hn⟩ (Or.inl (hl1.trans hl0.symm)) ?_
  refine J.istore d_L_law_283 (Nat.le_of_ble_eq_true rfl) rfl ?_
  refine J.aload_n d_L_law_285 rfl rfl ?_
  refine J.aload_n d_L_law_286 rfl rfl ?_
  refine J.iload d_L_law_287 rfl ?_
  refine J.iconst d_L_law_289 (v := nI 1) (by decide) ?_
  refine J.iaddN d_L_law_290 ?_
  refine J.ialoadS d_L_law_291 rfl (by omega) (by omega) ?_
  refine J.v1i c2 k_law_R_drop d_L_law_292 h15 rfl (hl2.trans hl1.symm) ?_ (hf := ⟨by show k + 2 + 0 ≤ 601024; omega, by show n + 12 + 0 ≤ 7293000; omega⟩)
  refine J.istore d_L_law_295 (Nat.le_of_ble_eq_true rfl) rfl ?_
  refine J.aload_n d_L_law_297 rfl rfl ?_
  refine J.v0i c3 k_law_R_thrown d_L_law_298 h15b rfl rfl ?_ (hf := ⟨by show k + 2 + 0 + 0 ≤ 601024; omega, by show n + 12 + 0 + 0 ≤ 7293000; omega⟩)
  refine J.iload d_L_law_301 rfl ?_
  refine J.icmp_eq d_L_law_303 (tgt := 308) (by decide) (fun _ => ?_) (fun h => absurd rfl h)
  refine J.iload d_L_law_308 rfl ?_
  refine J.if_ne d_L_law_310 (tgt := 325) (by decide) (fun h => ?_) (fun h => ?_)
  · refine J.goto d_L_law_325 (tgt := 991) (by decide) ?_
    exact J.lvtake 5 rfl hJ
  · have h0 : r = 0 := h
    refine J.aload_n d_L_law_313 rfl rfl ?_
    refine J.iconst d_L_law_314 (v := nI 0) (by decide) ?_
    refine J.laloadR d_L_law_315 h27 (vp_in_nI (by decide) (by decide)) ?_
    refine J.iload d_L_law_316 rfl ?_
    refine J.i2l d_L_law_318 ?_
    refine J.lcmp d_L_law_319 ?_
    have e0 : lg_cmp (f (nI 0).toNatClampNeg) a.toInt64 = 0 := by rw [show (nI 0).toNatClampNeg = 0 from by decide, hf h0]; exact lg_cmp_same _
    refine J.if_eq d_L_law_320 (tgt := 325) (by decide) (fun _ => ?_) (fun h => absurd e0 h)
    refine J.goto d_L_law_325 (tgt := 991) (by decide) ?_
    exact J.lvtake 5 rfl hJ
theorem lw_get (hLI : LI K Mo L xs M) (hL : L ≤ 2562) (hp : p + 5 ≤ L) (hS : Sp l i_L_get i_R_get [.int (xs (p + 1))] K Mo L xs M) (hk : k + 2 ≤ 601024) (hn : n + 12 ≤ 7293000) (IH : ∀ M2, LI K Mo L xs M2 → ∃ Mf, LI K Mo L xs Mf ∧ J l (i_law L xs) 991 [(0, .ref 1000), (1, .ref 0), (2, .ref 15), (3, .ref 27), (4, .int (nI p))] [] M2 (k + 2) (n + 12) (.inl (some (.int (nI 1)), Mf))) : ∃ Mf, LI K Mo L xs Mf ∧ J l (i_law L xs) 328 [(0, .ref 1000), (1, .ref 0), (2, .ref 15), (3, .ref 27), (4, .int (nI p))] [] M k n (.inl (some (.int (nI 1)), Mf)) := by
  obtain ⟨M1, M2, r, a, f, fs, fs2, c1, h15, hl1, c2, h15b, c3, h27, hf, hLI2⟩ := hS
  obtain ⟨Mf, hF, hJ⟩ := IH M2 hLI2
  refine ⟨Mf, hF, ?_⟩
  have hl0 := hLI.len
  have hl2 := hLI2.len
  refine J.aload_n d_L_law_328 rfl rfl ?_
  refine J.aload_n d_L_law_329 rfl rfl ?_
  refine J.iload d_L_law_330 rfl ?_
  refine J.iconst d_L_law_332 (v := nI 1) (by decide) ?_
  refine J.iaddN d_L_law_333 ?_
  refine J.ialoadS d_L_law_334 rfl (by omega) (by omega) ?_
  refine J.aload_n d_L_law_335 rfl rfl ?_
  refine J.invokestaticW (as := [.ref 0, .int (xs (p + 1)), .ref 27]) (rest := []) c1 k_law_L_get d_L_law_336 rfl (Nat.le_of_ble_eq_true rfl) ⟨hk, hn⟩ (Or.inl (hl1.trans hl0.symm)) ?_
  refine J.istore d_L_law_339 (Nat.le_of_ble_eq_true rfl) rfl ?_
  refine J.aload_n d_L_law_341 rfl rfl ?_
  refine J.aload_n d_L_law_342 rfl rfl ?_
  refine J.iload d_L_law_343 rfl ?_
  refine J.iconst d_L_law_345 (v := nI 1) (by decide) ?_
  refine J.iaddN d_L_law_346 ?_
  refine J.ialoadS d_L_law_347 rfl (by omega) (by omega) ?_
  refine J.v1i c2 k_law_R_get d_L_law_348 h15 rfl (hl2.trans hl1.symm) ?_ (hf := ⟨by show k + 2 + 0 ≤ 601024; omega, by show n + 12 + 0 ≤ 7293000; omega⟩)
  refine J.istore d_L_law_351 (Nat.le_of_ble_eq_true rfl) rfl ?_
  refine J.aload_n d_L_law_353 rfl rfl ?_
  refine J.v0i c3 k_law_R_thrown d_L_law_354 h15b rfl rfl ?_ (hf := ⟨by show k + 2 + 0 + 0 ≤ 601024; omega, by show n + 12 + 0 + 0 ≤ 7293000; omega⟩)
  refine J.iload d_L_law_357 rfl ?_
  refine J.icmp_eq d_L_law_359 (tgt := 364) (by decide) (fun _ => ?_) (fun h => absurd rfl h)
  refine J.iload d_L_law_364 rfl ?_
  refine J.if_ne d_L_law_366 (tgt := 381) (by decide) (fun h => ?_) (fun h => ?_)
  · refine J.goto d_L_law_381 (tgt := 991) (by decide) ?_
    exact J.lvtake 5 rfl hJ
  · have h0 : r = 0 := h
    refine J.aload_n d_L_law_369 rfl rfl ?_
    refine J.iconst d_L_law_370 (v := nI 0) (by decide) ?_
    refine J.laloadR d_L_law_371 h27 (vp_in_nI (by decide) (by decide)) ?_
    refine J.iload d_L_law_372 rfl ?_
    refine J.i2l d_L_law_374 ?_
    refine J.lcmp d_L_law_375 ?_
    have e0 : lg_cmp (f (nI 0).toNatClampNeg) a.toInt64 = 0 := by rw [show (nI 0).toNatClampNeg = 0 from by decide, hf h0]; exact lg_cmp_same _
    refine J.if_eq d_L_law_376 (tgt := 381) (by decide) (fun _ => ?_) (fun h => absurd e0 h)
    refine J.goto d_L_law_381 (tgt := 991) (by decide) ?_
    exact J.lvtake 5 rfl hJ
theorem lw_at (hLI : LI K Mo L xs M) (hL : L ≤ 2562) (hp : p + 5 ≤ L) (hS : Sp l i_L_at i_R_at [.int (xs (p + 1))] K Mo L xs M) (hk : k + 2 ≤ 601024) (hn : n + 12 ≤ 7293000) (IH : ∀ M2, LI K Mo L xs M2 → ∃ Mf, LI K Mo L xs Mf ∧ J l (i_law L xs) 991 [(0, .ref 1000), (1, .ref 0), (2, .ref 15), (3, .ref 27), (4, .int (nI p))] [] M2 (k + 2) (n + 12) (.inl (some (.int (nI 1)), Mf))) : ∃ Mf, LI K Mo L xs Mf ∧ J l (i_law L xs) 384 [(0, .ref 1000), (1, .ref 0), (2, .ref 15), (3, .ref 27), (4, .int (nI p))] [] M k n (.inl (some (.int (nI 1)), Mf)) := by
  obtain ⟨M1, M2, r, a, f, fs, fs2, c1, h15, hl1, c2, h15b, c3, h27, hf, hLI2⟩ := hS
  obtain ⟨Mf, hF, hJ⟩ := IH M2 hLI2
  refine ⟨Mf, hF, ?_⟩
  have hl0 := hLI.len
  have hl2 := hLI2.len
  refine J.aload_n d_L_law_384 rfl rfl ?_
  refine J.aload_n d_L_law_385 rfl rfl ?_
  refine J.iload d_L_law_386 rfl ?_
  refine J.iconst d_L_law_388 (v := nI 1) (by decide) ?_
  refine J.iaddN d_L_law_389 ?_
  refine J.ialoadS d_L_law_390 rfl (by omega) (by omega) ?_
  refine J.aload_n d_L_law_391 rfl rfl ?_
  refine J.invokestaticW (as := [.ref 0, .int (xs (p + 1)), .ref 27]) (rest := []) c1 k_law_L_at d_L_law_392 rfl (Nat.le_of_ble_eq_true rfl) ⟨hk, hn⟩ (Or.inl (hl1.trans hl0.symm)) ?_
  refine J.istore d_L_law_395 (Nat.le_of_ble_eq_true rfl) rfl ?_
  refine J.aload_n d_L_law_397 rfl rfl ?_
  refine J.aload_n d_L_law_398 rfl rfl ?_
  refine J.iload d_L_law_399 rfl ?_
  refine J.iconst d_L_law_401 (v := nI 1) (by decide) ?_
  refine J.iaddN d_L_law_402 ?_
  refine J.ialoadS d_L_law_403 rfl (by omega) (by omega) ?_
  refine J.v1i c2 k_law_R_at d_L_law_404 h15 rfl (hl2.trans hl1.symm) ?_ (hf := ⟨by show k + 2 + 0 ≤ 601024; omega, by show n + 12 + 0 ≤ 7293000; omega⟩)
  refine J.istore d_L_law_407 (Nat.le_of_ble_eq_true rfl) rfl ?_
  refine J.aload_n d_L_law_409 rfl rfl ?_
  refine J.v0i c3 k_law_R_thrown d_L_law_410 h15b rfl rfl ?_ (hf := ⟨by show k + 2 + 0 + 0 ≤ 601024; omega, by show n + 12 + 0 + 0 ≤ 7293000; omega⟩)
  refine J.iload d_L_law_413 rfl ?_
  refine J.icmp_eq d_L_law_415 (tgt := 420) (by decide) (fun _ => ?_) (fun h => absurd rfl h)
  refine J.iload d_L_law_420 rfl ?_
  refine J.if_ne d_L_law_422 (tgt := 437) (by decide) (fun h => ?_) (fun h => ?_)
  · refine J.goto d_L_law_437 (tgt := 991) (by decide) ?_
    exact J.lvtake 5 rfl hJ
  · have h0 : r = 0 := h
    refine J.aload_n d_L_law_425 rfl rfl ?_
    refine J.iconst d_L_law_426 (v := nI 0) (by decide) ?_
    refine J.laloadR d_L_law_427 h27 (vp_in_nI (by decide) (by decide)) ?_
    refine J.iload d_L_law_428 rfl ?_
    refine J.i2l d_L_law_430 ?_
    refine J.lcmp d_L_law_431 ?_
    have e0 : lg_cmp (f (nI 0).toNatClampNeg) a.toInt64 = 0 := by rw [show (nI 0).toNatClampNeg = 0 from by decide, hf h0]; exact lg_cmp_same _
    refine J.if_eq d_L_law_432 (tgt := 437) (by decide) (fun _ => ?_) (fun h => absurd e0 h)
    refine J.goto d_L_law_437 (tgt := 991) (by decide) ?_
    exact J.lvtake 5 rfl hJ
theorem lw_fail (hLI : LI K Mo L xs M) (hL : L ≤ 2562) (hp : p + 5 ≤ L) (hS : Sp l i_L_fail i_R_fail [.int (xs (p + 1))] K Mo L xs M) (hk : k + 2 ≤ 601024) (hn : n + 12 ≤ 7293000) (IH : ∀ M2, LI K Mo L xs M2 → ∃ Mf, LI K Mo L xs Mf ∧ J l (i_law L xs) 991 [(0, .ref 1000), (1, .ref 0), (2, .ref 15), (3, .ref 27), (4, .int (nI p))] [] M2 (k + 2) (n + 12) (.inl (some (.int (nI 1)), Mf))) : ∃ Mf, LI K Mo L xs Mf ∧ J l (i_law L xs) 440 [(0, .ref 1000), (1, .ref 0), (2, .ref 15), (3, .ref 27), (4, .int (nI p))] [] M k n (.inl (some (.int (nI 1)), Mf)) := by
  obtain ⟨M1, M2, r, a, f, fs, fs2, c1, h15, hl1, c2, h15b, c3, h27, hf, hLI2⟩ := hS
  obtain ⟨Mf, hF, hJ⟩ := IH M2 hLI2
  refine ⟨Mf, hF, ?_⟩
  have hl0 := hLI.len
  have hl2 := hLI2.len
  refine J.aload_n d_L_law_440 rfl rfl ?_
  refine J.aload_n d_L_law_441 rfl rfl ?_
  refine J.iload d_L_law_442 rfl ?_
  refine J.iconst d_L_law_444 (v := nI 1) (by decide) ?_
  refine J.iaddN d_L_law_445 ?_
  refine J.ialoadS d_L_law_446 rfl (by omega) (by omega) ?_
  refine J.aload_n d_L_law_447 rfl rfl ?_
  refine J.invokestaticW (as := [.ref 0, .int (xs (p + 1)), .ref 27]) (rest := []) c1 k_law_L_fail d_L_law_448 rfl (Nat.le_of_ble_eq_true rfl) ⟨hk, hn⟩ (Or.inl (hl1.trans hl0.symm)) ?_
  refine J.istore d_L_law_451 (Nat.le_of_ble_eq_true rfl) rfl ?_
  refine J.aload_n d_L_law_453 rfl rfl ?_
  refine J.aload_n d_L_law_454 rfl rfl ?_
  refine J.iload d_L_law_455 rfl ?_
  refine J.iconst d_L_law_457 (v := nI 1) (by decide) ?_
  refine J.iaddN d_L_law_458 ?_
  refine J.ialoadS d_L_law_459 rfl (by omega) (by omega) ?_
  refine J.v1i c2 k_law_R_fail d_L_law_460 h15 rfl (hl2.trans hl1.symm) ?_ (hf := ⟨by show k + 2 + 0 ≤ 601024; omega, by show n + 12 + 0 ≤ 7293000; omega⟩)
  refine J.istore d_L_law_463 (Nat.le_of_ble_eq_true rfl) rfl ?_
  refine J.aload_n d_L_law_465 rfl rfl ?_
  refine J.v0i c3 k_law_R_thrown d_L_law_466 h15b rfl rfl ?_ (hf := ⟨by show k + 2 + 0 + 0 ≤ 601024; omega, by show n + 12 + 0 + 0 ≤ 7293000; omega⟩)
  refine J.iload d_L_law_469 rfl ?_
  refine J.icmp_eq d_L_law_471 (tgt := 476) (by decide) (fun _ => ?_) (fun h => absurd rfl h)
  refine J.iload d_L_law_476 rfl ?_
  refine J.if_ne d_L_law_478 (tgt := 493) (by decide) (fun h => ?_) (fun h => ?_)
  · refine J.goto d_L_law_493 (tgt := 991) (by decide) ?_
    exact J.lvtake 5 rfl hJ
  · have h0 : r = 0 := h
    refine J.aload_n d_L_law_481 rfl rfl ?_
    refine J.iconst d_L_law_482 (v := nI 0) (by decide) ?_
    refine J.laloadR d_L_law_483 h27 (vp_in_nI (by decide) (by decide)) ?_
    refine J.iload d_L_law_484 rfl ?_
    refine J.i2l d_L_law_486 ?_
    refine J.lcmp d_L_law_487 ?_
    have e0 : lg_cmp (f (nI 0).toNatClampNeg) a.toInt64 = 0 := by rw [show (nI 0).toNatClampNeg = 0 from by decide, hf h0]; exact lg_cmp_same _
    refine J.if_eq d_L_law_488 (tgt := 493) (by decide) (fun _ => ?_) (fun h => absurd e0 h)
    refine J.goto d_L_law_493 (tgt := 991) (by decide) ?_
    exact J.lvtake 5 rfl hJ
theorem lw_renew (hLI : LI K Mo L xs M) (hL : L ≤ 2562) (hp : p + 5 ≤ L) (hS : Sp l i_L_renew i_R_renew [.int (xs (p + 1))] K Mo L xs M) (hk : k + 2 ≤ 601024) (hn : n + 12 ≤ 7293000) (IH : ∀ M2, LI K Mo L xs M2 → ∃ Mf, LI K Mo L xs Mf ∧ J l (i_law L xs) 991 [(0, .ref 1000), (1, .ref 0), (2, .ref 15), (3, .ref 27), (4, .int (nI p))] [] M2 (k + 2) (n + 12) (.inl (some (.int (nI 1)), Mf))) : ∃ Mf, LI K Mo L xs Mf ∧ J l (i_law L xs) 496 [(0, .ref 1000), (1, .ref 0), (2, .ref 15), (3, .ref 27), (4, .int (nI p))] [] M k n (.inl (some (.int (nI 1)), Mf)) := by
  obtain ⟨M1, M2, r, a, f, fs, fs2, c1, h15, hl1, c2, h15b, c3, h27, hf, hLI2⟩ := hS
  obtain ⟨Mf, hF, hJ⟩ := IH M2 hLI2
  refine ⟨Mf, hF, ?_⟩
  have hl0 := hLI.len
  have hl2 := hLI2.len
  refine J.aload_n d_L_law_496 rfl rfl ?_
  refine J.aload_n d_L_law_497 rfl rfl ?_
  refine J.iload d_L_law_498 rfl ?_
  refine J.iconst d_L_law_500 (v := nI 1) (by decide) ?_
  refine J.iaddN d_L_law_501 ?_
  refine J.ialoadS d_L_law_502 rfl (by omega) (by omega) ?_
  refine J.aload_n d_L_law_503 rfl rfl ?_
  refine J.invokestaticW (as := [.ref 0, .int (xs (p + 1)), .ref 27]) (rest := []) c1 k_law_L_renew d_L_law_504 rfl (Nat.le_of_ble_eq_true rfl) ⟨hk, hn⟩ (Or.inl (hl1.trans hl0.symm)) ?_
  refine J.istore d_L_law_507 (Nat.le_of_ble_eq_true rfl) rfl ?_
  refine J.aload_n d_L_law_509 rfl rfl ?_
  refine J.aload_n d_L_law_510 rfl rfl ?_
  refine J.iload d_L_law_511 rfl ?_
  refine J.iconst d_L_law_513 (v := nI 1) (by decide) ?_
  refine J.iaddN d_L_law_514 ?_
  refine J.ialoadS d_L_law_515 rfl (by omega) (by omega) ?_
  refine J.v1i c2 k_law_R_renew d_L_law_516 h15 rfl (hl2.trans hl1.symm) ?_ (hf := ⟨by show k + 2 + 0 ≤ 601024; omega, by show n + 12 + 0 ≤ 7293000; omega⟩)
  refine J.istore d_L_law_519 (Nat.le_of_ble_eq_true rfl) rfl ?_
  refine J.aload_n d_L_law_521 rfl rfl ?_
  refine J.v0i c3 k_law_R_thrown d_L_law_522 h15b rfl rfl ?_ (hf := ⟨by show k + 2 + 0 + 0 ≤ 601024; omega, by show n + 12 + 0 + 0 ≤ 7293000; omega⟩)
  refine J.iload d_L_law_525 rfl ?_
  refine J.icmp_eq d_L_law_527 (tgt := 532) (by decide) (fun _ => ?_) (fun h => absurd rfl h)
  refine J.iload d_L_law_532 rfl ?_
  refine J.if_ne d_L_law_534 (tgt := 549) (by decide) (fun h => ?_) (fun h => ?_)
  · refine J.goto d_L_law_549 (tgt := 991) (by decide) ?_
    exact J.lvtake 5 rfl hJ
  · have h0 : r = 0 := h
    refine J.aload_n d_L_law_537 rfl rfl ?_
    refine J.iconst d_L_law_538 (v := nI 0) (by decide) ?_
    refine J.laloadR d_L_law_539 h27 (vp_in_nI (by decide) (by decide)) ?_
    refine J.iload d_L_law_540 rfl ?_
    refine J.i2l d_L_law_542 ?_
    refine J.lcmp d_L_law_543 ?_
    have e0 : lg_cmp (f (nI 0).toNatClampNeg) a.toInt64 = 0 := by rw [show (nI 0).toNatClampNeg = 0 from by decide, hf h0]; exact lg_cmp_same _
    refine J.if_eq d_L_law_544 (tgt := 549) (by decide) (fun _ => ?_) (fun h => absurd e0 h)
    refine J.goto d_L_law_549 (tgt := 991) (by decide) ?_
    exact J.lvtake 5 rfl hJ
theorem lw_check (hLI : LI K Mo L xs M) (hL : L ≤ 2562) (hp : p + 5 ≤ L) (hS : Sp l i_L_check i_R_check [.int (xs (p + 1))] K Mo L xs M) (hk : k + 2 ≤ 601024) (hn : n + 12 ≤ 7293000) (IH : ∀ M2, LI K Mo L xs M2 → ∃ Mf, LI K Mo L xs Mf ∧ J l (i_law L xs) 991 [(0, .ref 1000), (1, .ref 0), (2, .ref 15), (3, .ref 27), (4, .int (nI p))] [] M2 (k + 2) (n + 12) (.inl (some (.int (nI 1)), Mf))) : ∃ Mf, LI K Mo L xs Mf ∧ J l (i_law L xs) 565 [(0, .ref 1000), (1, .ref 0), (2, .ref 15), (3, .ref 27), (4, .int (nI p))] [] M k n (.inl (some (.int (nI 1)), Mf)) := by
  obtain ⟨M1, M2, r, a, f, fs, fs2, c1, h15, hl1, c2, h15b, c3, h27, hf, hLI2⟩ := hS
  obtain ⟨Mf, hF, hJ⟩ := IH M2 hLI2
  refine ⟨Mf, hF, ?_⟩
  have hl0 := hLI.len
  have hl2 := hLI2.len
  refine J.aload_n d_L_law_565 rfl rfl ?_
  refine J.aload_n d_L_law_566 rfl rfl ?_
  refine J.iload d_L_law_567 rfl ?_
  refine J.iconst d_L_law_569 (v := nI 1) (by decide) ?_
  refine J.iaddN d_L_law_570 ?_
  refine J.ialoadS d_L_law_571 rfl (by omega) (by omega) ?_
  refine J.aload_n d_L_law_572 rfl rfl ?_
  refine J.invokestaticW (as := [.ref 0, .int (xs (p + 1)), .ref 27]) (rest := []) c1 k_law_L_check d_L_law_573 rfl (Nat.le_of_ble_eq_true rfl) ⟨hk, hn⟩ (Or.inl (hl1.trans hl0.symm)) ?_
  refine J.istore d_L_law_576 (Nat.le_of_ble_eq_true rfl) rfl ?_
  refine J.aload_n d_L_law_578 rfl rfl ?_
  refine J.aload_n d_L_law_579 rfl rfl ?_
  refine J.iload d_L_law_580 rfl ?_
  refine J.iconst d_L_law_582 (v := nI 1) (by decide) ?_
  refine J.iaddN d_L_law_583 ?_
  refine J.ialoadS d_L_law_584 rfl (by omega) (by omega) ?_
  refine J.v1i c2 k_law_R_check d_L_law_585 h15 rfl (hl2.trans hl1.symm) ?_ (hf := ⟨by show k + 2 + 0 ≤ 601024; omega, by show n + 12 + 0 ≤ 7293000; omega⟩)
  refine J.istore d_L_law_588 (Nat.le_of_ble_eq_true rfl) rfl ?_
  refine J.aload_n d_L_law_590 rfl rfl ?_
  refine J.v0i c3 k_law_R_thrown d_L_law_591 h15b rfl rfl ?_ (hf := ⟨by show k + 2 + 0 + 0 ≤ 601024; omega, by show n + 12 + 0 + 0 ≤ 7293000; omega⟩)
  refine J.iload d_L_law_594 rfl ?_
  refine J.icmp_eq d_L_law_596 (tgt := 601) (by decide) (fun _ => ?_) (fun h => absurd rfl h)
  refine J.iload d_L_law_601 rfl ?_
  refine J.if_ne d_L_law_603 (tgt := 618) (by decide) (fun h => ?_) (fun h => ?_)
  · refine J.goto d_L_law_618 (tgt := 991) (by decide) ?_
    exact J.lvtake 5 rfl hJ
  · have h0 : r = 0 := h
    refine J.aload_n d_L_law_606 rfl rfl ?_
    refine J.iconst d_L_law_607 (v := nI 0) (by decide) ?_
    refine J.laloadR d_L_law_608 h27 (vp_in_nI (by decide) (by decide)) ?_
    refine J.iload d_L_law_609 rfl ?_
    refine J.i2l d_L_law_611 ?_
    refine J.lcmp d_L_law_612 ?_
    have e0 : lg_cmp (f (nI 0).toNatClampNeg) a.toInt64 = 0 := by rw [show (nI 0).toNatClampNeg = 0 from by decide, hf h0]; exact lg_cmp_same _
    refine J.if_eq d_L_law_613 (tgt := 618) (by decide) (fun _ => ?_) (fun h => absurd e0 h)
    refine J.goto d_L_law_618 (tgt := 991) (by decide) ?_
    exact J.lvtake 5 rfl hJ
theorem lw_harm (hLI : LI K Mo L xs M) (hL : L ≤ 2562) (hp : p + 5 ≤ L) (hS : Sp l i_L_harm i_R_harm [.int (xs (p + 1)), .int (xs (p + 2)), .int (xs (p + 3)), .int (xs (p + 4))] K Mo L xs M) (hk : k + 2 ≤ 601024) (hn : n + 12 ≤ 7293000) (IH : ∀ M2, LI K Mo L xs M2 → ∃ Mf, LI K Mo L xs Mf ∧ J l (i_law L xs) 991 [(0, .ref 1000), (1, .ref 0), (2, .ref 15), (3, .ref 27), (4, .int (nI p))] [] M2 (k + 2) (n + 12) (.inl (some (.int (nI 1)), Mf))) : ∃ Mf, LI K Mo L xs Mf ∧ J l (i_law L xs) 621 [(0, .ref 1000), (1, .ref 0), (2, .ref 15), (3, .ref 27), (4, .int (nI p))] [] M k n (.inl (some (.int (nI 1)), Mf)) := by
  obtain ⟨M1, M2, r, a, f, fs, fs2, c1, h15, hl1, c2, h15b, c3, h27, hf, hLI2⟩ := hS
  obtain ⟨Mf, hF, hJ⟩ := IH M2 hLI2
  refine ⟨Mf, hF, ?_⟩
  have hl0 := hLI.len
  have hl2 := hLI2.len
  refine J.aload_n d_L_law_621 rfl rfl ?_
  refine J.aload_n d_L_law_622 rfl rfl ?_
  refine J.iload d_L_law_623 rfl ?_
  refine J.iconst d_L_law_625 (v := nI 1) (by decide) ?_
  refine J.iaddN d_L_law_626 ?_
  refine J.ialoadS d_L_law_627 rfl (by omega) (by omega) ?_
  refine J.aload_n d_L_law_628 rfl rfl ?_
  refine J.iload d_L_law_629 rfl ?_
  refine J.iconst d_L_law_631 (v := nI 2) (by decide) ?_
  refine J.iaddN d_L_law_632 ?_
  refine J.ialoadS d_L_law_633 rfl (by omega) (by omega) ?_
  refine J.aload_n d_L_law_634 rfl rfl ?_
  refine J.iload d_L_law_635 rfl ?_
  refine J.iconst d_L_law_637 (v := nI 3) (by decide) ?_
  refine J.iaddN d_L_law_638 ?_
  refine J.ialoadS d_L_law_639 rfl (by omega) (by omega) ?_
  refine J.aload_n d_L_law_640 rfl rfl ?_
  refine J.iload d_L_law_641 rfl ?_
  refine J.iconst d_L_law_643 (v := nI 4) (by decide) ?_
  refine J.iaddN d_L_law_644 ?_
  refine J.ialoadS d_L_law_645 rfl (by omega) (by omega) ?_
  refine J.aload_n d_L_law_646 rfl rfl ?_
  refine J.invokestaticW (as := [.ref 0, .int (xs (p + 1)), .int (xs (p + 2)), .int (xs (p + 3)), .int (xs (p + 4)), .ref 27]) (rest := []) c1 k_law_L_harm d_L_law_647 rfl (Nat.le_of_ble_eq_true rfl) ⟨hk, hn⟩ (Or.inl (hl1.trans hl0.symm)) ?_
  refine J.istore d_L_law_650 (Nat.le_of_ble_eq_true rfl) rfl ?_
  refine J.aload_n d_L_law_652 rfl rfl ?_
  refine J.aload_n d_L_law_653 rfl rfl ?_
  refine J.iload d_L_law_654 rfl ?_
  refine J.iconst d_L_law_656 (v := nI 1) (by decide) ?_
  refine J.iaddN d_L_law_657 ?_
  refine J.ialoadS d_L_law_658 rfl (by omega) (by omega) ?_
  refine J.aload_n d_L_law_659 rfl rfl ?_
  refine J.iload d_L_law_660 rfl ?_
  refine J.iconst d_L_law_662 (v := nI 2) (by decide) ?_
  refine J.iaddN d_L_law_663 ?_
  refine J.ialoadS d_L_law_664 rfl (by omega) (by omega) ?_
  refine J.aload_n d_L_law_665 rfl rfl ?_
  refine J.iload d_L_law_666 rfl ?_
  refine J.iconst d_L_law_668 (v := nI 3) (by decide) ?_
  refine J.iaddN d_L_law_669 ?_
  refine J.ialoadS d_L_law_670 rfl (by omega) (by omega) ?_
  refine J.aload_n d_L_law_671 rfl rfl ?_
  refine J.iload d_L_law_672 rfl ?_
  refine J.iconst d_L_law_674 (v := nI 4) (by decide) ?_
  refine J.iaddN d_L_law_675 ?_
  refine J.ialoadS d_L_law_676 rfl (by omega) (by omega) ?_
  refine J.v4i c2 k_law_R_harm d_L_law_677 h15 rfl (hl2.trans hl1.symm) ?_ (hf := ⟨by show k + 2 + 0 ≤ 601024; omega, by show n + 12 + 0 ≤ 7293000; omega⟩)
  refine J.istore d_L_law_680 (Nat.le_of_ble_eq_true rfl) rfl ?_
  refine J.aload_n d_L_law_682 rfl rfl ?_
  refine J.v0i c3 k_law_R_thrown d_L_law_683 h15b rfl rfl ?_ (hf := ⟨by show k + 2 + 0 + 0 ≤ 601024; omega, by show n + 12 + 0 + 0 ≤ 7293000; omega⟩)
  refine J.iload d_L_law_686 rfl ?_
  refine J.icmp_eq d_L_law_688 (tgt := 693) (by decide) (fun _ => ?_) (fun h => absurd rfl h)
  refine J.iload d_L_law_693 rfl ?_
  refine J.if_ne d_L_law_695 (tgt := 710) (by decide) (fun h => ?_) (fun h => ?_)
  · refine J.goto d_L_law_710 (tgt := 991) (by decide) ?_
    exact J.lvtake 5 rfl hJ
  · have h0 : r = 0 := h
    refine J.aload_n d_L_law_698 rfl rfl ?_
    refine J.iconst d_L_law_699 (v := nI 0) (by decide) ?_
    refine J.laloadR d_L_law_700 h27 (vp_in_nI (by decide) (by decide)) ?_
    refine J.iload d_L_law_701 rfl ?_
    refine J.i2l d_L_law_703 ?_
    refine J.lcmp d_L_law_704 ?_
    have e0 : lg_cmp (f (nI 0).toNatClampNeg) a.toInt64 = 0 := by rw [show (nI 0).toNatClampNeg = 0 from by decide, hf h0]; exact lg_cmp_same _
    refine J.if_eq d_L_law_705 (tgt := 710) (by decide) (fun _ => ?_) (fun h => absurd e0 h)
    refine J.goto d_L_law_710 (tgt := 991) (by decide) ?_
    exact J.lvtake 5 rfl hJ
theorem lw_stored (hLI : LI K Mo L xs M) (hL : L ≤ 2562) (hp : p + 5 ≤ L) (hS : Sp l i_L_stored i_R_stored [.int (xs (p + 1)), .int (xs (p + 2)), .int (xs (p + 3))] K Mo L xs M) (hk : k + 2 ≤ 601024) (hn : n + 12 ≤ 7293000) (IH : ∀ M2, LI K Mo L xs M2 → ∃ Mf, LI K Mo L xs Mf ∧ J l (i_law L xs) 991 [(0, .ref 1000), (1, .ref 0), (2, .ref 15), (3, .ref 27), (4, .int (nI p))] [] M2 (k + 2) (n + 12) (.inl (some (.int (nI 1)), Mf))) : ∃ Mf, LI K Mo L xs Mf ∧ J l (i_law L xs) 713 [(0, .ref 1000), (1, .ref 0), (2, .ref 15), (3, .ref 27), (4, .int (nI p))] [] M k n (.inl (some (.int (nI 1)), Mf)) := by
  obtain ⟨M1, M2, r, a, f, fs, fs2, c1, h15, hl1, c2, h15b, c3, h27, hf, hLI2⟩ := hS
  obtain ⟨Mf, hF, hJ⟩ := IH M2 hLI2
  refine ⟨Mf, hF, ?_⟩
  have hl0 := hLI.len
  have hl2 := hLI2.len
  refine J.aload_n d_L_law_713 rfl rfl ?_
  refine J.aload_n d_L_law_714 rfl rfl ?_
  refine J.iload d_L_law_715 rfl ?_
  refine J.iconst d_L_law_717 (v := nI 1) (by decide) ?_
  refine J.iaddN d_L_law_718 ?_
  refine J.ialoadS d_L_law_719 rfl (by omega) (by omega) ?_
  refine J.aload_n d_L_law_720 rfl rfl ?_
  refine J.iload d_L_law_721 rfl ?_
  refine J.iconst d_L_law_723 (v := nI 2) (by decide) ?_
  refine J.iaddN d_L_law_724 ?_
  refine J.ialoadS d_L_law_725 rfl (by omega) (by omega) ?_
  refine J.aload_n d_L_law_726 rfl rfl ?_
  refine J.iload d_L_law_727 rfl ?_
  refine J.iconst d_L_law_729 (v := nI 3) (by decide) ?_
  refine J.iaddN d_L_law_730 ?_
  refine J.ialoadS d_L_law_731 rfl (by omega) (by omega) ?_
  refine J.aload_n d_L_law_732 rfl rfl ?_
  refine J.invokestaticW (as := [.ref 0, .int (xs (p + 1)), .int (xs (p + 2)), .int (xs (p + 3)), .ref 27]) (rest := []) c1 k_law_L_stored d_L_law_733 rfl (Nat.le_of_ble_eq_true rfl) ⟨hk, hn⟩ (Or.inl (hl1.trans hl0.symm)) ?_
  refine J.istore d_L_law_736 (Nat.le_of_ble_eq_true rfl) rfl ?_
  refine J.aload_n d_L_law_738 rfl rfl ?_
  refine J.aload_n d_L_law_739 rfl rfl ?_
  refine J.iload d_L_law_740 rfl ?_
  refine J.iconst d_L_law_742 (v := nI 1) (by decide) ?_
  refine J.iaddN d_L_law_743 ?_
  refine J.ialoadS d_L_law_744 rfl (by omega) (by omega) ?_
  refine J.aload_n d_L_law_745 rfl rfl ?_
  refine J.iload d_L_law_746 rfl ?_
  refine J.iconst d_L_law_748 (v := nI 2) (by decide) ?_
  refine J.iaddN d_L_law_749 ?_
  refine J.ialoadS d_L_law_750 rfl (by omega) (by omega) ?_
  refine J.aload_n d_L_law_751 rfl rfl ?_
  refine J.iload d_L_law_752 rfl ?_
  refine J.iconst d_L_law_754 (v := nI 3) (by decide) ?_
  refine J.iaddN d_L_law_755 ?_
  refine J.ialoadS d_L_law_756 rfl (by omega) (by omega) ?_
  refine J.v3i c2 k_law_R_stored d_L_law_757 h15 rfl (hl2.trans hl1.symm) ?_ (hf := ⟨by show k + 2 + 0 ≤ 601024; omega, by show n + 12 + 0 ≤ 7293000; omega⟩)
  refine J.istore d_L_law_760 (Nat.le_of_ble_eq_true rfl) rfl ?_
  refine J.aload_n d_L_law_762 rfl rfl ?_
  refine J.v0i c3 k_law_R_thrown d_L_law_763 h15b rfl rfl ?_ (hf := ⟨by show k + 2 + 0 + 0 ≤ 601024; omega, by show n + 12 + 0 + 0 ≤ 7293000; omega⟩)
  refine J.iload d_L_law_766 rfl ?_
  refine J.icmp_eq d_L_law_768 (tgt := 773) (by decide) (fun _ => ?_) (fun h => absurd rfl h)
  refine J.iload d_L_law_773 rfl ?_
  refine J.if_ne d_L_law_775 (tgt := 790) (by decide) (fun h => ?_) (fun h => ?_)
  · refine J.goto d_L_law_790 (tgt := 991) (by decide) ?_
    exact J.lvtake 5 rfl hJ
  · have h0 : r = 0 := h
    refine J.aload_n d_L_law_778 rfl rfl ?_
    refine J.iconst d_L_law_779 (v := nI 0) (by decide) ?_
    refine J.laloadR d_L_law_780 h27 (vp_in_nI (by decide) (by decide)) ?_
    refine J.iload d_L_law_781 rfl ?_
    refine J.i2l d_L_law_783 ?_
    refine J.lcmp d_L_law_784 ?_
    have e0 : lg_cmp (f (nI 0).toNatClampNeg) a.toInt64 = 0 := by rw [show (nI 0).toNatClampNeg = 0 from by decide, hf h0]; exact lg_cmp_same _
    refine J.if_eq d_L_law_785 (tgt := 790) (by decide) (fun _ => ?_) (fun h => absurd e0 h)
    refine J.goto d_L_law_790 (tgt := 991) (by decide) ?_
    exact J.lvtake 5 rfl hJ
theorem lw_where (hLI : LI K Mo L xs M) (hL : L ≤ 2562) (hp : p + 5 ≤ L) (hS : Sp l i_L_where i_R_where [.int (xs (p + 1)), .int (xs (p + 2)), .int (xs (p + 3))] K Mo L xs M) (hk : k + 2 ≤ 601024) (hn : n + 12 ≤ 7293000) (IH : ∀ M2, LI K Mo L xs M2 → ∃ Mf, LI K Mo L xs Mf ∧ J l (i_law L xs) 991 [(0, .ref 1000), (1, .ref 0), (2, .ref 15), (3, .ref 27), (4, .int (nI p))] [] M2 (k + 2) (n + 12) (.inl (some (.int (nI 1)), Mf))) : ∃ Mf, LI K Mo L xs Mf ∧ J l (i_law L xs) 793 [(0, .ref 1000), (1, .ref 0), (2, .ref 15), (3, .ref 27), (4, .int (nI p))] [] M k n (.inl (some (.int (nI 1)), Mf)) := by
  obtain ⟨M1, M2, r, a, f, fs, fs2, c1, h15, hl1, c2, h15b, c3, h27, hf, hLI2⟩ := hS
  obtain ⟨Mf, hF, hJ⟩ := IH M2 hLI2
  refine ⟨Mf, hF, ?_⟩
  have hl0 := hLI.len
  have hl2 := hLI2.len
  refine J.aload_n d_L_law_793 rfl rfl ?_
  refine J.aload_n d_L_law_794 rfl rfl ?_
  refine J.iload d_L_law_795 rfl ?_
  refine J.iconst d_L_law_797 (v := nI 1) (by decide) ?_
  refine J.iaddN d_L_law_798 ?_
  refine J.ialoadS d_L_law_799 rfl (by omega) (by omega) ?_
  refine J.aload_n d_L_law_800 rfl rfl ?_
  refine J.iload d_L_law_801 rfl ?_
  refine J.iconst d_L_law_803 (v := nI 2) (by decide) ?_
  refine J.iaddN d_L_law_804 ?_
  refine J.ialoadS d_L_law_805 rfl (by omega) (by omega) ?_
  refine J.aload_n d_L_law_806 rfl rfl ?_
  refine J.iload d_L_law_807 rfl ?_
  refine J.iconst d_L_law_809 (v := nI 3) (by decide) ?_
  refine J.iaddN d_L_law_810 ?_
  refine J.ialoadS d_L_law_811 rfl (by omega) (by omega) ?_
  refine J.aload_n d_L_law_812 rfl rfl ?_
  refine J.invokestaticW (as := [.ref 0, .int (xs (p + 1)), .int (xs (p + 2)), .int (xs (p + 3)), .ref 27]) (rest := []) c1 k_law_L_where d_L_law_813 rfl (Nat.le_of_ble_eq_true rfl) ⟨hk, hn⟩ (Or.inl (hl1.trans hl0.symm)) ?_
  refine J.istore d_L_law_816 (Nat.le_of_ble_eq_true rfl) rfl ?_
  refine J.aload_n d_L_law_818 rfl rfl ?_
  refine J.aload_n d_L_law_819 rfl rfl ?_
  refine J.iload d_L_law_820 rfl ?_
  refine J.iconst d_L_law_822 (v := nI 1) (by decide) ?_
  refine J.iaddN d_L_law_823 ?_
  refine J.ialoadS d_L_law_824 rfl (by omega) (by omega) ?_
  refine J.aload_n d_L_law_825 rfl rfl ?_
  refine J.iload d_L_law_826 rfl ?_
  refine J.iconst d_L_law_828 (v := nI 2) (by decide) ?_
  refine J.iaddN d_L_law_829 ?_
  refine J.ialoadS d_L_law_830 rfl (by omega) (by omega) ?_
  refine J.aload_n d_L_law_831 rfl rfl ?_
  refine J.iload d_L_law_832 rfl ?_
  refine J.iconst d_L_law_834 (v := nI 3) (by decide) ?_
  refine J.iaddN d_L_law_835 ?_
  refine J.ialoadS d_L_law_836 rfl (by omega) (by omega) ?_
  refine J.v3i c2 k_law_R_where d_L_law_837 h15 rfl (hl2.trans hl1.symm) ?_ (hf := ⟨by show k + 2 + 0 ≤ 601024; omega, by show n + 12 + 0 ≤ 7293000; omega⟩)
  refine J.istore d_L_law_840 (Nat.le_of_ble_eq_true rfl) rfl ?_
  refine J.aload_n d_L_law_842 rfl rfl ?_
  refine J.v0i c3 k_law_R_thrown d_L_law_843 h15b rfl rfl ?_ (hf := ⟨by show k + 2 + 0 + 0 ≤ 601024; omega, by show n + 12 + 0 + 0 ≤ 7293000; omega⟩)
  refine J.iload d_L_law_846 rfl ?_
  refine J.icmp_eq d_L_law_848 (tgt := 853) (by decide) (fun _ => ?_) (fun h => absurd rfl h)
  refine J.iload d_L_law_853 rfl ?_
  refine J.if_ne d_L_law_855 (tgt := 870) (by decide) (fun h => ?_) (fun h => ?_)
  · refine J.goto d_L_law_870 (tgt := 991) (by decide) ?_
    exact J.lvtake 5 rfl hJ
  · have h0 : r = 0 := h
    refine J.aload_n d_L_law_858 rfl rfl ?_
    refine J.iconst d_L_law_859 (v := nI 0) (by decide) ?_
    refine J.laloadR d_L_law_860 h27 (vp_in_nI (by decide) (by decide)) ?_
    refine J.iload d_L_law_861 rfl ?_
    refine J.i2l d_L_law_863 ?_
    refine J.lcmp d_L_law_864 ?_
    have e0 : lg_cmp (f (nI 0).toNatClampNeg) a.toInt64 = 0 := by rw [show (nI 0).toNatClampNeg = 0 from by decide, hf h0]; exact lg_cmp_same _
    refine J.if_eq d_L_law_865 (tgt := 870) (by decide) (fun _ => ?_) (fun h => absurd e0 h)
    refine J.goto d_L_law_870 (tgt := 991) (by decide) ?_
    exact J.lvtake 5 rfl hJ
theorem lw_product (hLI : LI K Mo L xs M) (hL : L ≤ 2562) (hp : p + 5 ≤ L) (hS : Sp l i_L_product i_R_product [.int (xs (p + 1)), .int (xs (p + 2))] K Mo L xs M) (hk : k + 2 ≤ 601024) (hn : n + 12 ≤ 7293000) (IH : ∀ M2, LI K Mo L xs M2 → ∃ Mf, LI K Mo L xs Mf ∧ J l (i_law L xs) 991 [(0, .ref 1000), (1, .ref 0), (2, .ref 15), (3, .ref 27), (4, .int (nI p))] [] M2 (k + 2) (n + 12) (.inl (some (.int (nI 1)), Mf))) : ∃ Mf, LI K Mo L xs Mf ∧ J l (i_law L xs) 923 [(0, .ref 1000), (1, .ref 0), (2, .ref 15), (3, .ref 27), (4, .int (nI p))] [] M k n (.inl (some (.int (nI 1)), Mf)) := by
  obtain ⟨M1, M2, r, a, f, fs, fs2, c1, h15, hl1, c2, h15b, c3, h27, hf, hLI2⟩ := hS
  obtain ⟨Mf, hF, hJ⟩ := IH M2 hLI2
  refine ⟨Mf, hF, ?_⟩
  have hl0 := hLI.len
  have hl2 := hLI2.len
  refine J.aload_n d_L_law_923 rfl rfl ?_
  refine J.aload_n d_L_law_924 rfl rfl ?_
  refine J.iload d_L_law_925 rfl ?_
  refine J.iconst d_L_law_927 (v := nI 1) (by decide) ?_
  refine J.iaddN d_L_law_928 ?_
  refine J.ialoadS d_L_law_929 rfl (by omega) (by omega) ?_
  refine J.aload_n d_L_law_930 rfl rfl ?_
  refine J.iload d_L_law_931 rfl ?_
  refine J.iconst d_L_law_933 (v := nI 2) (by decide) ?_
  refine J.iaddN d_L_law_934 ?_
  refine J.ialoadS d_L_law_935 rfl (by omega) (by omega) ?_
  refine J.aload_n d_L_law_936 rfl rfl ?_
  refine J.invokestaticW (as := [.ref 0, .int (xs (p + 1)), .int (xs (p + 2)), .ref 27]) (rest := []) c1 k_law_L_product d_L_law_937 rfl (Nat.le_of_ble_eq_true rfl) ⟨hk, hn⟩ (Or.inl (hl1.trans hl0.symm)) ?_
  refine J.istore d_L_law_940 (Nat.le_of_ble_eq_true rfl) rfl ?_
  refine J.aload_n d_L_law_942 rfl rfl ?_
  refine J.aload_n d_L_law_943 rfl rfl ?_
  refine J.iload d_L_law_944 rfl ?_
  refine J.iconst d_L_law_946 (v := nI 1) (by decide) ?_
  refine J.iaddN d_L_law_947 ?_
  refine J.ialoadS d_L_law_948 rfl (by omega) (by omega) ?_
  refine J.aload_n d_L_law_949 rfl rfl ?_
  refine J.iload d_L_law_950 rfl ?_
  refine J.iconst d_L_law_952 (v := nI 2) (by decide) ?_
  refine J.iaddN d_L_law_953 ?_
  refine J.ialoadS d_L_law_954 rfl (by omega) (by omega) ?_
  refine J.v2i c2 k_law_R_product d_L_law_955 h15 rfl (hl2.trans hl1.symm) ?_ (hf := ⟨by show k + 2 + 0 ≤ 601024; omega, by show n + 12 + 0 ≤ 7293000; omega⟩)
  refine J.istore d_L_law_958 (Nat.le_of_ble_eq_true rfl) rfl ?_
  refine J.aload_n d_L_law_960 rfl rfl ?_
  refine J.v0i c3 k_law_R_thrown d_L_law_961 h15b rfl rfl ?_ (hf := ⟨by show k + 2 + 0 + 0 ≤ 601024; omega, by show n + 12 + 0 + 0 ≤ 7293000; omega⟩)
  refine J.iload d_L_law_964 rfl ?_
  refine J.icmp_eq d_L_law_966 (tgt := 971) (by decide) (fun _ => ?_) (fun h => absurd rfl h)
  refine J.iload d_L_law_971 rfl ?_
  refine J.if_ne d_L_law_973 (tgt := 988) (by decide) (fun h => ?_) (fun h => ?_)
  · refine J.goto d_L_law_988 (tgt := 991) (by decide) ?_
    exact J.lvtake 5 rfl hJ
  · have h0 : r = 0 := h
    refine J.aload_n d_L_law_976 rfl rfl ?_
    refine J.iconst d_L_law_977 (v := nI 0) (by decide) ?_
    refine J.laloadR d_L_law_978 h27 (vp_in_nI (by decide) (by decide)) ?_
    refine J.iload d_L_law_979 rfl ?_
    refine J.i2l d_L_law_981 ?_
    refine J.lcmp d_L_law_982 ?_
    have e0 : lg_cmp (f (nI 0).toNatClampNeg) a.toInt64 = 0 := by rw [show (nI 0).toNatClampNeg = 0 from by decide, hf h0]; exact lg_cmp_same _
    refine J.if_eq d_L_law_983 (tgt := 988) (by decide) (fun _ => ?_) (fun h => absurd e0 h)
    refine J.goto d_L_law_988 (tgt := 991) (by decide) ?_
    exact J.lvtake 5 rfl hJ
theorem lw_put (hLI : LI K Mo L xs M) (hL : L ≤ 2562) (hp : p + 5 ≤ L) (hS : Sq l i_V_put i_R_put [.int (xs (p + 1)), .long ((xs (p + 2)).toInt64 <<< ((nI 32).toInt64 &&& 63) ||| (xs (p + 3)).toInt64 &&& 4294967295)] K Mo L xs M) (hk : k + 2 ≤ 601024) (hn : n + 12 ≤ 7293000) (IH : ∀ M2, LI K Mo L xs M2 → ∃ Mf, LI K Mo L xs Mf ∧ J l (i_law L xs) 991 [(0, .ref 1000), (1, .ref 0), (2, .ref 15), (3, .ref 27), (4, .int (nI p))] [] M2 (k + 2) (n + 12) (.inl (some (.int (nI 1)), Mf))) : ∃ Mf, LI K Mo L xs Mf ∧ J l (i_law L xs) 136 [(0, .ref 1000), (1, .ref 0), (2, .ref 15), (3, .ref 27), (4, .int (nI p))] [] M k n (.inl (some (.int (nI 1)), Mf)) := by
  obtain ⟨M1, M2, z, fs, c1, h15, hl1, c2, hLI2⟩ := hS
  obtain ⟨Mf, hF, hJ⟩ := IH M2 hLI2
  refine ⟨Mf, hF, ?_⟩
  have hl0 := hLI.len
  have hl2 := hLI2.len
  obtain ⟨fs0, h0⟩ := hLI.at0
  refine J.aload_n d_L_law_136 rfl rfl ?_
  refine J.aload_n d_L_law_137 rfl rfl ?_
  refine J.iload d_L_law_138 rfl ?_
  refine J.iconst d_L_law_140 (v := nI 1) (by decide) ?_
  refine J.iaddN d_L_law_141 ?_
  refine J.ialoadS d_L_law_142 rfl (by omega) (by omega) ?_
  refine J.aload_n d_L_law_143 rfl rfl ?_
  refine J.iload d_L_law_144 rfl ?_
  refine J.iconst d_L_law_146 (v := nI 2) (by decide) ?_
  refine J.iaddN d_L_law_147 ?_
  refine J.ialoadS d_L_law_148 rfl (by omega) (by omega) ?_
  refine J.i2l d_L_law_149 ?_
  refine J.bipush d_L_law_150 (v := nI 32) (by decide) ?_
  refine J.lshl d_L_law_152 ?_
  refine J.aload_n d_L_law_153 rfl rfl ?_
  refine J.iload d_L_law_154 rfl ?_
  refine J.iconst d_L_law_156 (v := nI 3) (by decide) ?_
  refine J.iaddN d_L_law_157 ?_
  refine J.ialoadS d_L_law_158 rfl (by omega) (by omega) ?_
  refine J.i2l d_L_law_159 ?_
  refine J.ldc2 d_L_law_160 c68 ?_
  refine J.land d_L_law_163 ?_
  refine J.lor d_L_law_164 ?_
  refine J.v2i c1 k_law_V_put d_L_law_165 h0 rfl (hl1.trans hl0.symm) ?_ (hf := ⟨by show k + 0 ≤ 601024; omega, by show n + 0 ≤ 7293000; omega⟩)
  refine J.aload_n d_L_law_168 rfl rfl ?_
  refine J.aload_n d_L_law_169 rfl rfl ?_
  refine J.iload d_L_law_170 rfl ?_
  refine J.iconst d_L_law_172 (v := nI 1) (by decide) ?_
  refine J.iaddN d_L_law_173 ?_
  refine J.ialoadS d_L_law_174 rfl (by omega) (by omega) ?_
  refine J.aload_n d_L_law_175 rfl rfl ?_
  refine J.iload d_L_law_176 rfl ?_
  refine J.iconst d_L_law_178 (v := nI 2) (by decide) ?_
  refine J.iaddN d_L_law_179 ?_
  refine J.ialoadS d_L_law_180 rfl (by omega) (by omega) ?_
  refine J.i2l d_L_law_181 ?_
  refine J.bipush d_L_law_182 (v := nI 32) (by decide) ?_
  refine J.lshl d_L_law_184 ?_
  refine J.aload_n d_L_law_185 rfl rfl ?_
  refine J.iload d_L_law_186 rfl ?_
  refine J.iconst d_L_law_188 (v := nI 3) (by decide) ?_
  refine J.iaddN d_L_law_189 ?_
  refine J.ialoadS d_L_law_190 rfl (by omega) (by omega) ?_
  refine J.i2l d_L_law_191 ?_
  refine J.ldc2 d_L_law_192 c68 ?_
  refine J.land d_L_law_195 ?_
  refine J.lor d_L_law_196 ?_
  refine J.v2i c2 k_law_R_put d_L_law_197 h15 rfl (hl2.trans hl1.symm) ?_ (hf := ⟨by show k + 0 + 0 ≤ 601024; omega, by show n + 0 + 0 ≤ 7293000; omega⟩)
  refine J.icmp_eq d_L_law_200 (tgt := 991) (by decide) (fun _ => ?_) (fun h => absurd rfl h)
  exact J.widen (k' := k + 2) (n' := n + 12) (by show k + 0 + 0 ≤ k + 2; omega) (by show n + 0 + 0 ≤ n + 12; omega) hJ
theorem lw_scrap (hLI : LI K Mo L xs M) (hL : L ≤ 2562) (hp : p + 5 ≤ L) (hS : Sr l i_V_scrap i_R_scrap [] K Mo L xs M) (hk : k + 2 ≤ 601024) (hn : n + 12 ≤ 7293000) (IH : ∀ M2, LI K Mo L xs M2 → ∃ Mf, LI K Mo L xs Mf ∧ J l (i_law L xs) 991 [(0, .ref 1000), (1, .ref 0), (2, .ref 15), (3, .ref 27), (4, .int (nI p))] [] M2 (k + 2) (n + 12) (.inl (some (.int (nI 1)), Mf))) : ∃ Mf, LI K Mo L xs Mf ∧ J l (i_law L xs) 205 [(0, .ref 1000), (1, .ref 0), (2, .ref 15), (3, .ref 27), (4, .int (nI p))] [] M k n (.inl (some (.int (nI 1)), Mf)) := by
  obtain ⟨M1, M2, fs, c1, h15, hl1, c2, hLI2⟩ := hS
  obtain ⟨Mf, hF, hJ⟩ := IH M2 hLI2
  refine ⟨Mf, hF, ?_⟩
  have hl0 := hLI.len
  have hl2 := hLI2.len
  obtain ⟨fs0, h0⟩ := hLI.at0
  refine J.aload_n d_L_law_205 rfl rfl ?_
  refine J.v0v c1 k_law_V_scrap d_L_law_206 h0 rfl (hl1.trans hl0.symm) ?_ (hf := ⟨by show k + 0 ≤ 601024; omega, by show n + 0 ≤ 7293000; omega⟩)
  refine J.aload_n d_L_law_209 rfl rfl ?_
  refine J.v0v c2 k_law_R_scrap d_L_law_210 h15 rfl (hl2.trans hl1.symm) ?_ (hf := ⟨by show k + 0 + 0 ≤ 601024; omega, by show n + 0 + 0 ≤ 7293000; omega⟩)
  refine J.goto d_L_law_213 (tgt := 991) (by decide) ?_
  exact J.widen (k' := k + 2) (n' := n + 12) (by show k + 0 + 0 ≤ k + 2; omega) (by show n + 0 + 0 ≤ n + 12; omega) hJ
theorem lw_repair (hLI : LI K Mo L xs M) (hL : L ≤ 2562) (hp : p + 5 ≤ L) (hS : Sq l i_V_repair i_R_repair [] K Mo L xs M) (hk : k + 2 ≤ 601024) (hn : n + 12 ≤ 7293000) (IH : ∀ M2, LI K Mo L xs M2 → ∃ Mf, LI K Mo L xs Mf ∧ J l (i_law L xs) 991 [(0, .ref 1000), (1, .ref 0), (2, .ref 15), (3, .ref 27), (4, .int (nI p))] [] M2 (k + 2) (n + 12) (.inl (some (.int (nI 1)), Mf))) : ∃ Mf, LI K Mo L xs Mf ∧ J l (i_law L xs) 552 [(0, .ref 1000), (1, .ref 0), (2, .ref 15), (3, .ref 27), (4, .int (nI p))] [] M k n (.inl (some (.int (nI 1)), Mf)) := by
  obtain ⟨M1, M2, z, fs, c1, h15, hl1, c2, hLI2⟩ := hS
  obtain ⟨Mf, hF, hJ⟩ := IH M2 hLI2
  refine ⟨Mf, hF, ?_⟩
  have hl0 := hLI.len
  have hl2 := hLI2.len
  obtain ⟨fs0, h0⟩ := hLI.at0
  refine J.aload_n d_L_law_552 rfl rfl ?_
  refine J.v0i c1 k_law_V_repair d_L_law_553 h0 rfl (hl1.trans hl0.symm) ?_ (hf := ⟨by show k + 0 ≤ 601024; omega, by show n + 0 ≤ 7293000; omega⟩)
  refine J.aload_n d_L_law_556 rfl rfl ?_
  refine J.v0i c2 k_law_R_repair d_L_law_557 h15 rfl (hl2.trans hl1.symm) ?_ (hf := ⟨by show k + 0 + 0 ≤ 601024; omega, by show n + 0 + 0 ≤ 7293000; omega⟩)
  refine J.icmp_eq d_L_law_560 (tgt := 991) (by decide) (fun _ => ?_) (fun h => absurd rfl h)
  exact J.widen (k' := k + 2) (n' := n + 12) (by show k + 0 + 0 ≤ k + 2; omega) (by show n + 0 + 0 ≤ n + 12; omega) hJ
theorem lw_length (hLI : LI K Mo L xs M) (hL : L ≤ 2562) (hp : p + 5 ≤ L) (hS : Sq l i_V_length i_R_length [.int (xs (p + 1))] K Mo L xs M) (hk : k + 2 ≤ 601024) (hn : n + 12 ≤ 7293000) (IH : ∀ M2, LI K Mo L xs M2 → ∃ Mf, LI K Mo L xs Mf ∧ J l (i_law L xs) 991 [(0, .ref 1000), (1, .ref 0), (2, .ref 15), (3, .ref 27), (4, .int (nI p))] [] M2 (k + 2) (n + 12) (.inl (some (.int (nI 1)), Mf))) : ∃ Mf, LI K Mo L xs Mf ∧ J l (i_law L xs) 873 [(0, .ref 1000), (1, .ref 0), (2, .ref 15), (3, .ref 27), (4, .int (nI p))] [] M k n (.inl (some (.int (nI 1)), Mf)) := by
  obtain ⟨M1, M2, z, fs, c1, h15, hl1, c2, hLI2⟩ := hS
  obtain ⟨Mf, hF, hJ⟩ := IH M2 hLI2
  refine ⟨Mf, hF, ?_⟩
  have hl0 := hLI.len
  have hl2 := hLI2.len
  obtain ⟨fs0, h0⟩ := hLI.at0
  refine J.aload_n d_L_law_873 rfl rfl ?_
  refine J.aload_n d_L_law_874 rfl rfl ?_
  refine J.iload d_L_law_875 rfl ?_
  refine J.iconst d_L_law_877 (v := nI 1) (by decide) ?_
  refine J.iaddN d_L_law_878 ?_
  refine J.ialoadS d_L_law_879 rfl (by omega) (by omega) ?_
  refine J.v1i c1 k_law_V_length d_L_law_880 h0 rfl (hl1.trans hl0.symm) ?_ (hf := ⟨by show k + 0 ≤ 601024; omega, by show n + 0 ≤ 7293000; omega⟩)
  refine J.aload_n d_L_law_883 rfl rfl ?_
  refine J.aload_n d_L_law_884 rfl rfl ?_
  refine J.iload d_L_law_885 rfl ?_
  refine J.iconst d_L_law_887 (v := nI 1) (by decide) ?_
  refine J.iaddN d_L_law_888 ?_
  refine J.ialoadS d_L_law_889 rfl (by omega) (by omega) ?_
  refine J.v1i c2 k_law_R_length d_L_law_890 h15 rfl (hl2.trans hl1.symm) ?_ (hf := ⟨by show k + 0 + 0 ≤ 601024; omega, by show n + 0 + 0 ≤ 7293000; omega⟩)
  refine J.icmp_eq d_L_law_893 (tgt := 991) (by decide) (fun _ => ?_) (fun h => absurd rfl h)
  exact J.widen (k' := k + 2) (n' := n + 12) (by show k + 0 + 0 ≤ k + 2; omega) (by show n + 0 + 0 ≤ n + 12; omega) hJ
theorem lw_room (hLI : LI K Mo L xs M) (hL : L ≤ 2562) (hp : p + 5 ≤ L) (hS : Sq l i_V_room i_R_room [.int (xs (p + 1))] K Mo L xs M) (hk : k + 2 ≤ 601024) (hn : n + 12 ≤ 7293000) (IH : ∀ M2, LI K Mo L xs M2 → ∃ Mf, LI K Mo L xs Mf ∧ J l (i_law L xs) 991 [(0, .ref 1000), (1, .ref 0), (2, .ref 15), (3, .ref 27), (4, .int (nI p))] [] M2 (k + 2) (n + 12) (.inl (some (.int (nI 1)), Mf))) : ∃ Mf, LI K Mo L xs Mf ∧ J l (i_law L xs) 898 [(0, .ref 1000), (1, .ref 0), (2, .ref 15), (3, .ref 27), (4, .int (nI p))] [] M k n (.inl (some (.int (nI 1)), Mf)) := by
  obtain ⟨M1, M2, z, fs, c1, h15, hl1, c2, hLI2⟩ := hS
  obtain ⟨Mf, hF, hJ⟩ := IH M2 hLI2
  refine ⟨Mf, hF, ?_⟩
  have hl0 := hLI.len
  have hl2 := hLI2.len
  obtain ⟨fs0, h0⟩ := hLI.at0
  refine J.aload_n d_L_law_898 rfl rfl ?_
  refine J.aload_n d_L_law_899 rfl rfl ?_
  refine J.iload d_L_law_900 rfl ?_
  refine J.iconst d_L_law_902 (v := nI 1) (by decide) ?_
  refine J.iaddN d_L_law_903 ?_
  refine J.ialoadS d_L_law_904 rfl (by omega) (by omega) ?_
  refine J.v1i c1 k_law_V_room d_L_law_905 h0 rfl (hl1.trans hl0.symm) ?_ (hf := ⟨by show k + 0 ≤ 601024; omega, by show n + 0 ≤ 7293000; omega⟩)
  refine J.aload_n d_L_law_908 rfl rfl ?_
  refine J.aload_n d_L_law_909 rfl rfl ?_
  refine J.iload d_L_law_910 rfl ?_
  refine J.iconst d_L_law_912 (v := nI 1) (by decide) ?_
  refine J.iaddN d_L_law_913 ?_
  refine J.ialoadS d_L_law_914 rfl (by omega) (by omega) ?_
  refine J.v1i c2 k_law_R_room d_L_law_915 h15 rfl (hl2.trans hl1.symm) ?_ (hf := ⟨by show k + 0 + 0 ≤ 601024; omega, by show n + 0 + 0 ≤ 7293000; omega⟩)
  refine J.icmp_eq d_L_law_918 (tgt := 991) (by decide) (fun _ => ?_) (fun h => absurd rfl h)
  exact J.widen (k' := k + 2) (n' := n + 12) (by show k + 0 + 0 ≤ k + 2; omega) (by show n + 0 + 0 ≤ n + 12; omega) hJ
end CASES
