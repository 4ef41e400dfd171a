/-! a round of the law -/
theorem Rel.lay {σ : zSt} (h : Rel σ) : Lay σ := by
  obtain ⟨d, e, b, h⟩ := h
  exact h.2.2.2.1
theorem zTyp_i {K : zM} {v : Value} (hK : K.2.2.2.1 = some .int) (h : zTyp K v = true) : ∃ x, v = .int x := by
  unfold zTyp at h
  rw [hK] at h
  cases v with
  | int x => exact ⟨x, rfl⟩
  | _ => exact absurd h Bool.false_ne_true
theorem zTyp_l {K : zM} {v : Value} (hK : K.2.2.2.1 = some .long) (h : zTyp K v = true) : ∃ x, v = .long x := by
  unfold zTyp at h
  rw [hK] at h
  cases v with
  | long x => exact ⟨x, rfl⟩
  | _ => exact absurd h Bool.false_ne_true
def zlv (x y : Int32) : Int64 := (x.toInt64 <<< ((nI 32).toInt64 &&& 63)) ||| (y.toInt64 &&& 4294967295)
theorem lgc_self (x : Int64) : lg_cmp x x = 0 := by
  unfold lg_cmp
  rw [if_neg (Int64.lt_irrefl), if_pos rfl]
theorem and63 (x : Int32) : ∃ k, k < 64 ∧ x &&& nI 63 = nI k := by
  have e : (x &&& nI 63).toBitVec = x.toBitVec &&& 63#32 := rfl
  refine ⟨(x &&& nI 63).toBitVec.toNat, ?_, ?_⟩
  · rw [e, BitVec.toNat_and]
    exact Nat.lt_of_le_of_lt Nat.and_le_right (by decide)
  · apply Int32.toBitVec_inj.mp
    show _ = BitVec.ofNat 32 _
    apply BitVec.eq_of_toNat_eq
    rw [BitVec.toNat_ofNat, Nat.mod_eq_of_lt (BitVec.isLt _)]
section
variable {nm : String} {κ : zCtx} {u w : Nat} {σ : zSt} {b N : Nat} {xs : Nat → Int32} {i : Nat}
theorem law_c0 (B : zB (mLaw nm) κ) (S : zScr b N xs κ) (hi : i + 6 ≤ N) (hR : Rel σ) (hu : u + 161 ≤ 600000) (hw : w + 644 ≤ 7302250) (next : ∀ u2 w2 τ, u2 ≤ u + 161 → w2 ≤ w + 644 → Rel τ → Z κ u2 w2 τ 1721 (zLL i) []) : Z κ u w σ 232 (zLL i) [] := by
  have hl := hR.lay
  have hu3 : u + zcells mX11_row ≤ u + 161 := Nat.add_le_add_left (by decide) u
  have hw3 : w + zslots mX11_row ≤ w + 644 := Nat.add_le_add_left (by decide) w
  have hu2 := Nat.le_trans hu3 hu
  have hw2 := Nat.le_trans hw3 hw
  have hp : Pair mX11_row mX12_row [.int (xs (i + 1)), .int (xs (i + 2)), .int (xs (i + 3))] σ := pr_row hR
  obtain ⟨v, hv, hk⟩ := hp
  obtain ⟨x, rfl⟩ := zTyp_i rfl hv
  refine Z.aload_n B dL_law_232 (v := .ref 0) rfl rfl ?_
  refine Z.sarg B S dL_law_233 dL_law_234 dL_law_235 dL_law_236 dL_law_237 (k := 1) rfl (by omega) ?_
  refine Z.sarg B S dL_law_238 dL_law_239 dL_law_240 dL_law_241 dL_law_242 (k := 2) rfl (by omega) ?_
  refine Z.sarg B S dL_law_243 dL_law_244 dL_law_245 dL_law_246 dL_law_247 (k := 3) rfl (by omega) ?_
  refine Z.lawK B S dL_law_248 hk rfl wX11_row iX11_row sX11_row kLaw_13 hl rfl rfl rfl hu2 hw2 ?_
  rintro r1 τ1 ⟨rfl, h45, hm⟩
  show Z κ _ _ τ1 251 (zLL i) [.int x]
  refine Z.aload_n B dL_law_251 (v := .ref 45) rfl rfl ?_
  refine Z.sarg B S dL_law_252 dL_law_253 dL_law_254 dL_law_255 dL_law_256 (k := 1) rfl (by omega) ?_
  refine Z.sarg B S dL_law_257 dL_law_258 dL_law_259 dL_law_260 dL_law_261 (k := 2) rfl (by omega) ?_
  refine Z.sarg B S dL_law_262 dL_law_263 dL_law_264 dL_law_265 dL_law_266 (k := 3) rfl (by omega) ?_
  refine Z.lawM B dL_law_267 hm rfl wX12_row iX12_row sX12_row kLaw_17 h45 rfl rfl rfl ⟨rfl, rfl⟩ hu2 hw2 ?_
  rintro r2 τ2 ⟨rfl, hR2⟩
  show Z κ _ _ τ2 270 (zLL i) [.int x, .int x]
  refine Z.icmp_eq B dL_law_270 (tgt := 1721) rfl (fun _ => next _ _ _ hu3 hw3 hR2) (fun h => absurd rfl h)
theorem law_c1 (B : zB (mLaw nm) κ) (S : zScr b N xs κ) (hi : i + 6 ≤ N) (hR : Rel σ) (hu : u + 161 ≤ 600000) (hw : w + 644 ≤ 7302250) (next : ∀ u2 w2 τ, u2 ≤ u + 161 → w2 ≤ w + 644 → Rel τ → Z κ u2 w2 τ 1721 (zLL i) []) : Z κ u w σ 275 (zLL i) [] := by
  have hl := hR.lay
  have hu3 : u + zcells mX11_set ≤ u + 161 := Nat.add_le_add_left (by decide) u
  have hw3 : w + zslots mX11_set ≤ w + 644 := Nat.add_le_add_left (by decide) w
  have hu2 := Nat.le_trans hu3 hu
  have hw2 := Nat.le_trans hw3 hw
  have hp : Pair mX11_set mX12_set [.int (xs (i + 1)), .int (xs (i + 2)), .long (zlv (xs (i + 3)) (xs (i + 4)))] σ := pr_set hR
  obtain ⟨v, hv, hk⟩ := hp
  obtain ⟨x, rfl⟩ := zTyp_i rfl hv
  refine Z.aload_n B dL_law_275 (v := .ref 0) rfl rfl ?_
  refine Z.sarg B S dL_law_276 dL_law_277 dL_law_278 dL_law_279 dL_law_280 (k := 1) rfl (by omega) ?_
  refine Z.sarg B S dL_law_281 dL_law_282 dL_law_283 dL_law_284 dL_law_285 (k := 2) rfl (by omega) ?_
  refine Z.sarg B S dL_law_286 dL_law_287 dL_law_288 dL_law_289 dL_law_290 (k := 3) rfl (by omega) ?_
  refine Z.i2l B dL_law_291 ?_
  refine Z.bipush B dL_law_292 (v := nI 32) rfl ?_
  refine Z.lshl B dL_law_294 ?_
  refine Z.sarg B S dL_law_295 dL_law_296 dL_law_297 dL_law_298 dL_law_299 (k := 4) rfl (by omega) ?_
  refine Z.i2l B dL_law_300 ?_
  refine Z.ldc2 B dL_law_301 kLawC18 ?_
  refine Z.land B dL_law_304 ?_
  refine Z.lor B dL_law_305 ?_
  refine Z.lawK B S dL_law_306 hk rfl wX11_set iX11_set sX11_set kLaw_20 hl rfl rfl rfl hu2 hw2 ?_
  rintro r1 τ1 ⟨rfl, h45, hm⟩
  show Z κ _ _ τ1 309 (zLL i) [.int x]
  refine Z.aload_n B dL_law_309 (v := .ref 45) rfl rfl ?_
  refine Z.sarg B S dL_law_310 dL_law_311 dL_law_312 dL_law_313 dL_law_314 (k := 1) rfl (by omega) ?_
  refine Z.sarg B S dL_law_315 dL_law_316 dL_law_317 dL_law_318 dL_law_319 (k := 2) rfl (by omega) ?_
  refine Z.sarg B S dL_law_320 dL_law_321 dL_law_322 dL_law_323 dL_law_324 (k := 3) rfl (by omega) ?_
  refine Z.i2l B dL_law_325 ?_
  refine Z.bipush B dL_law_326 (v := nI 32) rfl ?_
  refine Z.lshl B dL_law_328 ?_
  refine Z.sarg B S dL_law_329 dL_law_330 dL_law_331 dL_law_332 dL_law_333 (k := 4) rfl (by omega) ?_
  refine Z.i2l B dL_law_334 ?_
  refine Z.ldc2 B dL_law_335 kLawC18 ?_
  refine Z.land B dL_law_338 ?_
  refine Z.lor B dL_law_339 ?_
  refine Z.lawM B dL_law_340 hm rfl wX12_set iX12_set sX12_set kLaw_24 h45 rfl rfl rfl ⟨rfl, rfl⟩ hu2 hw2 ?_
  rintro r2 τ2 ⟨rfl, hR2⟩
  show Z κ _ _ τ2 343 (zLL i) [.int x, .int x]
  refine Z.icmp_eq B dL_law_343 (tgt := 1721) rfl (fun _ => next _ _ _ hu3 hw3 hR2) (fun h => absurd rfl h)
theorem law_c2 (B : zB (mLaw nm) κ) (S : zScr b N xs κ) (hi : i + 6 ≤ N) (hR : Rel σ) (hu : u + 161 ≤ 600000) (hw : w + 644 ≤ 7302250) (next : ∀ u2 w2 τ, u2 ≤ u + 161 → w2 ≤ w + 644 → Rel τ → Z κ u2 w2 τ 1721 (zLL i) []) : Z κ u w σ 348 (zLL i) [] := by
  have hl := hR.lay
  have hu3 : u + zcells mX11_copy ≤ u + 161 := Nat.add_le_add_left (by decide) u
  have hw3 : w + zslots mX11_copy ≤ w + 644 := Nat.add_le_add_left (by decide) w
  have hu2 := Nat.le_trans hu3 hu
  have hw2 := Nat.le_trans hw3 hw
  have hp : Pair mX11_copy mX12_copy [.int (xs (i + 1)), .int (xs (i + 2)), .int (xs (i + 3)), .int (xs (i + 4)), .int (xs (i + 5))] σ := pr_copy hR
  obtain ⟨v, hv, hk⟩ := hp
  obtain ⟨x, rfl⟩ := zTyp_i rfl hv
  refine Z.aload_n B dL_law_348 (v := .ref 0) rfl rfl ?_
  refine Z.sarg B S dL_law_349 dL_law_350 dL_law_351 dL_law_352 dL_law_353 (k := 1) rfl (by omega) ?_
  refine Z.sarg B S dL_law_354 dL_law_355 dL_law_356 dL_law_357 dL_law_358 (k := 2) rfl (by omega) ?_
  refine Z.sarg B S dL_law_359 dL_law_360 dL_law_361 dL_law_362 dL_law_363 (k := 3) rfl (by omega) ?_
  refine Z.sarg B S dL_law_364 dL_law_365 dL_law_366 dL_law_367 dL_law_368 (k := 4) rfl (by omega) ?_
  refine Z.sarg B S dL_law_369 dL_law_370 dL_law_371 dL_law_372 dL_law_373 (k := 5) rfl (by omega) ?_
  refine Z.lawK B S dL_law_374 hk rfl wX11_copy iX11_copy sX11_copy kLaw_25 hl rfl rfl rfl hu2 hw2 ?_
  rintro r1 τ1 ⟨rfl, h45, hm⟩
  show Z κ _ _ τ1 377 (zLL i) [.int x]
  refine Z.aload_n B dL_law_377 (v := .ref 45) rfl rfl ?_
  refine Z.sarg B S dL_law_378 dL_law_379 dL_law_380 dL_law_381 dL_law_382 (k := 1) rfl (by omega) ?_
  refine Z.sarg B S dL_law_383 dL_law_384 dL_law_385 dL_law_386 dL_law_387 (k := 2) rfl (by omega) ?_
  refine Z.sarg B S dL_law_388 dL_law_389 dL_law_390 dL_law_391 dL_law_392 (k := 3) rfl (by omega) ?_
  refine Z.sarg B S dL_law_393 dL_law_394 dL_law_395 dL_law_396 dL_law_397 (k := 4) rfl (by omega) ?_
  refine Z.sarg B S dL_law_398 dL_law_399 dL_law_400 dL_law_401 dL_law_402 (k := 5) rfl (by omega) ?_
  refine Z.lawM B dL_law_403 hm rfl wX12_copy iX12_copy sX12_copy kLaw_29 h45 rfl rfl rfl ⟨rfl, rfl⟩ hu2 hw2 ?_
  rintro r2 τ2 ⟨rfl, hR2⟩
  show Z κ _ _ τ2 406 (zLL i) [.int x, .int x]
  refine Z.icmp_eq B dL_law_406 (tgt := 1721) rfl (fun _ => next _ _ _ hu3 hw3 hR2) (fun h => absurd rfl h)
theorem law_c3 (B : zB (mLaw nm) κ) (S : zScr b N xs κ) (hi : i + 6 ≤ N) (hR : Rel σ) (hu : u + 161 ≤ 600000) (hw : w + 644 ≤ 7302250) (next : ∀ u2 w2 τ, u2 ≤ u + 161 → w2 ≤ w + 644 → Rel τ → Z κ u2 w2 τ 1721 (zLL i) []) : Z κ u w σ 411 (zLL i) [] := by
  have hl := hR.lay
  have hu3 : u + zcells mX11_element ≤ u + 161 := Nat.add_le_add_left (by decide) u
  have hw3 : w + zslots mX11_element ≤ w + 644 := Nat.add_le_add_left (by decide) w
  have hu2 := Nat.le_trans hu3 hu
  have hw2 := Nat.le_trans hw3 hw
  have hp : Pair mX11_element mX12_element [.int (xs (i + 1)), .int (xs (i + 2))] σ := pr_element hR
  obtain ⟨v, hv, hk⟩ := hp
  obtain ⟨x, rfl⟩ := zTyp_l rfl hv
  refine Z.aload_n B dL_law_411 (v := .ref 0) rfl rfl ?_
  refine Z.sarg B S dL_law_412 dL_law_413 dL_law_414 dL_law_415 dL_law_416 (k := 1) rfl (by omega) ?_
  refine Z.sarg B S dL_law_417 dL_law_418 dL_law_419 dL_law_420 dL_law_421 (k := 2) rfl (by omega) ?_
  refine Z.lawK B S dL_law_422 hk rfl wX11_element iX11_element sX11_element kLaw_30 hl rfl rfl rfl hu2 hw2 ?_
  rintro r1 τ1 ⟨rfl, h45, hm⟩
  show Z κ _ _ τ1 425 (zLL i) [.long x]
  refine Z.aload_n B dL_law_425 (v := .ref 45) rfl rfl ?_
  refine Z.sarg B S dL_law_426 dL_law_427 dL_law_428 dL_law_429 dL_law_430 (k := 1) rfl (by omega) ?_
  refine Z.sarg B S dL_law_431 dL_law_432 dL_law_433 dL_law_434 dL_law_435 (k := 2) rfl (by omega) ?_
  refine Z.lawM B dL_law_436 hm rfl wX12_element iX12_element sX12_element kLaw_34 h45 rfl rfl rfl ⟨rfl, rfl⟩ hu2 hw2 ?_
  rintro r2 τ2 ⟨rfl, hR2⟩
  show Z κ _ _ τ2 439 (zLL i) [.long x, .long x]
  refine Z.lcmp B dL_law_439 ?_
  refine Z.if_eq B dL_law_440 (tgt := 1721) rfl (fun _ => next _ _ _ hu3 hw3 hR2) (fun h => absurd (lgc_self _) h)
theorem law_c4 (B : zB (mLaw nm) κ) (S : zScr b N xs κ) (hi : i + 6 ≤ N) (hR : Rel σ) (hu : u + 161 ≤ 600000) (hw : w + 644 ≤ 7302250) (next : ∀ u2 w2 τ, u2 ≤ u + 161 → w2 ≤ w + 644 → Rel τ → Z κ u2 w2 τ 1721 (zLL i) []) : Z κ u w σ 445 (zLL i) [] := by
  have hl := hR.lay
  have hu3 : u + zcells mX11_show ≤ u + 161 := Nat.add_le_add_left (by decide) u
  have hw3 : w + zslots mX11_show ≤ w + 644 := Nat.add_le_add_left (by decide) w
  have hu2 := Nat.le_trans hu3 hu
  have hw2 := Nat.le_trans hw3 hw
  have hp : Pair mX11_show mX12_show [.int (xs (i + 1)), .int (xs (i + 2))] σ := pr_show hR
  obtain ⟨v, hv, hk⟩ := hp
  obtain ⟨x, rfl⟩ := zTyp_i rfl hv
  refine Z.aload_n B dL_law_445 (v := .ref 0) rfl rfl ?_
  refine Z.sarg B S dL_law_446 dL_law_447 dL_law_448 dL_law_449 dL_law_450 (k := 1) rfl (by omega) ?_
  refine Z.sarg B S dL_law_451 dL_law_452 dL_law_453 dL_law_454 dL_law_455 (k := 2) rfl (by omega) ?_
  refine Z.lawK B S dL_law_456 hk rfl wX11_show iX11_show sX11_show kLaw_35 hl rfl rfl rfl hu2 hw2 ?_
  rintro r1 τ1 ⟨rfl, h45, hm⟩
  show Z κ _ _ τ1 459 (zLL i) [.int x]
  refine Z.aload_n B dL_law_459 (v := .ref 45) rfl rfl ?_
  refine Z.sarg B S dL_law_460 dL_law_461 dL_law_462 dL_law_463 dL_law_464 (k := 1) rfl (by omega) ?_
  refine Z.sarg B S dL_law_465 dL_law_466 dL_law_467 dL_law_468 dL_law_469 (k := 2) rfl (by omega) ?_
  refine Z.lawM B dL_law_470 hm rfl wX12_show iX12_show sX12_show kLaw_39 h45 rfl rfl rfl ⟨rfl, rfl⟩ hu2 hw2 ?_
  rintro r2 τ2 ⟨rfl, hR2⟩
  show Z κ _ _ τ2 473 (zLL i) [.int x, .int x]
  refine Z.icmp_eq B dL_law_473 (tgt := 1721) rfl (fun _ => next _ _ _ hu3 hw3 hR2) (fun h => absurd rfl h)
theorem law_c5 (B : zB (mLaw nm) κ) (S : zScr b N xs κ) (hi : i + 6 ≤ N) (hR : Rel σ) (hu : u + 161 ≤ 600000) (hw : w + 644 ≤ 7302250) (next : ∀ u2 w2 τ, u2 ≤ u + 161 → w2 ≤ w + 644 → Rel τ → Z κ u2 w2 τ 1721 (zLL i) []) : Z κ u w σ 478 (zLL i) [] := by
  have hl := hR.lay
  have hu3 : u + zcells mX11_holds ≤ u + 161 := Nat.add_le_add_left (by decide) u
  have hw3 : w + zslots mX11_holds ≤ w + 644 := Nat.add_le_add_left (by decide) w
  have hu2 := Nat.le_trans hu3 hu
  have hw2 := Nat.le_trans hw3 hw
  have hp : Pair mX11_holds mX12_holds [.int (xs (i + 1))] σ := pr_holds hR
  obtain ⟨v, hv, hk⟩ := hp
  obtain ⟨x, rfl⟩ := zTyp_i rfl hv
  refine Z.aload_n B dL_law_478 (v := .ref 0) rfl rfl ?_
  refine Z.sarg B S dL_law_479 dL_law_480 dL_law_481 dL_law_482 dL_law_483 (k := 1) rfl (by omega) ?_
  refine Z.lawK B S dL_law_484 hk rfl wX11_holds iX11_holds sX11_holds kLaw_40 hl rfl rfl rfl hu2 hw2 ?_
  rintro r1 τ1 ⟨rfl, h45, hm⟩
  show Z κ _ _ τ1 487 (zLL i) [.int x]
  refine Z.aload_n B dL_law_487 (v := .ref 45) rfl rfl ?_
  refine Z.sarg B S dL_law_488 dL_law_489 dL_law_490 dL_law_491 dL_law_492 (k := 1) rfl (by omega) ?_
  refine Z.lawM B dL_law_493 hm rfl wX12_holds iX12_holds sX12_holds kLaw_44 h45 rfl rfl rfl ⟨rfl, rfl⟩ hu2 hw2 ?_
  rintro r2 τ2 ⟨rfl, hR2⟩
  show Z κ _ _ τ2 496 (zLL i) [.int x, .int x]
  refine Z.icmp_eq B dL_law_496 (tgt := 1721) rfl (fun _ => next _ _ _ hu3 hw3 hR2) (fun h => absurd rfl h)
theorem law_c6 (B : zB (mLaw nm) κ) (S : zScr b N xs κ) (hi : i + 6 ≤ N) (hR : Rel σ) (hu : u + 161 ≤ 600000) (hw : w + 644 ≤ 7302250) (next : ∀ u2 w2 τ, u2 ≤ u + 161 → w2 ≤ w + 644 → Rel τ → Z κ u2 w2 τ 1721 (zLL i) []) : Z κ u w σ 501 (zLL i) [] := by
  have hl := hR.lay
  have hu3 : u + zcells mX11_says ≤ u + 161 := Nat.add_le_add_left (by decide) u
  have hw3 : w + zslots mX11_says ≤ w + 644 := Nat.add_le_add_left (by decide) w
  have hu2 := Nat.le_trans hu3 hu
  have hw2 := Nat.le_trans hw3 hw
  have hp : Pair mX11_says mX12_says [.int (xs (i + 1)), .int (xs (i + 2))] σ := pr_says hR
  obtain ⟨v, hv, hk⟩ := hp
  obtain ⟨x, rfl⟩ := zTyp_i rfl hv
  refine Z.aload_n B dL_law_501 (v := .ref 0) rfl rfl ?_
  refine Z.sarg B S dL_law_502 dL_law_503 dL_law_504 dL_law_505 dL_law_506 (k := 1) rfl (by omega) ?_
  refine Z.sarg B S dL_law_507 dL_law_508 dL_law_509 dL_law_510 dL_law_511 (k := 2) rfl (by omega) ?_
  refine Z.lawK B S dL_law_512 hk rfl wX11_says iX11_says sX11_says kLaw_45 hl rfl rfl rfl hu2 hw2 ?_
  rintro r1 τ1 ⟨rfl, h45, hm⟩
  show Z κ _ _ τ1 515 (zLL i) [.int x]
  refine Z.aload_n B dL_law_515 (v := .ref 45) rfl rfl ?_
  refine Z.sarg B S dL_law_516 dL_law_517 dL_law_518 dL_law_519 dL_law_520 (k := 1) rfl (by omega) ?_
  refine Z.sarg B S dL_law_521 dL_law_522 dL_law_523 dL_law_524 dL_law_525 (k := 2) rfl (by omega) ?_
  refine Z.lawM B dL_law_526 hm rfl wX12_says iX12_says sX12_says kLaw_48 h45 rfl rfl rfl ⟨rfl, rfl⟩ hu2 hw2 ?_
  rintro r2 τ2 ⟨rfl, hR2⟩
  show Z κ _ _ τ2 529 (zLL i) [.int x, .int x]
  refine Z.icmp_eq B dL_law_529 (tgt := 1721) rfl (fun _ => next _ _ _ hu3 hw3 hR2) (fun h => absurd rfl h)
theorem law_c7 (B : zB (mLaw nm) κ) (S : zScr b N xs κ) (hi : i + 6 ≤ N) (hR : Rel σ) (hu : u + 161 ≤ 600000) (hw : w + 644 ≤ 7302250) (next : ∀ u2 w2 τ, u2 ≤ u + 161 → w2 ≤ w + 644 → Rel τ → Z κ u2 w2 τ 1721 (zLL i) []) : Z κ u w σ 534 (zLL i) [] := by
  have hl := hR.lay
  have hu3 : u + zcells mX11_comer ≤ u + 161 := Nat.add_le_add_left (by decide) u
  have hw3 : w + zslots mX11_comer ≤ w + 644 := Nat.add_le_add_left (by decide) w
  have hu2 := Nat.le_trans hu3 hu
  have hw2 := Nat.le_trans hw3 hw
  have hp : Pair mX11_comer mX12_comer [.int (xs (i + 1)), .int (xs (i + 2))] σ := pr_comer hR
  obtain ⟨v, hv, hk⟩ := hp
  obtain ⟨x, rfl⟩ := zTyp_i rfl hv
  refine Z.aload_n B dL_law_534 (v := .ref 0) rfl rfl ?_
  refine Z.sarg B S dL_law_535 dL_law_536 dL_law_537 dL_law_538 dL_law_539 (k := 1) rfl (by omega) ?_
  refine Z.sarg B S dL_law_540 dL_law_541 dL_law_542 dL_law_543 dL_law_544 (k := 2) rfl (by omega) ?_
  refine Z.lawK B S dL_law_545 hk rfl wX11_comer iX11_comer sX11_comer kLaw_49 hl rfl rfl rfl hu2 hw2 ?_
  rintro r1 τ1 ⟨rfl, h45, hm⟩
  show Z κ _ _ τ1 548 (zLL i) [.int x]
  refine Z.aload_n B dL_law_548 (v := .ref 45) rfl rfl ?_
  refine Z.sarg B S dL_law_549 dL_law_550 dL_law_551 dL_law_552 dL_law_553 (k := 1) rfl (by omega) ?_
  refine Z.sarg B S dL_law_554 dL_law_555 dL_law_556 dL_law_557 dL_law_558 (k := 2) rfl (by omega) ?_
  refine Z.lawM B dL_law_559 hm rfl wX12_comer iX12_comer sX12_comer kLaw_52 h45 rfl rfl rfl ⟨rfl, rfl⟩ hu2 hw2 ?_
  rintro r2 τ2 ⟨rfl, hR2⟩
  show Z κ _ _ τ2 562 (zLL i) [.int x, .int x]
  refine Z.icmp_eq B dL_law_562 (tgt := 1721) rfl (fun _ => next _ _ _ hu3 hw3 hR2) (fun h => absurd rfl h)
theorem law_c8 (B : zB (mLaw nm) κ) (S : zScr b N xs κ) (hi : i + 6 ≤ N) (hR : Rel σ) (hu : u + 161 ≤ 600000) (hw : w + 644 ≤ 7302250) (next : ∀ u2 w2 τ, u2 ≤ u + 161 → w2 ≤ w + 644 → Rel τ → Z κ u2 w2 τ 1721 (zLL i) []) : Z κ u w σ 567 (zLL i) [] := by
  have hl := hR.lay
  have hu3 : u + zcells mX11_asker ≤ u + 161 := Nat.add_le_add_left (by decide) u
  have hw3 : w + zslots mX11_asker ≤ w + 644 := Nat.add_le_add_left (by decide) w
  have hu2 := Nat.le_trans hu3 hu
  have hw2 := Nat.le_trans hw3 hw
  have hp : Pair mX11_asker mX12_asker [.int (xs (i + 1)), .int (xs (i + 2)), .int (xs (i + 3))] σ := pr_asker hR
  obtain ⟨v, hv, hk⟩ := hp
  obtain ⟨x, rfl⟩ := zTyp_i rfl hv
  refine Z.aload_n B dL_law_567 (v := .ref 0) rfl rfl ?_
  refine Z.sarg B S dL_law_568 dL_law_569 dL_law_570 dL_law_571 dL_law_572 (k := 1) rfl (by omega) ?_
  refine Z.sarg B S dL_law_573 dL_law_574 dL_law_575 dL_law_576 dL_law_577 (k := 2) rfl (by omega) ?_
  refine Z.sarg B S dL_law_578 dL_law_579 dL_law_580 dL_law_581 dL_law_582 (k := 3) rfl (by omega) ?_
  refine Z.lawK B S dL_law_583 hk rfl wX11_asker iX11_asker sX11_asker kLaw_53 hl rfl rfl rfl hu2 hw2 ?_
  rintro r1 τ1 ⟨rfl, h45, hm⟩
  show Z κ _ _ τ1 586 (zLL i) [.int x]
  refine Z.aload_n B dL_law_586 (v := .ref 45) rfl rfl ?_
  refine Z.sarg B S dL_law_587 dL_law_588 dL_law_589 dL_law_590 dL_law_591 (k := 1) rfl (by omega) ?_
  refine Z.sarg B S dL_law_592 dL_law_593 dL_law_594 dL_law_595 dL_law_596 (k := 2) rfl (by omega) ?_
  refine Z.sarg B S dL_law_597 dL_law_598 dL_law_599 dL_law_600 dL_law_601 (k := 3) rfl (by omega) ?_
  refine Z.lawM B dL_law_602 hm rfl wX12_asker iX12_asker sX12_asker kLaw_56 h45 rfl rfl rfl ⟨rfl, rfl⟩ hu2 hw2 ?_
  rintro r2 τ2 ⟨rfl, hR2⟩
  show Z κ _ _ τ2 605 (zLL i) [.int x, .int x]
  refine Z.icmp_eq B dL_law_605 (tgt := 1721) rfl (fun _ => next _ _ _ hu3 hw3 hR2) (fun h => absurd rfl h)
theorem law_c9 (B : zB (mLaw nm) κ) (S : zScr b N xs κ) (hi : i + 6 ≤ N) (hR : Rel σ) (hu : u + 161 ≤ 600000) (hw : w + 644 ≤ 7302250) (next : ∀ u2 w2 τ, u2 ≤ u + 161 → w2 ≤ w + 644 → Rel τ → Z κ u2 w2 τ 1721 (zLL i) []) : Z κ u w σ 610 (zLL i) [] := by
  have hl := hR.lay
  have hu3 : u + zcells mX11_way ≤ u + 161 := Nat.add_le_add_left (by decide) u
  have hw3 : w + zslots mX11_way ≤ w + 644 := Nat.add_le_add_left (by decide) w
  have hu2 := Nat.le_trans hu3 hu
  have hw2 := Nat.le_trans hw3 hw
  have hp : Pair mX11_way mX12_way [.int (xs (i + 1)), .int (xs (i + 2))] σ := pr_way hR
  obtain ⟨v, hv, hk⟩ := hp
  obtain ⟨x, rfl⟩ := zTyp_i rfl hv
  refine Z.aload_n B dL_law_610 (v := .ref 0) rfl rfl ?_
  refine Z.sarg B S dL_law_611 dL_law_612 dL_law_613 dL_law_614 dL_law_615 (k := 1) rfl (by omega) ?_
  refine Z.sarg B S dL_law_616 dL_law_617 dL_law_618 dL_law_619 dL_law_620 (k := 2) rfl (by omega) ?_
  refine Z.lawK B S dL_law_621 hk rfl wX11_way iX11_way sX11_way kLaw_57 hl rfl rfl rfl hu2 hw2 ?_
  rintro r1 τ1 ⟨rfl, h45, hm⟩
  show Z κ _ _ τ1 624 (zLL i) [.int x]
  refine Z.aload_n B dL_law_624 (v := .ref 45) rfl rfl ?_
  refine Z.sarg B S dL_law_625 dL_law_626 dL_law_627 dL_law_628 dL_law_629 (k := 1) rfl (by omega) ?_
  refine Z.sarg B S dL_law_630 dL_law_631 dL_law_632 dL_law_633 dL_law_634 (k := 2) rfl (by omega) ?_
  refine Z.lawM B dL_law_635 hm rfl wX12_way iX12_way sX12_way kLaw_60 h45 rfl rfl rfl ⟨rfl, rfl⟩ hu2 hw2 ?_
  rintro r2 τ2 ⟨rfl, hR2⟩
  show Z κ _ _ τ2 638 (zLL i) [.int x, .int x]
  refine Z.icmp_eq B dL_law_638 (tgt := 1721) rfl (fun _ => next _ _ _ hu3 hw3 hR2) (fun h => absurd rfl h)
theorem law_c10 (B : zB (mLaw nm) κ) (S : zScr b N xs κ) (hi : i + 6 ≤ N) (hR : Rel σ) (hu : u + 161 ≤ 600000) (hw : w + 644 ≤ 7302250) (next : ∀ u2 w2 τ, u2 ≤ u + 161 → w2 ≤ w + 644 → Rel τ → Z κ u2 w2 τ 1721 (zLL i) []) : Z κ u w σ 643 (zLL i) [] := by
  have hl := hR.lay
  have hu3 : u + zcells mX11_comerOf ≤ u + 161 := Nat.add_le_add_left (by decide) u
  have hw3 : w + zslots mX11_comerOf ≤ w + 644 := Nat.add_le_add_left (by decide) w
  have hu2 := Nat.le_trans hu3 hu
  have hw2 := Nat.le_trans hw3 hw
  have hp : Pair mX11_comerOf mX12_comerOf [.int (xs (i + 1)), .int (xs (i + 2))] σ := pr_comerOf hR
  obtain ⟨v, hv, hk⟩ := hp
  obtain ⟨x, rfl⟩ := zTyp_i rfl hv
  refine Z.aload_n B dL_law_643 (v := .ref 0) rfl rfl ?_
  refine Z.sarg B S dL_law_644 dL_law_645 dL_law_646 dL_law_647 dL_law_648 (k := 1) rfl (by omega) ?_
  refine Z.sarg B S dL_law_649 dL_law_650 dL_law_651 dL_law_652 dL_law_653 (k := 2) rfl (by omega) ?_
  refine Z.lawK B S dL_law_654 hk rfl wX11_comerOf iX11_comerOf sX11_comerOf kLaw_61 hl rfl rfl rfl hu2 hw2 ?_
  rintro r1 τ1 ⟨rfl, h45, hm⟩
  show Z κ _ _ τ1 657 (zLL i) [.int x]
  refine Z.aload_n B dL_law_657 (v := .ref 45) rfl rfl ?_
  refine Z.sarg B S dL_law_658 dL_law_659 dL_law_660 dL_law_661 dL_law_662 (k := 1) rfl (by omega) ?_
  refine Z.sarg B S dL_law_663 dL_law_664 dL_law_665 dL_law_666 dL_law_667 (k := 2) rfl (by omega) ?_
  refine Z.lawM B dL_law_668 hm rfl wX12_comerOf iX12_comerOf sX12_comerOf kLaw_64 h45 rfl rfl rfl ⟨rfl, rfl⟩ hu2 hw2 ?_
  rintro r2 τ2 ⟨rfl, hR2⟩
  show Z κ _ _ τ2 671 (zLL i) [.int x, .int x]
  refine Z.icmp_eq B dL_law_671 (tgt := 1721) rfl (fun _ => next _ _ _ hu3 hw3 hR2) (fun h => absurd rfl h)
theorem law_c11 (B : zB (mLaw nm) κ) (S : zScr b N xs κ) (hi : i + 6 ≤ N) (hR : Rel σ) (hu : u + 161 ≤ 600000) (hw : w + 644 ≤ 7302250) (next : ∀ u2 w2 τ, u2 ≤ u + 161 → w2 ≤ w + 644 → Rel τ → Z κ u2 w2 τ 1721 (zLL i) []) : Z κ u w σ 676 (zLL i) [] := by
  have hl := hR.lay
  have hu3 : u + zcells mX11_askerOf ≤ u + 161 := Nat.add_le_add_left (by decide) u
  have hw3 : w + zslots mX11_askerOf ≤ w + 644 := Nat.add_le_add_left (by decide) w
  have hu2 := Nat.le_trans hu3 hu
  have hw2 := Nat.le_trans hw3 hw
  have hp : Pair mX11_askerOf mX12_askerOf [.int (xs (i + 1)), .int (xs (i + 2))] σ := pr_askerOf hR
  obtain ⟨v, hv, hk⟩ := hp
  obtain ⟨x, rfl⟩ := zTyp_i rfl hv
  refine Z.aload_n B dL_law_676 (v := .ref 0) rfl rfl ?_
  refine Z.sarg B S dL_law_677 dL_law_678 dL_law_679 dL_law_680 dL_law_681 (k := 1) rfl (by omega) ?_
  refine Z.sarg B S dL_law_682 dL_law_683 dL_law_684 dL_law_685 dL_law_686 (k := 2) rfl (by omega) ?_
  refine Z.lawK B S dL_law_687 hk rfl wX11_askerOf iX11_askerOf sX11_askerOf kLaw_65 hl rfl rfl rfl hu2 hw2 ?_
  rintro r1 τ1 ⟨rfl, h45, hm⟩
  show Z κ _ _ τ1 690 (zLL i) [.int x]
  refine Z.aload_n B dL_law_690 (v := .ref 45) rfl rfl ?_
  refine Z.sarg B S dL_law_691 dL_law_692 dL_law_693 dL_law_694 dL_law_695 (k := 1) rfl (by omega) ?_
  refine Z.sarg B S dL_law_696 dL_law_697 dL_law_698 dL_law_699 dL_law_700 (k := 2) rfl (by omega) ?_
  refine Z.lawM B dL_law_701 hm rfl wX12_askerOf iX12_askerOf sX12_askerOf kLaw_68 h45 rfl rfl rfl ⟨rfl, rfl⟩ hu2 hw2 ?_
  rintro r2 τ2 ⟨rfl, hR2⟩
  show Z κ _ _ τ2 704 (zLL i) [.int x, .int x]
  refine Z.icmp_eq B dL_law_704 (tgt := 1721) rfl (fun _ => next _ _ _ hu3 hw3 hR2) (fun h => absurd rfl h)
theorem law_c12 (B : zB (mLaw nm) κ) (S : zScr b N xs κ) (hi : i + 6 ≤ N) (hR : Rel σ) (hu : u + 161 ≤ 600000) (hw : w + 644 ≤ 7302250) (next : ∀ u2 w2 τ, u2 ≤ u + 161 → w2 ≤ w + 644 → Rel τ → Z κ u2 w2 τ 1721 (zLL i) []) : Z κ u w σ 709 (zLL i) [] := by
  have hl := hR.lay
  have hu3 : u + zcells mX11_wayOf ≤ u + 161 := Nat.add_le_add_left (by decide) u
  have hw3 : w + zslots mX11_wayOf ≤ w + 644 := Nat.add_le_add_left (by decide) w
  have hu2 := Nat.le_trans hu3 hu
  have hw2 := Nat.le_trans hw3 hw
  have hp : Pair mX11_wayOf mX12_wayOf [.int (xs (i + 1)), .int (xs (i + 2))] σ := pr_wayOf hR
  obtain ⟨v, hv, hk⟩ := hp
  obtain ⟨x, rfl⟩ := zTyp_i rfl hv
  refine Z.aload_n B dL_law_709 (v := .ref 0) rfl rfl ?_
  refine Z.sarg B S dL_law_710 dL_law_711 dL_law_712 dL_law_713 dL_law_714 (k := 1) rfl (by omega) ?_
  refine Z.sarg B S dL_law_715 dL_law_716 dL_law_717 dL_law_718 dL_law_719 (k := 2) rfl (by omega) ?_
  refine Z.lawK B S dL_law_720 hk rfl wX11_wayOf iX11_wayOf sX11_wayOf kLaw_69 hl rfl rfl rfl hu2 hw2 ?_
  rintro r1 τ1 ⟨rfl, h45, hm⟩
  show Z κ _ _ τ1 723 (zLL i) [.int x]
  refine Z.aload_n B dL_law_723 (v := .ref 45) rfl rfl ?_
  refine Z.sarg B S dL_law_724 dL_law_725 dL_law_726 dL_law_727 dL_law_728 (k := 1) rfl (by omega) ?_
  refine Z.sarg B S dL_law_729 dL_law_730 dL_law_731 dL_law_732 dL_law_733 (k := 2) rfl (by omega) ?_
  refine Z.lawM B dL_law_734 hm rfl wX12_wayOf iX12_wayOf sX12_wayOf kLaw_72 h45 rfl rfl rfl ⟨rfl, rfl⟩ hu2 hw2 ?_
  rintro r2 τ2 ⟨rfl, hR2⟩
  show Z κ _ _ τ2 737 (zLL i) [.int x, .int x]
  refine Z.icmp_eq B dL_law_737 (tgt := 1721) rfl (fun _ => next _ _ _ hu3 hw3 hR2) (fun h => absurd rfl h)
theorem law_c13 (B : zB (mLaw nm) κ) (S : zScr b N xs κ) (hi : i + 6 ≤ N) (hR : Rel σ) (hu : u + 161 ≤ 600000) (hw : w + 644 ≤ 7302250) (next : ∀ u2 w2 τ, u2 ≤ u + 161 → w2 ≤ w + 644 → Rel τ → Z κ u2 w2 τ 1721 (zLL i) []) : Z κ u w σ 742 (zLL i) [] := by
  have hl := hR.lay
  have hu3 : u + zcells mX11_change ≤ u + 161 := Nat.add_le_add_left (by decide) u
  have hw3 : w + zslots mX11_change ≤ w + 644 := Nat.add_le_add_left (by decide) w
  have hu2 := Nat.le_trans hu3 hu
  have hw2 := Nat.le_trans hw3 hw
  have hp : Pair mX11_change mX12_change [.int (xs (i + 1)), .int (xs (i + 2)), .int (xs (i + 3))] σ := pr_change hR
  obtain ⟨v, hv, hk⟩ := hp
  obtain ⟨x, rfl⟩ := zTyp_i rfl hv
  refine Z.aload_n B dL_law_742 (v := .ref 0) rfl rfl ?_
  refine Z.sarg B S dL_law_743 dL_law_744 dL_law_745 dL_law_746 dL_law_747 (k := 1) rfl (by omega) ?_
  refine Z.sarg B S dL_law_748 dL_law_749 dL_law_750 dL_law_751 dL_law_752 (k := 2) rfl (by omega) ?_
  refine Z.sarg B S dL_law_753 dL_law_754 dL_law_755 dL_law_756 dL_law_757 (k := 3) rfl (by omega) ?_
  refine Z.lawK B S dL_law_758 hk rfl wX11_change iX11_change sX11_change kLaw_73 hl rfl rfl rfl hu2 hw2 ?_
  rintro r1 τ1 ⟨rfl, h45, hm⟩
  show Z κ _ _ τ1 761 (zLL i) [.int x]
  refine Z.aload_n B dL_law_761 (v := .ref 45) rfl rfl ?_
  refine Z.sarg B S dL_law_762 dL_law_763 dL_law_764 dL_law_765 dL_law_766 (k := 1) rfl (by omega) ?_
  refine Z.sarg B S dL_law_767 dL_law_768 dL_law_769 dL_law_770 dL_law_771 (k := 2) rfl (by omega) ?_
  refine Z.sarg B S dL_law_772 dL_law_773 dL_law_774 dL_law_775 dL_law_776 (k := 3) rfl (by omega) ?_
  refine Z.lawM B dL_law_777 hm rfl wX12_change iX12_change sX12_change kLaw_76 h45 rfl rfl rfl ⟨rfl, rfl⟩ hu2 hw2 ?_
  rintro r2 τ2 ⟨rfl, hR2⟩
  show Z κ _ _ τ2 780 (zLL i) [.int x, .int x]
  refine Z.icmp_eq B dL_law_780 (tgt := 1721) rfl (fun _ => next _ _ _ hu3 hw3 hR2) (fun h => absurd rfl h)
theorem law_c14 (B : zB (mLaw nm) κ) (S : zScr b N xs κ) (hi : i + 6 ≤ N) (hR : Rel σ) (hu : u + 161 ≤ 600000) (hw : w + 644 ≤ 7302250) (next : ∀ u2 w2 τ, u2 ≤ u + 161 → w2 ≤ w + 644 → Rel τ → Z κ u2 w2 τ 1721 (zLL i) []) : Z κ u w σ 785 (zLL i) [] := by
  have hl := hR.lay
  have hu3 : u + zcells mX11_drawn ≤ u + 161 := Nat.add_le_add_left (by decide) u
  have hw3 : w + zslots mX11_drawn ≤ w + 644 := Nat.add_le_add_left (by decide) w
  have hu2 := Nat.le_trans hu3 hu
  have hw2 := Nat.le_trans hw3 hw
  have hp : Pair mX11_drawn mX12_drawn [.int (xs (i + 1)), .int (xs (i + 2))] σ := pr_drawn hR
  obtain ⟨v, hv, hk⟩ := hp
  obtain ⟨x, rfl⟩ := zTyp_i rfl hv
  refine Z.aload_n B dL_law_785 (v := .ref 0) rfl rfl ?_
  refine Z.sarg B S dL_law_786 dL_law_787 dL_law_788 dL_law_789 dL_law_790 (k := 1) rfl (by omega) ?_
  refine Z.sarg B S dL_law_791 dL_law_792 dL_law_793 dL_law_794 dL_law_795 (k := 2) rfl (by omega) ?_
  refine Z.lawK B S dL_law_796 hk rfl wX11_drawn iX11_drawn sX11_drawn kLaw_77 hl rfl rfl rfl hu2 hw2 ?_
  rintro r1 τ1 ⟨rfl, h45, hm⟩
  show Z κ _ _ τ1 799 (zLL i) [.int x]
  refine Z.aload_n B dL_law_799 (v := .ref 45) rfl rfl ?_
  refine Z.sarg B S dL_law_800 dL_law_801 dL_law_802 dL_law_803 dL_law_804 (k := 1) rfl (by omega) ?_
  refine Z.sarg B S dL_law_805 dL_law_806 dL_law_807 dL_law_808 dL_law_809 (k := 2) rfl (by omega) ?_
  refine Z.lawM B dL_law_810 hm rfl wX12_drawn iX12_drawn sX12_drawn kLaw_80 h45 rfl rfl rfl ⟨rfl, rfl⟩ hu2 hw2 ?_
  rintro r2 τ2 ⟨rfl, hR2⟩
  show Z κ _ _ τ2 813 (zLL i) [.int x, .int x]
  refine Z.icmp_eq B dL_law_813 (tgt := 1721) rfl (fun _ => next _ _ _ hu3 hw3 hR2) (fun h => absurd rfl h)
theorem law_c15 (B : zB (mLaw nm) κ) (S : zScr b N xs κ) (hi : i + 6 ≤ N) (hR : Rel σ) (hu : u + 161 ≤ 600000) (hw : w + 644 ≤ 7302250) (next : ∀ u2 w2 τ, u2 ≤ u + 161 → w2 ≤ w + 644 → Rel τ → Z κ u2 w2 τ 1721 (zLL i) []) : Z κ u w σ 818 (zLL i) [] := by
  have hl := hR.lay
  have hu3 : u + zcells mX11_chief ≤ u + 161 := Nat.add_le_add_left (by decide) u
  have hw3 : w + zslots mX11_chief ≤ w + 644 := Nat.add_le_add_left (by decide) w
  have hu2 := Nat.le_trans hu3 hu
  have hw2 := Nat.le_trans hw3 hw
  have hp : Pair mX11_chief mX12_chief [.int (xs (i + 1))] σ := pr_chief hR
  obtain ⟨v, hv, hk⟩ := hp
  obtain ⟨x, rfl⟩ := zTyp_i rfl hv
  refine Z.aload_n B dL_law_818 (v := .ref 0) rfl rfl ?_
  refine Z.sarg B S dL_law_819 dL_law_820 dL_law_821 dL_law_822 dL_law_823 (k := 1) rfl (by omega) ?_
  refine Z.lawK B S dL_law_824 hk rfl wX11_chief iX11_chief sX11_chief kLaw_81 hl rfl rfl rfl hu2 hw2 ?_
  rintro r1 τ1 ⟨rfl, h45, hm⟩
  show Z κ _ _ τ1 827 (zLL i) [.int x]
  refine Z.aload_n B dL_law_827 (v := .ref 45) rfl rfl ?_
  refine Z.sarg B S dL_law_828 dL_law_829 dL_law_830 dL_law_831 dL_law_832 (k := 1) rfl (by omega) ?_
  refine Z.lawM B dL_law_833 hm rfl wX12_chief iX12_chief sX12_chief kLaw_84 h45 rfl rfl rfl ⟨rfl, rfl⟩ hu2 hw2 ?_
  rintro r2 τ2 ⟨rfl, hR2⟩
  show Z κ _ _ τ2 836 (zLL i) [.int x, .int x]
  refine Z.icmp_eq B dL_law_836 (tgt := 1721) rfl (fun _ => next _ _ _ hu3 hw3 hR2) (fun h => absurd rfl h)
theorem law_c16 (B : zB (mLaw nm) κ) (S : zScr b N xs κ) (hi : i + 6 ≤ N) (hR : Rel σ) (hu : u + 161 ≤ 600000) (hw : w + 644 ≤ 7302250) (next : ∀ u2 w2 τ, u2 ≤ u + 161 → w2 ≤ w + 644 → Rel τ → Z κ u2 w2 τ 1721 (zLL i) []) : Z κ u w σ 841 (zLL i) [] := by
  have hl := hR.lay
  have hu3 : u + zcells mX11_house ≤ u + 161 := Nat.add_le_add_left (by decide) u
  have hw3 : w + zslots mX11_house ≤ w + 644 := Nat.add_le_add_left (by decide) w
  have hu2 := Nat.le_trans hu3 hu
  have hw2 := Nat.le_trans hw3 hw
  have hp : Pair mX11_house mX12_house [.int (xs (i + 1))] σ := pr_house hR
  obtain ⟨v, hv, hk⟩ := hp
  obtain ⟨x, rfl⟩ := zTyp_i rfl hv
  refine Z.aload_n B dL_law_841 (v := .ref 0) rfl rfl ?_
  refine Z.sarg B S dL_law_842 dL_law_843 dL_law_844 dL_law_845 dL_law_846 (k := 1) rfl (by omega) ?_
  refine Z.lawK B S dL_law_847 hk rfl wX11_house iX11_house sX11_house kLaw_85 hl rfl rfl rfl hu2 hw2 ?_
  rintro r1 τ1 ⟨rfl, h45, hm⟩
  show Z κ _ _ τ1 850 (zLL i) [.int x]
  refine Z.aload_n B dL_law_850 (v := .ref 45) rfl rfl ?_
  refine Z.sarg B S dL_law_851 dL_law_852 dL_law_853 dL_law_854 dL_law_855 (k := 1) rfl (by omega) ?_
  refine Z.lawM B dL_law_856 hm rfl wX12_house iX12_house sX12_house kLaw_88 h45 rfl rfl rfl ⟨rfl, rfl⟩ hu2 hw2 ?_
  rintro r2 τ2 ⟨rfl, hR2⟩
  show Z κ _ _ τ2 859 (zLL i) [.int x, .int x]
  refine Z.icmp_eq B dL_law_859 (tgt := 1721) rfl (fun _ => next _ _ _ hu3 hw3 hR2) (fun h => absurd rfl h)
theorem law_c17 (B : zB (mLaw nm) κ) (S : zScr b N xs κ) (hi : i + 6 ≤ N) (hR : Rel σ) (hu : u + 161 ≤ 600000) (hw : w + 644 ≤ 7302250) (next : ∀ u2 w2 τ, u2 ≤ u + 161 → w2 ≤ w + 644 → Rel τ → Z κ u2 w2 τ 1721 (zLL i) []) : Z κ u w σ 864 (zLL i) [] := by
  have hl := hR.lay
  have hu3 : u + zcells mX11_fault ≤ u + 161 := Nat.add_le_add_left (by decide) u
  have hw3 : w + zslots mX11_fault ≤ w + 644 := Nat.add_le_add_left (by decide) w
  have hu2 := Nat.le_trans hu3 hu
  have hw2 := Nat.le_trans hw3 hw
  have hp : Pair mX11_fault mX12_fault [] σ := pr_fault hR
  obtain ⟨v, hv, hk⟩ := hp
  obtain ⟨x, rfl⟩ := zTyp_i rfl hv
  refine Z.aload_n B dL_law_864 (v := .ref 0) rfl rfl ?_
  refine Z.lawK B S dL_law_865 hk rfl wX11_fault iX11_fault sX11_fault kLaw_89 hl rfl rfl rfl hu2 hw2 ?_
  rintro r1 τ1 ⟨rfl, h45, hm⟩
  show Z κ _ _ τ1 868 (zLL i) [.int x]
  refine Z.aload_n B dL_law_868 (v := .ref 45) rfl rfl ?_
  refine Z.lawM B dL_law_869 hm rfl wX12_fault iX12_fault sX12_fault kLaw_93 h45 rfl rfl rfl ⟨rfl, rfl⟩ hu2 hw2 ?_
  rintro r2 τ2 ⟨rfl, hR2⟩
  show Z κ _ _ τ2 872 (zLL i) [.int x, .int x]
  refine Z.icmp_eq B dL_law_872 (tgt := 1721) rfl (fun _ => next _ _ _ hu3 hw3 hR2) (fun h => absurd rfl h)
theorem law_c18 (B : zB (mLaw nm) κ) (S : zScr b N xs κ) (hi : i + 6 ≤ N) (hR : Rel σ) (hu : u + 161 ≤ 600000) (hw : w + 644 ≤ 7302250) (next : ∀ u2 w2 τ, u2 ≤ u + 161 → w2 ≤ w + 644 → Rel τ → Z κ u2 w2 τ 1721 (zLL i) []) : Z κ u w σ 877 (zLL i) [] := by
  have hl := hR.lay
  have hu3 : u + zcells mX11_shows ≤ u + 161 := Nat.add_le_add_left (by decide) u
  have hw3 : w + zslots mX11_shows ≤ w + 644 := Nat.add_le_add_left (by decide) w
  have hu2 := Nat.le_trans hu3 hu
  have hw2 := Nat.le_trans hw3 hw
  have hp : Pair mX11_shows mX12_shows [.int (xs (i + 1)), .int (xs (i + 2)), .int (xs (i + 3))] σ := pr_shows hR
  obtain ⟨v, hv, hk⟩ := hp
  obtain ⟨x, rfl⟩ := zTyp_i rfl hv
  refine Z.aload_n B dL_law_877 (v := .ref 0) rfl rfl ?_
  refine Z.sarg B S dL_law_878 dL_law_879 dL_law_880 dL_law_881 dL_law_882 (k := 1) rfl (by omega) ?_
  refine Z.sarg B S dL_law_883 dL_law_884 dL_law_885 dL_law_886 dL_law_887 (k := 2) rfl (by omega) ?_
  refine Z.sarg B S dL_law_888 dL_law_889 dL_law_890 dL_law_891 dL_law_892 (k := 3) rfl (by omega) ?_
  refine Z.lawK B S dL_law_893 hk rfl wX11_shows iX11_shows sX11_shows kLaw_94 hl rfl rfl rfl hu2 hw2 ?_
  rintro r1 τ1 ⟨rfl, h45, hm⟩
  show Z κ _ _ τ1 896 (zLL i) [.int x]
  refine Z.aload_n B dL_law_896 (v := .ref 45) rfl rfl ?_
  refine Z.sarg B S dL_law_897 dL_law_898 dL_law_899 dL_law_900 dL_law_901 (k := 1) rfl (by omega) ?_
  refine Z.sarg B S dL_law_902 dL_law_903 dL_law_904 dL_law_905 dL_law_906 (k := 2) rfl (by omega) ?_
  refine Z.sarg B S dL_law_907 dL_law_908 dL_law_909 dL_law_910 dL_law_911 (k := 3) rfl (by omega) ?_
  refine Z.lawM B dL_law_912 hm rfl wX12_shows iX12_shows sX12_shows kLaw_97 h45 rfl rfl rfl ⟨rfl, rfl⟩ hu2 hw2 ?_
  rintro r2 τ2 ⟨rfl, hR2⟩
  show Z κ _ _ τ2 915 (zLL i) [.int x, .int x]
  refine Z.icmp_eq B dL_law_915 (tgt := 1721) rfl (fun _ => next _ _ _ hu3 hw3 hR2) (fun h => absurd rfl h)
theorem law_c19 (B : zB (mLaw nm) κ) (S : zScr b N xs κ) (hi : i + 6 ≤ N) (hR : Rel σ) (hu : u + 161 ≤ 600000) (hw : w + 644 ≤ 7302250) (next : ∀ u2 w2 τ, u2 ≤ u + 161 → w2 ≤ w + 644 → Rel τ → Z κ u2 w2 τ 1721 (zLL i) []) : Z κ u w σ 920 (zLL i) [] := by
  have hl := hR.lay
  have hu3 : u + zcells mX11_said ≤ u + 161 := Nat.add_le_add_left (by decide) u
  have hw3 : w + zslots mX11_said ≤ w + 644 := Nat.add_le_add_left (by decide) w
  have hu2 := Nat.le_trans hu3 hu
  have hw2 := Nat.le_trans hw3 hw
  have hp : Pair mX11_said mX12_said [.int (xs (i + 1)), .int (zb (nzB (xs (i + 2)))), .int (xs (i + 3)), .int (xs (i + 4))] σ := pr_said hR
  obtain ⟨v, hv, hk⟩ := hp
  obtain ⟨x, rfl⟩ := zTyp_i rfl hv
  refine Z.aload_n B dL_law_920 (v := .ref 0) rfl rfl ?_
  refine Z.sarg B S dL_law_921 dL_law_922 dL_law_923 dL_law_924 dL_law_925 (k := 1) rfl (by omega) ?_
  refine Z.sarg B S dL_law_926 dL_law_927 dL_law_928 dL_law_929 dL_law_930 (k := 2) rfl (by omega) ?_
  refine Z.sbool B dL_law_931 dL_law_934 dL_law_935 dL_law_938 ?_
  refine Z.sarg B S dL_law_939 dL_law_940 dL_law_941 dL_law_942 dL_law_943 (k := 3) rfl (by omega) ?_
  refine Z.sarg B S dL_law_944 dL_law_945 dL_law_946 dL_law_947 dL_law_948 (k := 4) rfl (by omega) ?_
  refine Z.lawK B S dL_law_949 hk rfl wX11_said iX11_said sX11_said kLaw_98 hl rfl rfl rfl hu2 hw2 ?_
  rintro r1 τ1 ⟨rfl, h45, hm⟩
  show Z κ _ _ τ1 952 (zLL i) [.int x]
  refine Z.aload_n B dL_law_952 (v := .ref 45) rfl rfl ?_
  refine Z.sarg B S dL_law_953 dL_law_954 dL_law_955 dL_law_956 dL_law_957 (k := 1) rfl (by omega) ?_
  refine Z.sarg B S dL_law_958 dL_law_959 dL_law_960 dL_law_961 dL_law_962 (k := 2) rfl (by omega) ?_
  refine Z.sbool B dL_law_963 dL_law_966 dL_law_967 dL_law_970 ?_
  refine Z.sarg B S dL_law_971 dL_law_972 dL_law_973 dL_law_974 dL_law_975 (k := 3) rfl (by omega) ?_
  refine Z.sarg B S dL_law_976 dL_law_977 dL_law_978 dL_law_979 dL_law_980 (k := 4) rfl (by omega) ?_
  refine Z.lawM B dL_law_981 hm rfl wX12_said iX12_said sX12_said kLaw_102 h45 rfl rfl rfl ⟨rfl, rfl⟩ hu2 hw2 ?_
  rintro r2 τ2 ⟨rfl, hR2⟩
  show Z κ _ _ τ2 984 (zLL i) [.int x, .int x]
  refine Z.icmp_eq B dL_law_984 (tgt := 1721) rfl (fun _ => next _ _ _ hu3 hw3 hR2) (fun h => absurd rfl h)
theorem law_c20 (B : zB (mLaw nm) κ) (S : zScr b N xs κ) (hi : i + 6 ≤ N) (hR : Rel σ) (hu : u + 161 ≤ 600000) (hw : w + 644 ≤ 7302250) (next : ∀ u2 w2 τ, u2 ≤ u + 161 → w2 ≤ w + 644 → Rel τ → Z κ u2 w2 τ 1721 (zLL i) []) : Z κ u w σ 989 (zLL i) [] := by
  have hl := hR.lay
  have hu3 : u + zcells mX11_total ≤ u + 161 := Nat.add_le_add_left (by decide) u
  have hw3 : w + zslots mX11_total ≤ w + 644 := Nat.add_le_add_left (by decide) w
  have hu2 := Nat.le_trans hu3 hu
  have hw2 := Nat.le_trans hw3 hw
  have hp : Pair mX11_total mX12_total [.int (xs (i + 1)), .int (zb (nzB (xs (i + 2)))), .int (xs (i + 3))] σ := pr_total hR
  obtain ⟨v, hv, hk⟩ := hp
  obtain ⟨x, rfl⟩ := zTyp_i rfl hv
  refine Z.aload_n B dL_law_989 (v := .ref 0) rfl rfl ?_
  refine Z.sarg B S dL_law_990 dL_law_991 dL_law_992 dL_law_993 dL_law_994 (k := 1) rfl (by omega) ?_
  refine Z.sarg B S dL_law_995 dL_law_996 dL_law_997 dL_law_998 dL_law_999 (k := 2) rfl (by omega) ?_
  refine Z.sbool B dL_law_1000 dL_law_1003 dL_law_1004 dL_law_1007 ?_
  refine Z.sarg B S dL_law_1008 dL_law_1009 dL_law_1010 dL_law_1011 dL_law_1012 (k := 3) rfl (by omega) ?_
  refine Z.lawK B S dL_law_1013 hk rfl wX11_total iX11_total sX11_total kLaw_103 hl rfl rfl rfl hu2 hw2 ?_
  rintro r1 τ1 ⟨rfl, h45, hm⟩
  show Z κ _ _ τ1 1016 (zLL i) [.int x]
  refine Z.aload_n B dL_law_1016 (v := .ref 45) rfl rfl ?_
  refine Z.sarg B S dL_law_1017 dL_law_1018 dL_law_1019 dL_law_1020 dL_law_1021 (k := 1) rfl (by omega) ?_
  refine Z.sarg B S dL_law_1022 dL_law_1023 dL_law_1024 dL_law_1025 dL_law_1026 (k := 2) rfl (by omega) ?_
  refine Z.sbool B dL_law_1027 dL_law_1030 dL_law_1031 dL_law_1034 ?_
  refine Z.sarg B S dL_law_1035 dL_law_1036 dL_law_1037 dL_law_1038 dL_law_1039 (k := 3) rfl (by omega) ?_
  refine Z.lawM B dL_law_1040 hm rfl wX12_total iX12_total sX12_total kLaw_107 h45 rfl rfl rfl ⟨rfl, rfl⟩ hu2 hw2 ?_
  rintro r2 τ2 ⟨rfl, hR2⟩
  show Z κ _ _ τ2 1043 (zLL i) [.int x, .int x]
  refine Z.icmp_eq B dL_law_1043 (tgt := 1721) rfl (fun _ => next _ _ _ hu3 hw3 hR2) (fun h => absurd rfl h)
theorem law_c21 (B : zB (mLaw nm) κ) (S : zScr b N xs κ) (hi : i + 6 ≤ N) (hR : Rel σ) (hu : u + 161 ≤ 600000) (hw : w + 644 ≤ 7302250) (next : ∀ u2 w2 τ, u2 ≤ u + 161 → w2 ≤ w + 644 → Rel τ → Z κ u2 w2 τ 1721 (zLL i) []) : Z κ u w σ 1048 (zLL i) [] := by
  have hl := hR.lay
  have hu3 : u + zcells mX11_taken ≤ u + 161 := Nat.add_le_add_left (by decide) u
  have hw3 : w + zslots mX11_taken ≤ w + 644 := Nat.add_le_add_left (by decide) w
  have hu2 := Nat.le_trans hu3 hu
  have hw2 := Nat.le_trans hw3 hw
  have hp : Pair mX11_taken mX12_taken [.int (xs (i + 1)), .int (zb (nzB (xs (i + 2))))] σ := pr_taken hR
  obtain ⟨v, hv, hk⟩ := hp
  obtain ⟨x, rfl⟩ := zTyp_i rfl hv
  refine Z.aload_n B dL_law_1048 (v := .ref 0) rfl rfl ?_
  refine Z.sarg B S dL_law_1049 dL_law_1050 dL_law_1051 dL_law_1052 dL_law_1053 (k := 1) rfl (by omega) ?_
  refine Z.sarg B S dL_law_1054 dL_law_1055 dL_law_1056 dL_law_1057 dL_law_1058 (k := 2) rfl (by omega) ?_
  refine Z.sbool B dL_law_1059 dL_law_1062 dL_law_1063 dL_law_1066 ?_
  refine Z.lawK B S dL_law_1067 hk rfl wX11_taken iX11_taken sX11_taken kLaw_108 hl rfl rfl rfl hu2 hw2 ?_
  rintro r1 τ1 ⟨rfl, h45, hm⟩
  show Z κ _ _ τ1 1070 (zLL i) [.int x]
  refine Z.aload_n B dL_law_1070 (v := .ref 45) rfl rfl ?_
  refine Z.sarg B S dL_law_1071 dL_law_1072 dL_law_1073 dL_law_1074 dL_law_1075 (k := 1) rfl (by omega) ?_
  refine Z.sarg B S dL_law_1076 dL_law_1077 dL_law_1078 dL_law_1079 dL_law_1080 (k := 2) rfl (by omega) ?_
  refine Z.sbool B dL_law_1081 dL_law_1084 dL_law_1085 dL_law_1088 ?_
  refine Z.lawM B dL_law_1089 hm rfl wX12_taken iX12_taken sX12_taken kLaw_112 h45 rfl rfl rfl ⟨rfl, rfl⟩ hu2 hw2 ?_
  rintro r2 τ2 ⟨rfl, hR2⟩
  show Z κ _ _ τ2 1092 (zLL i) [.int x, .int x]
  refine Z.icmp_eq B dL_law_1092 (tgt := 1721) rfl (fun _ => next _ _ _ hu3 hw3 hR2) (fun h => absurd rfl h)
theorem law_c22 (B : zB (mLaw nm) κ) (S : zScr b N xs κ) (hi : i + 6 ≤ N) (hR : Rel σ) (hu : u + 161 ≤ 600000) (hw : w + 644 ≤ 7302250) (next : ∀ u2 w2 τ, u2 ≤ u + 161 → w2 ≤ w + 644 → Rel τ → Z κ u2 w2 τ 1721 (zLL i) []) : Z κ u w σ 1097 (zLL i) [] := by
  have hl := hR.lay
  have hu3 : u + zcells mX11_best ≤ u + 161 := Nat.add_le_add_left (by decide) u
  have hw3 : w + zslots mX11_best ≤ w + 644 := Nat.add_le_add_left (by decide) w
  have hu2 := Nat.le_trans hu3 hu
  have hw2 := Nat.le_trans hw3 hw
  have hp : Pair mX11_best mX12_best [] σ := pr_best hR
  obtain ⟨v, hv, hk⟩ := hp
  obtain ⟨x, rfl⟩ := zTyp_i rfl hv
  refine Z.aload_n B dL_law_1097 (v := .ref 0) rfl rfl ?_
  refine Z.lawK B S dL_law_1098 hk rfl wX11_best iX11_best sX11_best kLaw_113 hl rfl rfl rfl hu2 hw2 ?_
  rintro r1 τ1 ⟨rfl, h45, hm⟩
  show Z κ _ _ τ1 1101 (zLL i) [.int x]
  refine Z.aload_n B dL_law_1101 (v := .ref 45) rfl rfl ?_
  refine Z.lawM B dL_law_1102 hm rfl wX12_best iX12_best sX12_best kLaw_116 h45 rfl rfl rfl ⟨rfl, rfl⟩ hu2 hw2 ?_
  rintro r2 τ2 ⟨rfl, hR2⟩
  show Z κ _ _ τ2 1105 (zLL i) [.int x, .int x]
  refine Z.icmp_eq B dL_law_1105 (tgt := 1721) rfl (fun _ => next _ _ _ hu3 hw3 hR2) (fun h => absurd rfl h)
theorem law_c23 (B : zB (mLaw nm) κ) (S : zScr b N xs κ) (hi : i + 6 ≤ N) (hR : Rel σ) (hu : u + 161 ≤ 600000) (hw : w + 644 ≤ 7302250) (next : ∀ u2 w2 τ, u2 ≤ u + 161 → w2 ≤ w + 644 → Rel τ → Z κ u2 w2 τ 1721 (zLL i) []) : Z κ u w σ 1110 (zLL i) [] := by
  have hl := hR.lay
  have hu3 : u + zcells mX11_tells ≤ u + 161 := Nat.add_le_add_left (by decide) u
  have hw3 : w + zslots mX11_tells ≤ w + 644 := Nat.add_le_add_left (by decide) w
  have hu2 := Nat.le_trans hu3 hu
  have hw2 := Nat.le_trans hw3 hw
  have hp : Pair mX11_tells mX12_tells [.int (xs (i + 1)), .int (zb (nzB (xs (i + 2))))] σ := pr_tells hR
  obtain ⟨v, hv, hk⟩ := hp
  obtain ⟨x, rfl⟩ := zTyp_i rfl hv
  refine Z.aload_n B dL_law_1110 (v := .ref 0) rfl rfl ?_
  refine Z.sarg B S dL_law_1111 dL_law_1112 dL_law_1113 dL_law_1114 dL_law_1115 (k := 1) rfl (by omega) ?_
  refine Z.sarg B S dL_law_1116 dL_law_1117 dL_law_1118 dL_law_1119 dL_law_1120 (k := 2) rfl (by omega) ?_
  refine Z.sbool B dL_law_1121 dL_law_1124 dL_law_1125 dL_law_1128 ?_
  refine Z.lawK B S dL_law_1129 hk rfl wX11_tells iX11_tells sX11_tells kLaw_117 hl rfl rfl rfl hu2 hw2 ?_
  rintro r1 τ1 ⟨rfl, h45, hm⟩
  show Z κ _ _ τ1 1132 (zLL i) [.int x]
  refine Z.aload_n B dL_law_1132 (v := .ref 45) rfl rfl ?_
  refine Z.sarg B S dL_law_1133 dL_law_1134 dL_law_1135 dL_law_1136 dL_law_1137 (k := 1) rfl (by omega) ?_
  refine Z.sarg B S dL_law_1138 dL_law_1139 dL_law_1140 dL_law_1141 dL_law_1142 (k := 2) rfl (by omega) ?_
  refine Z.sbool B dL_law_1143 dL_law_1146 dL_law_1147 dL_law_1150 ?_
  refine Z.lawM B dL_law_1151 hm rfl wX12_tells iX12_tells sX12_tells kLaw_120 h45 rfl rfl rfl ⟨rfl, rfl⟩ hu2 hw2 ?_
  rintro r2 τ2 ⟨rfl, hR2⟩
  show Z κ _ _ τ2 1154 (zLL i) [.int x, .int x]
  refine Z.icmp_eq B dL_law_1154 (tgt := 1721) rfl (fun _ => next _ _ _ hu3 hw3 hR2) (fun h => absurd rfl h)
theorem law_c24 (B : zB (mLaw nm) κ) (S : zScr b N xs κ) (hi : i + 6 ≤ N) (hR : Rel σ) (hu : u + 161 ≤ 600000) (hw : w + 644 ≤ 7302250) (next : ∀ u2 w2 τ, u2 ≤ u + 161 → w2 ≤ w + 644 → Rel τ → Z κ u2 w2 τ 1721 (zLL i) []) : Z κ u w σ 1159 (zLL i) [] := by
  have hl := hR.lay
  have hu3 : u + zcells mX11_righted ≤ u + 161 := Nat.add_le_add_left (by decide) u
  have hw3 : w + zslots mX11_righted ≤ w + 644 := Nat.add_le_add_left (by decide) w
  have hu2 := Nat.le_trans hu3 hu
  have hw2 := Nat.le_trans hw3 hw
  have hp : Pair mX11_righted mX12_righted [.int (xs (i + 1)), .int (xs (i + 2))] σ := pr_righted hR
  obtain ⟨v, hv, hk⟩ := hp
  obtain ⟨x, rfl⟩ := zTyp_i rfl hv
  refine Z.aload_n B dL_law_1159 (v := .ref 0) rfl rfl ?_
  refine Z.sarg B S dL_law_1160 dL_law_1161 dL_law_1162 dL_law_1163 dL_law_1164 (k := 1) rfl (by omega) ?_
  refine Z.sarg B S dL_law_1165 dL_law_1166 dL_law_1167 dL_law_1168 dL_law_1169 (k := 2) rfl (by omega) ?_
  refine Z.lawK B S dL_law_1170 hk rfl wX11_righted iX11_righted sX11_righted kLaw_121 hl rfl rfl rfl hu2 hw2 ?_
  rintro r1 τ1 ⟨rfl, h45, hm⟩
  show Z κ _ _ τ1 1173 (zLL i) [.int x]
  refine Z.aload_n B dL_law_1173 (v := .ref 45) rfl rfl ?_
  refine Z.sarg B S dL_law_1174 dL_law_1175 dL_law_1176 dL_law_1177 dL_law_1178 (k := 1) rfl (by omega) ?_
  refine Z.sarg B S dL_law_1179 dL_law_1180 dL_law_1181 dL_law_1182 dL_law_1183 (k := 2) rfl (by omega) ?_
  refine Z.lawM B dL_law_1184 hm rfl wX12_righted iX12_righted sX12_righted kLaw_124 h45 rfl rfl rfl ⟨rfl, rfl⟩ hu2 hw2 ?_
  rintro r2 τ2 ⟨rfl, hR2⟩
  show Z κ _ _ τ2 1187 (zLL i) [.int x, .int x]
  refine Z.icmp_eq B dL_law_1187 (tgt := 1721) rfl (fun _ => next _ _ _ hu3 hw3 hR2) (fun h => absurd rfl h)
theorem law_c25 (B : zB (mLaw nm) κ) (S : zScr b N xs κ) (hi : i + 6 ≤ N) (hR : Rel σ) (hu : u + 161 ≤ 600000) (hw : w + 644 ≤ 7302250) (next : ∀ u2 w2 τ, u2 ≤ u + 161 → w2 ≤ w + 644 → Rel τ → Z κ u2 w2 τ 1721 (zLL i) []) : Z κ u w σ 1192 (zLL i) [] := by
  have hl := hR.lay
  have hu3 : u + zcells mX11_head ≤ u + 161 := Nat.add_le_add_left (by decide) u
  have hw3 : w + zslots mX11_head ≤ w + 644 := Nat.add_le_add_left (by decide) w
  have hu2 := Nat.le_trans hu3 hu
  have hw2 := Nat.le_trans hw3 hw
  have hp : Pair mX11_head mX12_head [] σ := pr_head hR
  obtain ⟨v, hv, hk⟩ := hp
  obtain ⟨x, rfl⟩ := zTyp_i rfl hv
  refine Z.aload_n B dL_law_1192 (v := .ref 0) rfl rfl ?_
  refine Z.lawK B S dL_law_1193 hk rfl wX11_head iX11_head sX11_head kLaw_125 hl rfl rfl rfl hu2 hw2 ?_
  rintro r1 τ1 ⟨rfl, h45, hm⟩
  show Z κ _ _ τ1 1196 (zLL i) [.int x]
  refine Z.aload_n B dL_law_1196 (v := .ref 45) rfl rfl ?_
  refine Z.lawM B dL_law_1197 hm rfl wX12_head iX12_head sX12_head kLaw_128 h45 rfl rfl rfl ⟨rfl, rfl⟩ hu2 hw2 ?_
  rintro r2 τ2 ⟨rfl, hR2⟩
  show Z κ _ _ τ2 1200 (zLL i) [.int x, .int x]
  refine Z.icmp_eq B dL_law_1200 (tgt := 1721) rfl (fun _ => next _ _ _ hu3 hw3 hR2) (fun h => absurd rfl h)
theorem law_c26 (B : zB (mLaw nm) κ) (S : zScr b N xs κ) (hi : i + 6 ≤ N) (hR : Rel σ) (hu : u + 161 ≤ 600000) (hw : w + 644 ≤ 7302250) (next : ∀ u2 w2 τ, u2 ≤ u + 161 → w2 ≤ w + 644 → Rel τ → Z κ u2 w2 τ 1721 (zLL i) []) : Z κ u w σ 1205 (zLL i) [] := by
  have hl := hR.lay
  have hu3 : u + zcells mX11_joined ≤ u + 161 := Nat.add_le_add_left (by decide) u
  have hw3 : w + zslots mX11_joined ≤ w + 644 := Nat.add_le_add_left (by decide) w
  have hu2 := Nat.le_trans hu3 hu
  have hw2 := Nat.le_trans hw3 hw
  have hp : Pair mX11_joined mX12_joined [.int (xs (i + 1)), .int (xs (i + 2)), .int (xs (i + 3))] σ := pr_joined hR
  obtain ⟨v, hv, hk⟩ := hp
  obtain ⟨x, rfl⟩ := zTyp_i rfl hv
  refine Z.aload_n B dL_law_1205 (v := .ref 0) rfl rfl ?_
  refine Z.sarg B S dL_law_1206 dL_law_1207 dL_law_1208 dL_law_1209 dL_law_1210 (k := 1) rfl (by omega) ?_
  refine Z.sarg B S dL_law_1211 dL_law_1212 dL_law_1213 dL_law_1214 dL_law_1215 (k := 2) rfl (by omega) ?_
  refine Z.sarg B S dL_law_1216 dL_law_1217 dL_law_1218 dL_law_1219 dL_law_1220 (k := 3) rfl (by omega) ?_
  refine Z.lawK B S dL_law_1221 hk rfl wX11_joined iX11_joined sX11_joined kLaw_129 hl rfl rfl rfl hu2 hw2 ?_
  rintro r1 τ1 ⟨rfl, h45, hm⟩
  show Z κ _ _ τ1 1224 (zLL i) [.int x]
  refine Z.aload_n B dL_law_1224 (v := .ref 45) rfl rfl ?_
  refine Z.sarg B S dL_law_1225 dL_law_1226 dL_law_1227 dL_law_1228 dL_law_1229 (k := 1) rfl (by omega) ?_
  refine Z.sarg B S dL_law_1230 dL_law_1231 dL_law_1232 dL_law_1233 dL_law_1234 (k := 2) rfl (by omega) ?_
  refine Z.sarg B S dL_law_1235 dL_law_1236 dL_law_1237 dL_law_1238 dL_law_1239 (k := 3) rfl (by omega) ?_
  refine Z.lawM B dL_law_1240 hm rfl wX12_joined iX12_joined sX12_joined kLaw_132 h45 rfl rfl rfl ⟨rfl, rfl⟩ hu2 hw2 ?_
  rintro r2 τ2 ⟨rfl, hR2⟩
  show Z κ _ _ τ2 1243 (zLL i) [.int x, .int x]
  refine Z.icmp_eq B dL_law_1243 (tgt := 1721) rfl (fun _ => next _ _ _ hu3 hw3 hR2) (fun h => absurd rfl h)
theorem law_c27 (B : zB (mLaw nm) κ) (S : zScr b N xs κ) (hi : i + 6 ≤ N) (hR : Rel σ) (hu : u + 161 ≤ 600000) (hw : w + 644 ≤ 7302250) (next : ∀ u2 w2 τ, u2 ≤ u + 161 → w2 ≤ w + 644 → Rel τ → Z κ u2 w2 τ 1721 (zLL i) []) : Z κ u w σ 1248 (zLL i) [] := by
  have hl := hR.lay
  have hu3 : u + zcells mX11_weights ≤ u + 161 := Nat.add_le_add_left (by decide) u
  have hw3 : w + zslots mX11_weights ≤ w + 644 := Nat.add_le_add_left (by decide) w
  have hu2 := Nat.le_trans hu3 hu
  have hw2 := Nat.le_trans hw3 hw
  have hp : Pair mX11_weights mX12_weights [.int (xs (i + 1)), .int (xs (i + 2))] σ := pr_weights hR
  obtain ⟨v, hv, hk⟩ := hp
  obtain ⟨x, rfl⟩ := zTyp_i rfl hv
  refine Z.aload_n B dL_law_1248 (v := .ref 0) rfl rfl ?_
  refine Z.sarg B S dL_law_1249 dL_law_1250 dL_law_1251 dL_law_1252 dL_law_1253 (k := 1) rfl (by omega) ?_
  refine Z.sarg B S dL_law_1254 dL_law_1255 dL_law_1256 dL_law_1257 dL_law_1258 (k := 2) rfl (by omega) ?_
  refine Z.lawK B S dL_law_1259 hk rfl wX11_weights iX11_weights sX11_weights kLaw_133 hl rfl rfl rfl hu2 hw2 ?_
  rintro r1 τ1 ⟨rfl, h45, hm⟩
  show Z κ _ _ τ1 1262 (zLL i) [.int x]
  refine Z.aload_n B dL_law_1262 (v := .ref 45) rfl rfl ?_
  refine Z.sarg B S dL_law_1263 dL_law_1264 dL_law_1265 dL_law_1266 dL_law_1267 (k := 1) rfl (by omega) ?_
  refine Z.sarg B S dL_law_1268 dL_law_1269 dL_law_1270 dL_law_1271 dL_law_1272 (k := 2) rfl (by omega) ?_
  refine Z.lawM B dL_law_1273 hm rfl wX12_weights iX12_weights sX12_weights kLaw_136 h45 rfl rfl rfl ⟨rfl, rfl⟩ hu2 hw2 ?_
  rintro r2 τ2 ⟨rfl, hR2⟩
  show Z κ _ _ τ2 1276 (zLL i) [.int x, .int x]
  refine Z.icmp_eq B dL_law_1276 (tgt := 1721) rfl (fun _ => next _ _ _ hu3 hw3 hR2) (fun h => absurd rfl h)
theorem law_c28 (B : zB (mLaw nm) κ) (S : zScr b N xs κ) (hi : i + 6 ≤ N) (hR : Rel σ) (hu : u + 161 ≤ 600000) (hw : w + 644 ≤ 7302250) (next : ∀ u2 w2 τ, u2 ≤ u + 161 → w2 ≤ w + 644 → Rel τ → Z κ u2 w2 τ 1721 (zLL i) []) : Z κ u w σ 1281 (zLL i) [] := by
  have hl := hR.lay
  have hu3 : u + zcells mX11_heads ≤ u + 161 := Nat.add_le_add_left (by decide) u
  have hw3 : w + zslots mX11_heads ≤ w + 644 := Nat.add_le_add_left (by decide) w
  have hu2 := Nat.le_trans hu3 hu
  have hw2 := Nat.le_trans hw3 hw
  have hp : Pair mX11_heads mX12_heads [.int (xs (i + 1))] σ := pr_heads hR
  obtain ⟨v, hv, hk⟩ := hp
  obtain ⟨x, rfl⟩ := zTyp_i rfl hv
  refine Z.aload_n B dL_law_1281 (v := .ref 0) rfl rfl ?_
  refine Z.sarg B S dL_law_1282 dL_law_1283 dL_law_1284 dL_law_1285 dL_law_1286 (k := 1) rfl (by omega) ?_
  refine Z.lawK B S dL_law_1287 hk rfl wX11_heads iX11_heads sX11_heads kLaw_137 hl rfl rfl rfl hu2 hw2 ?_
  rintro r1 τ1 ⟨rfl, h45, hm⟩
  show Z κ _ _ τ1 1290 (zLL i) [.int x]
  refine Z.aload_n B dL_law_1290 (v := .ref 45) rfl rfl ?_
  refine Z.sarg B S dL_law_1291 dL_law_1292 dL_law_1293 dL_law_1294 dL_law_1295 (k := 1) rfl (by omega) ?_
  refine Z.lawM B dL_law_1296 hm rfl wX12_heads iX12_heads sX12_heads kLaw_140 h45 rfl rfl rfl ⟨rfl, rfl⟩ hu2 hw2 ?_
  rintro r2 τ2 ⟨rfl, hR2⟩
  show Z κ _ _ τ2 1299 (zLL i) [.int x, .int x]
  refine Z.icmp_eq B dL_law_1299 (tgt := 1721) rfl (fun _ => next _ _ _ hu3 hw3 hR2) (fun h => absurd rfl h)
theorem law_c29 (B : zB (mLaw nm) κ) (S : zScr b N xs κ) (hi : i + 6 ≤ N) (hR : Rel σ) (hu : u + 161 ≤ 600000) (hw : w + 644 ≤ 7302250) (next : ∀ u2 w2 τ, u2 ≤ u + 161 → w2 ≤ w + 644 → Rel τ → Z κ u2 w2 τ 1721 (zLL i) []) : Z κ u w σ 1304 (zLL i) [] := by
  have hl := hR.lay
  have hu3 : u + zcells mX11_agree ≤ u + 161 := Nat.add_le_add_left (by decide) u
  have hw3 : w + zslots mX11_agree ≤ w + 644 := Nat.add_le_add_left (by decide) w
  have hu2 := Nat.le_trans hu3 hu
  have hw2 := Nat.le_trans hw3 hw
  have hp : Pair mX11_agree mX12_agree [.int (xs (i + 1))] σ := pr_agree hR
  obtain ⟨v, hv, hk⟩ := hp
  obtain ⟨x, rfl⟩ := zTyp_i rfl hv
  refine Z.aload_n B dL_law_1304 (v := .ref 0) rfl rfl ?_
  refine Z.sarg B S dL_law_1305 dL_law_1306 dL_law_1307 dL_law_1308 dL_law_1309 (k := 1) rfl (by omega) ?_
  refine Z.lawK B S dL_law_1310 hk rfl wX11_agree iX11_agree sX11_agree kLaw_141 hl rfl rfl rfl hu2 hw2 ?_
  rintro r1 τ1 ⟨rfl, h45, hm⟩
  show Z κ _ _ τ1 1313 (zLL i) [.int x]
  refine Z.aload_n B dL_law_1313 (v := .ref 45) rfl rfl ?_
  refine Z.sarg B S dL_law_1314 dL_law_1315 dL_law_1316 dL_law_1317 dL_law_1318 (k := 1) rfl (by omega) ?_
  refine Z.lawM B dL_law_1319 hm rfl wX12_agree iX12_agree sX12_agree kLaw_144 h45 rfl rfl rfl ⟨rfl, rfl⟩ hu2 hw2 ?_
  rintro r2 τ2 ⟨rfl, hR2⟩
  show Z κ _ _ τ2 1322 (zLL i) [.int x, .int x]
  refine Z.icmp_eq B dL_law_1322 (tgt := 1721) rfl (fun _ => next _ _ _ hu3 hw3 hR2) (fun h => absurd rfl h)
theorem law_c30 (B : zB (mLaw nm) κ) (S : zScr b N xs κ) (hi : i + 6 ≤ N) (hR : Rel σ) (hu : u + 161 ≤ 600000) (hw : w + 644 ≤ 7302250) (next : ∀ u2 w2 τ, u2 ≤ u + 161 → w2 ≤ w + 644 → Rel τ → Z κ u2 w2 τ 1721 (zLL i) []) : Z κ u w σ 1327 (zLL i) [] := by
  have hl := hR.lay
  have hu3 : u + zcells mX11_wrong ≤ u + 161 := Nat.add_le_add_left (by decide) u
  have hw3 : w + zslots mX11_wrong ≤ w + 644 := Nat.add_le_add_left (by decide) w
  have hu2 := Nat.le_trans hu3 hu
  have hw2 := Nat.le_trans hw3 hw
  have hp : Pair mX11_wrong mX12_wrong_ [.int (xs (i + 1)), .int (zb (nzB (xs (i + 2))))] σ := pr_wrong hR
  obtain ⟨v, hv, hk⟩ := hp
  obtain ⟨x, rfl⟩ := zTyp_i rfl hv
  refine Z.aload_n B dL_law_1327 (v := .ref 0) rfl rfl ?_
  refine Z.sarg B S dL_law_1328 dL_law_1329 dL_law_1330 dL_law_1331 dL_law_1332 (k := 1) rfl (by omega) ?_
  refine Z.sarg B S dL_law_1333 dL_law_1334 dL_law_1335 dL_law_1336 dL_law_1337 (k := 2) rfl (by omega) ?_
  refine Z.sbool B dL_law_1338 dL_law_1341 dL_law_1342 dL_law_1345 ?_
  refine Z.lawK B S dL_law_1346 hk rfl wX11_wrong iX11_wrong sX11_wrong kLaw_145 hl rfl rfl rfl hu2 hw2 ?_
  rintro r1 τ1 ⟨rfl, h45, hm⟩
  show Z κ _ _ τ1 1349 (zLL i) [.int x]
  refine Z.aload_n B dL_law_1349 (v := .ref 45) rfl rfl ?_
  refine Z.sarg B S dL_law_1350 dL_law_1351 dL_law_1352 dL_law_1353 dL_law_1354 (k := 1) rfl (by omega) ?_
  refine Z.sarg B S dL_law_1355 dL_law_1356 dL_law_1357 dL_law_1358 dL_law_1359 (k := 2) rfl (by omega) ?_
  refine Z.sbool B dL_law_1360 dL_law_1363 dL_law_1364 dL_law_1367 ?_
  refine Z.lawM B dL_law_1368 hm rfl wX12_wrong_ iX12_wrong_ sX12_wrong_ kLaw_148 h45 rfl rfl rfl ⟨rfl, rfl⟩ hu2 hw2 ?_
  rintro r2 τ2 ⟨rfl, hR2⟩
  show Z κ _ _ τ2 1371 (zLL i) [.int x, .int x]
  refine Z.icmp_eq B dL_law_1371 (tgt := 1721) rfl (fun _ => next _ _ _ hu3 hw3 hR2) (fun h => absurd rfl h)
theorem law_c31 (B : zB (mLaw nm) κ) (S : zScr b N xs κ) (hi : i + 6 ≤ N) (hR : Rel σ) (hu : u + 161 ≤ 600000) (hw : w + 644 ≤ 7302250) (next : ∀ u2 w2 τ, u2 ≤ u + 161 → w2 ≤ w + 644 → Rel τ → Z κ u2 w2 τ 1721 (zLL i) []) : Z κ u w σ 1376 (zLL i) [] := by
  have hl := hR.lay
  have hu3 : u + zcells mX11_lost ≤ u + 161 := Nat.add_le_add_left (by decide) u
  have hw3 : w + zslots mX11_lost ≤ w + 644 := Nat.add_le_add_left (by decide) w
  have hu2 := Nat.le_trans hu3 hu
  have hw2 := Nat.le_trans hw3 hw
  have hp : Pair mX11_lost mX12_lost [.int (xs (i + 1)), .int (xs (i + 2))] σ := pr_lost hR
  obtain ⟨v, hv, hk⟩ := hp
  obtain ⟨x, rfl⟩ := zTyp_i rfl hv
  refine Z.aload_n B dL_law_1376 (v := .ref 0) rfl rfl ?_
  refine Z.sarg B S dL_law_1377 dL_law_1378 dL_law_1379 dL_law_1380 dL_law_1381 (k := 1) rfl (by omega) ?_
  refine Z.sarg B S dL_law_1382 dL_law_1383 dL_law_1384 dL_law_1385 dL_law_1386 (k := 2) rfl (by omega) ?_
  refine Z.lawK B S dL_law_1387 hk rfl wX11_lost iX11_lost sX11_lost kLaw_149 hl rfl rfl rfl hu2 hw2 ?_
  rintro r1 τ1 ⟨rfl, h45, hm⟩
  show Z κ _ _ τ1 1390 (zLL i) [.int x]
  refine Z.aload_n B dL_law_1390 (v := .ref 45) rfl rfl ?_
  refine Z.sarg B S dL_law_1391 dL_law_1392 dL_law_1393 dL_law_1394 dL_law_1395 (k := 1) rfl (by omega) ?_
  refine Z.sarg B S dL_law_1396 dL_law_1397 dL_law_1398 dL_law_1399 dL_law_1400 (k := 2) rfl (by omega) ?_
  refine Z.lawM B dL_law_1401 hm rfl wX12_lost iX12_lost sX12_lost kLaw_152 h45 rfl rfl rfl ⟨rfl, rfl⟩ hu2 hw2 ?_
  rintro r2 τ2 ⟨rfl, hR2⟩
  show Z κ _ _ τ2 1404 (zLL i) [.int x, .int x]
  refine Z.icmp_eq B dL_law_1404 (tgt := 1721) rfl (fun _ => next _ _ _ hu3 hw3 hR2) (fun h => absurd rfl h)
theorem law_c32 (B : zB (mLaw nm) κ) (S : zScr b N xs κ) (hi : i + 6 ≤ N) (hR : Rel σ) (hu : u + 161 ≤ 600000) (hw : w + 644 ≤ 7302250) (next : ∀ u2 w2 τ, u2 ≤ u + 161 → w2 ≤ w + 644 → Rel τ → Z κ u2 w2 τ 1721 (zLL i) []) : Z κ u w σ 1409 (zLL i) [] := by
  have hl := hR.lay
  have hu3 : u + zcells mX11_turned ≤ u + 161 := Nat.add_le_add_left (by decide) u
  have hw3 : w + zslots mX11_turned ≤ w + 644 := Nat.add_le_add_left (by decide) w
  have hu2 := Nat.le_trans hu3 hu
  have hw2 := Nat.le_trans hw3 hw
  have hp : Pair mX11_turned mX12_turned [.int (xs (i + 1))] σ := pr_turned hR
  obtain ⟨v, hv, hk⟩ := hp
  obtain ⟨x, rfl⟩ := zTyp_i rfl hv
  refine Z.aload_n B dL_law_1409 (v := .ref 0) rfl rfl ?_
  refine Z.sarg B S dL_law_1410 dL_law_1411 dL_law_1412 dL_law_1413 dL_law_1414 (k := 1) rfl (by omega) ?_
  refine Z.lawK B S dL_law_1415 hk rfl wX11_turned iX11_turned sX11_turned kLaw_153 hl rfl rfl rfl hu2 hw2 ?_
  rintro r1 τ1 ⟨rfl, h45, hm⟩
  show Z κ _ _ τ1 1418 (zLL i) [.int x]
  refine Z.aload_n B dL_law_1418 (v := .ref 45) rfl rfl ?_
  refine Z.sarg B S dL_law_1419 dL_law_1420 dL_law_1421 dL_law_1422 dL_law_1423 (k := 1) rfl (by omega) ?_
  refine Z.lawM B dL_law_1424 hm rfl wX12_turned iX12_turned sX12_turned kLaw_156 h45 rfl rfl rfl ⟨rfl, rfl⟩ hu2 hw2 ?_
  rintro r2 τ2 ⟨rfl, hR2⟩
  show Z κ _ _ τ2 1427 (zLL i) [.int x, .int x]
  refine Z.icmp_eq B dL_law_1427 (tgt := 1721) rfl (fun _ => next _ _ _ hu3 hw3 hR2) (fun h => absurd rfl h)
theorem law_c33 (B : zB (mLaw nm) κ) (S : zScr b N xs κ) (hi : i + 6 ≤ N) (hR : Rel σ) (hu : u + 161 ≤ 600000) (hw : w + 644 ≤ 7302250) (next : ∀ u2 w2 τ, u2 ≤ u + 161 → w2 ≤ w + 644 → Rel τ → Z κ u2 w2 τ 1721 (zLL i) []) : Z κ u w σ 1432 (zLL i) [] := by
  have hl := hR.lay
  have hu3 : u + zcells mX11_piece ≤ u + 161 := Nat.add_le_add_left (by decide) u
  have hw3 : w + zslots mX11_piece ≤ w + 644 := Nat.add_le_add_left (by decide) w
  have hu2 := Nat.le_trans hu3 hu
  have hw2 := Nat.le_trans hw3 hw
  have hp : Pair mX11_piece mX12_piece [] σ := pr_piece hR
  obtain ⟨v, hv, hk⟩ := hp
  obtain ⟨x, rfl⟩ := zTyp_i rfl hv
  refine Z.aload_n B dL_law_1432 (v := .ref 0) rfl rfl ?_
  refine Z.lawK B S dL_law_1433 hk rfl wX11_piece iX11_piece sX11_piece kLaw_157 hl rfl rfl rfl hu2 hw2 ?_
  rintro r1 τ1 ⟨rfl, h45, hm⟩
  show Z κ _ _ τ1 1436 (zLL i) [.int x]
  refine Z.aload_n B dL_law_1436 (v := .ref 45) rfl rfl ?_
  refine Z.lawM B dL_law_1437 hm rfl wX12_piece iX12_piece sX12_piece kLaw_160 h45 rfl rfl rfl ⟨rfl, rfl⟩ hu2 hw2 ?_
  rintro r2 τ2 ⟨rfl, hR2⟩
  show Z κ _ _ τ2 1440 (zLL i) [.int x, .int x]
  refine Z.icmp_eq B dL_law_1440 (tgt := 1721) rfl (fun _ => next _ _ _ hu3 hw3 hR2) (fun h => absurd rfl h)
theorem law_c34 (B : zB (mLaw nm) κ) (S : zScr b N xs κ) (hi : i + 6 ≤ N) (hR : Rel σ) (hu : u + 161 ≤ 600000) (hw : w + 644 ≤ 7302250) (next : ∀ u2 w2 τ, u2 ≤ u + 161 → w2 ≤ w + 644 → Rel τ → Z κ u2 w2 τ 1721 (zLL i) []) : Z κ u w σ 1445 (zLL i) [] := by
  have hl := hR.lay
  have hu3 : u + zcells mX11_comes ≤ u + 161 := Nat.add_le_add_left (by decide) u
  have hw3 : w + zslots mX11_comes ≤ w + 644 := Nat.add_le_add_left (by decide) w
  have hu2 := Nat.le_trans hu3 hu
  have hw2 := Nat.le_trans hw3 hw
  have hp : Pair mX11_comes mX12_comes [.int (xs (i + 1)), .int (xs (i + 2))] σ := pr_comes hR
  obtain ⟨v, hv, hk⟩ := hp
  obtain ⟨x, rfl⟩ := zTyp_i rfl hv
  refine Z.aload_n B dL_law_1445 (v := .ref 0) rfl rfl ?_
  refine Z.sarg B S dL_law_1446 dL_law_1447 dL_law_1448 dL_law_1449 dL_law_1450 (k := 1) rfl (by omega) ?_
  refine Z.sarg B S dL_law_1451 dL_law_1452 dL_law_1453 dL_law_1454 dL_law_1455 (k := 2) rfl (by omega) ?_
  refine Z.lawK B S dL_law_1456 hk rfl wX11_comes iX11_comes sX11_comes kLaw_161 hl rfl rfl rfl hu2 hw2 ?_
  rintro r1 τ1 ⟨rfl, h45, hm⟩
  show Z κ _ _ τ1 1459 (zLL i) [.int x]
  refine Z.aload_n B dL_law_1459 (v := .ref 45) rfl rfl ?_
  refine Z.sarg B S dL_law_1460 dL_law_1461 dL_law_1462 dL_law_1463 dL_law_1464 (k := 1) rfl (by omega) ?_
  refine Z.sarg B S dL_law_1465 dL_law_1466 dL_law_1467 dL_law_1468 dL_law_1469 (k := 2) rfl (by omega) ?_
  refine Z.lawM B dL_law_1470 hm rfl wX12_comes iX12_comes sX12_comes kLaw_164 h45 rfl rfl rfl ⟨rfl, rfl⟩ hu2 hw2 ?_
  rintro r2 τ2 ⟨rfl, hR2⟩
  show Z κ _ _ τ2 1473 (zLL i) [.int x, .int x]
  refine Z.icmp_eq B dL_law_1473 (tgt := 1721) rfl (fun _ => next _ _ _ hu3 hw3 hR2) (fun h => absurd rfl h)
theorem law_c35 (B : zB (mLaw nm) κ) (S : zScr b N xs κ) (hi : i + 6 ≤ N) (hR : Rel σ) (hu : u + 161 ≤ 600000) (hw : w + 644 ≤ 7302250) (next : ∀ u2 w2 τ, u2 ≤ u + 161 → w2 ≤ w + 644 → Rel τ → Z κ u2 w2 τ 1721 (zLL i) []) : Z κ u w σ 1478 (zLL i) [] := by
  have hl := hR.lay
  have hu3 : u + zcells mX11_lets ≤ u + 161 := Nat.add_le_add_left (by decide) u
  have hw3 : w + zslots mX11_lets ≤ w + 644 := Nat.add_le_add_left (by decide) w
  have hu2 := Nat.le_trans hu3 hu
  have hw2 := Nat.le_trans hw3 hw
  have hp : Pair mX11_lets mX12_lets [.int (xs (i + 1))] σ := pr_lets hR
  obtain ⟨v, hv, hk⟩ := hp
  obtain ⟨x, rfl⟩ := zTyp_i rfl hv
  refine Z.aload_n B dL_law_1478 (v := .ref 0) rfl rfl ?_
  refine Z.sarg B S dL_law_1479 dL_law_1480 dL_law_1481 dL_law_1482 dL_law_1483 (k := 1) rfl (by omega) ?_
  refine Z.lawK B S dL_law_1484 hk rfl wX11_lets iX11_lets sX11_lets kLaw_165 hl rfl rfl rfl hu2 hw2 ?_
  rintro r1 τ1 ⟨rfl, h45, hm⟩
  show Z κ _ _ τ1 1487 (zLL i) [.int x]
  refine Z.aload_n B dL_law_1487 (v := .ref 45) rfl rfl ?_
  refine Z.sarg B S dL_law_1488 dL_law_1489 dL_law_1490 dL_law_1491 dL_law_1492 (k := 1) rfl (by omega) ?_
  refine Z.lawM B dL_law_1493 hm rfl wX12_lets iX12_lets sX12_lets kLaw_168 h45 rfl rfl rfl ⟨rfl, rfl⟩ hu2 hw2 ?_
  rintro r2 τ2 ⟨rfl, hR2⟩
  show Z κ _ _ τ2 1496 (zLL i) [.int x, .int x]
  refine Z.icmp_eq B dL_law_1496 (tgt := 1721) rfl (fun _ => next _ _ _ hu3 hw3 hR2) (fun h => absurd rfl h)
theorem law_c36 (B : zB (mLaw nm) κ) (S : zScr b N xs κ) (hi : i + 6 ≤ N) (hR : Rel σ) (hu : u + 161 ≤ 600000) (hw : w + 644 ≤ 7302250) (next : ∀ u2 w2 τ, u2 ≤ u + 161 → w2 ≤ w + 644 → Rel τ → Z κ u2 w2 τ 1721 (zLL i) []) : Z κ u w σ 1501 (zLL i) [] := by
  have hl := hR.lay
  have hu3 : u + zcells mX11_judge ≤ u + 161 := Nat.add_le_add_left (by decide) u
  have hw3 : w + zslots mX11_judge ≤ w + 644 := Nat.add_le_add_left (by decide) w
  have hu2 := Nat.le_trans hu3 hu
  have hw2 := Nat.le_trans hw3 hw
  have hp : Pair mX11_judge mX12_judge [.int (xs (i + 1))] σ := pr_judge hR
  obtain ⟨v, hv, hk⟩ := hp
  obtain ⟨x, rfl⟩ := zTyp_i rfl hv
  refine Z.aload_n B dL_law_1501 (v := .ref 0) rfl rfl ?_
  refine Z.sarg B S dL_law_1502 dL_law_1503 dL_law_1504 dL_law_1505 dL_law_1506 (k := 1) rfl (by omega) ?_
  refine Z.lawK B S dL_law_1507 hk rfl wX11_judge iX11_judge sX11_judge kLaw_169 hl rfl rfl rfl hu2 hw2 ?_
  rintro r1 τ1 ⟨rfl, h45, hm⟩
  show Z κ _ _ τ1 1510 (zLL i) [.int x]
  refine Z.aload_n B dL_law_1510 (v := .ref 45) rfl rfl ?_
  refine Z.sarg B S dL_law_1511 dL_law_1512 dL_law_1513 dL_law_1514 dL_law_1515 (k := 1) rfl (by omega) ?_
  refine Z.lawM B dL_law_1516 hm rfl wX12_judge iX12_judge sX12_judge kLaw_172 h45 rfl rfl rfl ⟨rfl, rfl⟩ hu2 hw2 ?_
  rintro r2 τ2 ⟨rfl, hR2⟩
  show Z κ _ _ τ2 1519 (zLL i) [.int x, .int x]
  refine Z.icmp_eq B dL_law_1519 (tgt := 1721) rfl (fun _ => next _ _ _ hu3 hw3 hR2) (fun h => absurd rfl h)
theorem law_c37 (B : zB (mLaw nm) κ) (S : zScr b N xs κ) (hi : i + 6 ≤ N) (hR : Rel σ) (hu : u + 161 ≤ 600000) (hw : w + 644 ≤ 7302250) (next : ∀ u2 w2 τ, u2 ≤ u + 161 → w2 ≤ w + 644 → Rel τ → Z κ u2 w2 τ 1721 (zLL i) []) : Z κ u w σ 1524 (zLL i) [] := by
  have hl := hR.lay
  have hu3 : u + zcells mX11_told ≤ u + 161 := Nat.add_le_add_left (by decide) u
  have hw3 : w + zslots mX11_told ≤ w + 644 := Nat.add_le_add_left (by decide) w
  have hu2 := Nat.le_trans hu3 hu
  have hw2 := Nat.le_trans hw3 hw
  have hp : Pair mX11_told mX12_told [.int (xs (i + 1))] σ := pr_told hR
  obtain ⟨v, hv, hk⟩ := hp
  obtain ⟨x, rfl⟩ := zTyp_i rfl hv
  refine Z.aload_n B dL_law_1524 (v := .ref 0) rfl rfl ?_
  refine Z.sarg B S dL_law_1525 dL_law_1526 dL_law_1527 dL_law_1528 dL_law_1529 (k := 1) rfl (by omega) ?_
  refine Z.lawK B S dL_law_1530 hk rfl wX11_told iX11_told sX11_told kLaw_173 hl rfl rfl rfl hu2 hw2 ?_
  rintro r1 τ1 ⟨rfl, h45, hm⟩
  show Z κ _ _ τ1 1533 (zLL i) [.int x]
  refine Z.aload_n B dL_law_1533 (v := .ref 45) rfl rfl ?_
  refine Z.sarg B S dL_law_1534 dL_law_1535 dL_law_1536 dL_law_1537 dL_law_1538 (k := 1) rfl (by omega) ?_
  refine Z.lawM B dL_law_1539 hm rfl wX12_told iX12_told sX12_told kLaw_176 h45 rfl rfl rfl ⟨rfl, rfl⟩ hu2 hw2 ?_
  rintro r2 τ2 ⟨rfl, hR2⟩
  show Z κ _ _ τ2 1542 (zLL i) [.int x, .int x]
  refine Z.icmp_eq B dL_law_1542 (tgt := 1721) rfl (fun _ => next _ _ _ hu3 hw3 hR2) (fun h => absurd rfl h)
theorem law_c38 (B : zB (mLaw nm) κ) (S : zScr b N xs κ) (hi : i + 6 ≤ N) (hR : Rel σ) (hu : u + 161 ≤ 600000) (hw : w + 644 ≤ 7302250) (next : ∀ u2 w2 τ, u2 ≤ u + 161 → w2 ≤ w + 644 → Rel τ → Z κ u2 w2 τ 1721 (zLL i) []) : Z κ u w σ 1547 (zLL i) [] := by
  have hl := hR.lay
  have hu3 : u + zcells mX11_come ≤ u + 161 := Nat.add_le_add_left (by decide) u
  have hw3 : w + zslots mX11_come ≤ w + 644 := Nat.add_le_add_left (by decide) w
  have hu2 := Nat.le_trans hu3 hu
  have hw2 := Nat.le_trans hw3 hw
  have hp : Pair mX11_come mX12_come [.int (xs (i + 1))] σ := pr_come hR
  obtain ⟨v, hv, hk⟩ := hp
  obtain ⟨x, rfl⟩ := zTyp_i rfl hv
  refine Z.aload_n B dL_law_1547 (v := .ref 0) rfl rfl ?_
  refine Z.sarg B S dL_law_1548 dL_law_1549 dL_law_1550 dL_law_1551 dL_law_1552 (k := 1) rfl (by omega) ?_
  refine Z.lawK B S dL_law_1553 hk rfl wX11_come iX11_come sX11_come kLaw_177 hl rfl rfl rfl hu2 hw2 ?_
  rintro r1 τ1 ⟨rfl, h45, hm⟩
  show Z κ _ _ τ1 1556 (zLL i) [.int x]
  refine Z.aload_n B dL_law_1556 (v := .ref 45) rfl rfl ?_
  refine Z.sarg B S dL_law_1557 dL_law_1558 dL_law_1559 dL_law_1560 dL_law_1561 (k := 1) rfl (by omega) ?_
  refine Z.lawM B dL_law_1562 hm rfl wX12_come iX12_come sX12_come kLaw_180 h45 rfl rfl rfl ⟨rfl, rfl⟩ hu2 hw2 ?_
  rintro r2 τ2 ⟨rfl, hR2⟩
  show Z κ _ _ τ2 1565 (zLL i) [.int x, .int x]
  refine Z.icmp_eq B dL_law_1565 (tgt := 1721) rfl (fun _ => next _ _ _ hu3 hw3 hR2) (fun h => absurd rfl h)
theorem law_c39 (B : zB (mLaw nm) κ) (S : zScr b N xs κ) (hi : i + 6 ≤ N) (hR : Rel σ) (hu : u + 161 ≤ 600000) (hw : w + 644 ≤ 7302250) (next : ∀ u2 w2 τ, u2 ≤ u + 161 → w2 ≤ w + 644 → Rel τ → Z κ u2 w2 τ 1721 (zLL i) []) : Z κ u w σ 1570 (zLL i) [] := by
  have hl := hR.lay
  have hu3 : u + zcells mX11_clear ≤ u + 161 := Nat.add_le_add_left (by decide) u
  have hw3 : w + zslots mX11_clear ≤ w + 644 := Nat.add_le_add_left (by decide) w
  have hu2 := Nat.le_trans hu3 hu
  have hw2 := Nat.le_trans hw3 hw
  have hp : Pair mX11_clear mX12_clear [] σ := pr_clear hR
  obtain ⟨v, hv, hk⟩ := hp
  obtain ⟨x, rfl⟩ := zTyp_i rfl hv
  refine Z.aload_n B dL_law_1570 (v := .ref 0) rfl rfl ?_
  refine Z.lawK B S dL_law_1571 hk rfl wX11_clear iX11_clear sX11_clear kLaw_181 hl rfl rfl rfl hu2 hw2 ?_
  rintro r1 τ1 ⟨rfl, h45, hm⟩
  show Z κ _ _ τ1 1574 (zLL i) [.int x]
  refine Z.aload_n B dL_law_1574 (v := .ref 45) rfl rfl ?_
  refine Z.lawM B dL_law_1575 hm rfl wX12_clear iX12_clear sX12_clear kLaw_184 h45 rfl rfl rfl ⟨rfl, rfl⟩ hu2 hw2 ?_
  rintro r2 τ2 ⟨rfl, hR2⟩
  show Z κ _ _ τ2 1578 (zLL i) [.int x, .int x]
  refine Z.icmp_eq B dL_law_1578 (tgt := 1721) rfl (fun _ => next _ _ _ hu3 hw3 hR2) (fun h => absurd rfl h)
theorem law_c40 (B : zB (mLaw nm) κ) (S : zScr b N xs κ) (hi : i + 6 ≤ N) (hR : Rel σ) (hu : u + 161 ≤ 600000) (hw : w + 644 ≤ 7302250) (next : ∀ u2 w2 τ, u2 ≤ u + 161 → w2 ≤ w + 644 → Rel τ → Z κ u2 w2 τ 1721 (zLL i) []) : Z κ u w σ 1583 (zLL i) [] := by
  have hl := hR.lay
  have hu3 : u + zcells mX11_seed ≤ u + 161 := Nat.add_le_add_left (by decide) u
  have hw3 : w + zslots mX11_seed ≤ w + 644 := Nat.add_le_add_left (by decide) w
  have hu2 := Nat.le_trans hu3 hu
  have hw2 := Nat.le_trans hw3 hw
  have hp : Pair mX11_seed mX12_seed [.int (xs (i + 1))] σ := pr_seed hR
  obtain ⟨v, hv, hk⟩ := hp
  obtain ⟨x, rfl⟩ := zTyp_i rfl hv
  refine Z.aload_n B dL_law_1583 (v := .ref 0) rfl rfl ?_
  refine Z.sarg B S dL_law_1584 dL_law_1585 dL_law_1586 dL_law_1587 dL_law_1588 (k := 1) rfl (by omega) ?_
  refine Z.lawK B S dL_law_1589 hk rfl wX11_seed iX11_seed sX11_seed kLaw_185 hl rfl rfl rfl hu2 hw2 ?_
  rintro r1 τ1 ⟨rfl, h45, hm⟩
  show Z κ _ _ τ1 1592 (zLL i) [.int x]
  refine Z.aload_n B dL_law_1592 (v := .ref 45) rfl rfl ?_
  refine Z.sarg B S dL_law_1593 dL_law_1594 dL_law_1595 dL_law_1596 dL_law_1597 (k := 1) rfl (by omega) ?_
  refine Z.lawM B dL_law_1598 hm rfl wX12_seed iX12_seed sX12_seed kLaw_188 h45 rfl rfl rfl ⟨rfl, rfl⟩ hu2 hw2 ?_
  rintro r2 τ2 ⟨rfl, hR2⟩
  show Z κ _ _ τ2 1601 (zLL i) [.int x, .int x]
  refine Z.icmp_eq B dL_law_1601 (tgt := 1721) rfl (fun _ => next _ _ _ hu3 hw3 hR2) (fun h => absurd rfl h)
theorem law_c41 (B : zB (mLaw nm) κ) (S : zScr b N xs κ) (hi : i + 6 ≤ N) (hR : Rel σ) (hu : u + 161 ≤ 600000) (hw : w + 644 ≤ 7302250) (next : ∀ u2 w2 τ, u2 ≤ u + 161 → w2 ≤ w + 644 → Rel τ → Z κ u2 w2 τ 1721 (zLL i) []) : Z κ u w σ 1606 (zLL i) [] := by
  have hl := hR.lay
  have hu3 : u + zcells mX11_act ≤ u + 161 := Nat.add_le_add_left (by decide) u
  have hw3 : w + zslots mX11_act ≤ w + 644 := Nat.add_le_add_left (by decide) w
  have hu2 := Nat.le_trans hu3 hu
  have hw2 := Nat.le_trans hw3 hw
  have hp : Pair mX11_act mX12_act [.int (xs (i + 1)), .int (xs (i + 2)), .int (xs (i + 3))] σ := pr_act hR
  obtain ⟨v, hv, hk⟩ := hp
  obtain ⟨x, rfl⟩ := zTyp_i rfl hv
  refine Z.aload_n B dL_law_1606 (v := .ref 0) rfl rfl ?_
  refine Z.sarg B S dL_law_1607 dL_law_1608 dL_law_1609 dL_law_1610 dL_law_1611 (k := 1) rfl (by omega) ?_
  refine Z.sarg B S dL_law_1612 dL_law_1613 dL_law_1614 dL_law_1615 dL_law_1616 (k := 2) rfl (by omega) ?_
  refine Z.sarg B S dL_law_1617 dL_law_1618 dL_law_1619 dL_law_1620 dL_law_1621 (k := 3) rfl (by omega) ?_
  refine Z.lawK B S dL_law_1622 hk rfl wX11_act iX11_act sX11_act kLaw_189 hl rfl rfl rfl hu2 hw2 ?_
  rintro r1 τ1 ⟨rfl, h45, hm⟩
  show Z κ _ _ τ1 1625 (zLL i) [.int x]
  refine Z.aload_n B dL_law_1625 (v := .ref 45) rfl rfl ?_
  refine Z.sarg B S dL_law_1626 dL_law_1627 dL_law_1628 dL_law_1629 dL_law_1630 (k := 1) rfl (by omega) ?_
  refine Z.sarg B S dL_law_1631 dL_law_1632 dL_law_1633 dL_law_1634 dL_law_1635 (k := 2) rfl (by omega) ?_
  refine Z.sarg B S dL_law_1636 dL_law_1637 dL_law_1638 dL_law_1639 dL_law_1640 (k := 3) rfl (by omega) ?_
  refine Z.lawM B dL_law_1641 hm rfl wX12_act iX12_act sX12_act kLaw_192 h45 rfl rfl rfl ⟨rfl, rfl⟩ hu2 hw2 ?_
  rintro r2 τ2 ⟨rfl, hR2⟩
  show Z κ _ _ τ2 1644 (zLL i) [.int x, .int x]
  refine Z.icmp_eq B dL_law_1644 (tgt := 1721) rfl (fun _ => next _ _ _ hu3 hw3 hR2) (fun h => absurd rfl h)
theorem law_c42 (B : zB (mLaw nm) κ) (S : zScr b N xs κ) (hi : i + 6 ≤ N) (hR : Rel σ) (hu : u + 161 ≤ 600000) (hw : w + 644 ≤ 7302250) (next : ∀ u2 w2 τ, u2 ≤ u + 161 → w2 ≤ w + 644 → Rel τ → Z κ u2 w2 τ 1721 (zLL i) []) : Z κ u w σ 1649 (zLL i) [] := by
  have hl := hR.lay
  have hu3 : u + zcells mX11_trace ≤ u + 161 := Nat.add_le_add_left (by decide) u
  have hw3 : w + zslots mX11_trace ≤ w + 644 := Nat.add_le_add_left (by decide) w
  have hu2 := Nat.le_trans hu3 hu
  have hw2 := Nat.le_trans hw3 hw
  have hp : Pair mX11_trace mX12_trace [.int (xs (i + 1))] σ := pr_trace hR
  obtain ⟨v, hv, hk⟩ := hp
  obtain ⟨x, rfl⟩ := zTyp_i rfl hv
  refine Z.aload_n B dL_law_1649 (v := .ref 0) rfl rfl ?_
  refine Z.sarg B S dL_law_1650 dL_law_1651 dL_law_1652 dL_law_1653 dL_law_1654 (k := 1) rfl (by omega) ?_
  refine Z.lawK B S dL_law_1655 hk rfl wX11_trace iX11_trace sX11_trace kLaw_193 hl rfl rfl rfl hu2 hw2 ?_
  rintro r1 τ1 ⟨rfl, h45, hm⟩
  show Z κ _ _ τ1 1658 (zLL i) [.int x]
  refine Z.aload_n B dL_law_1658 (v := .ref 45) rfl rfl ?_
  refine Z.sarg B S dL_law_1659 dL_law_1660 dL_law_1661 dL_law_1662 dL_law_1663 (k := 1) rfl (by omega) ?_
  refine Z.lawM B dL_law_1664 hm rfl wX12_trace iX12_trace sX12_trace kLaw_196 h45 rfl rfl rfl ⟨rfl, rfl⟩ hu2 hw2 ?_
  rintro r2 τ2 ⟨rfl, hR2⟩
  show Z κ _ _ τ2 1667 (zLL i) [.int x, .int x]
  refine Z.icmp_eq B dL_law_1667 (tgt := 1721) rfl (fun _ => next _ _ _ hu3 hw3 hR2) (fun h => absurd rfl h)
theorem law_c43 (B : zB (mLaw nm) κ) (S : zScr b N xs κ) (hi : i + 6 ≤ N) (hR : Rel σ) (hu : u + 161 ≤ 600000) (hw : w + 644 ≤ 7302250) (next : ∀ u2 w2 τ, u2 ≤ u + 161 → w2 ≤ w + 644 → Rel τ → Z κ u2 w2 τ 1721 (zLL i) []) : Z κ u w σ 1672 (zLL i) [] := by
  have hl := hR.lay
  have hu3 : u + zcells mX11_image ≤ u + 161 := Nat.add_le_add_left (by decide) u
  have hw3 : w + zslots mX11_image ≤ w + 644 := Nat.add_le_add_left (by decide) w
  have hu2 := Nat.le_trans hu3 hu
  have hw2 := Nat.le_trans hw3 hw
  have hp : Pair mX11_image mX12_image [] σ := pr_image hR
  obtain ⟨v, hv, hk⟩ := hp
  obtain ⟨x, rfl⟩ := zTyp_i rfl hv
  refine Z.aload_n B dL_law_1672 (v := .ref 0) rfl rfl ?_
  refine Z.lawK B S dL_law_1673 hk rfl wX11_image iX11_image sX11_image kLaw_197 hl rfl rfl rfl hu2 hw2 ?_
  rintro r1 τ1 ⟨rfl, h45, hm⟩
  show Z κ _ _ τ1 1676 (zLL i) [.int x]
  refine Z.aload_n B dL_law_1676 (v := .ref 45) rfl rfl ?_
  refine Z.lawM B dL_law_1677 hm rfl wX12_image iX12_image sX12_image kLaw_200 h45 rfl rfl rfl ⟨rfl, rfl⟩ hu2 hw2 ?_
  rintro r2 τ2 ⟨rfl, hR2⟩
  show Z κ _ _ τ2 1680 (zLL i) [.int x, .int x]
  refine Z.icmp_eq B dL_law_1680 (tgt := 1721) rfl (fun _ => next _ _ _ hu3 hw3 hR2) (fun h => absurd rfl h)
theorem law_c44 (B : zB (mLaw nm) κ) (S : zScr b N xs κ) (hi : i + 6 ≤ N) (hR : Rel σ) (hu : u + 161 ≤ 600000) (hw : w + 644 ≤ 7302250) (next : ∀ u2 w2 τ, u2 ≤ u + 161 → w2 ≤ w + 644 → Rel τ → Z κ u2 w2 τ 1721 (zLL i) []) : Z κ u w σ 1685 (zLL i) [] := by
  have hl := hR.lay
  have hu3 : u + zcells mX11_restore ≤ u + 161 := Nat.add_le_add_left (by decide) u
  have hw3 : w + zslots mX11_restore ≤ w + 644 := Nat.add_le_add_left (by decide) w
  have hu2 := Nat.le_trans hu3 hu
  have hw2 := Nat.le_trans hw3 hw
  have hp : Pair mX11_restore mX12_restore [] σ := pr_restore hR
  obtain ⟨v, hv, hk⟩ := hp
  obtain ⟨x, rfl⟩ := zTyp_i rfl hv
  refine Z.aload_n B dL_law_1685 (v := .ref 0) rfl rfl ?_
  refine Z.lawK B S dL_law_1686 hk rfl wX11_restore iX11_restore sX11_restore kLaw_201 hl rfl rfl rfl hu2 hw2 ?_
  rintro r1 τ1 ⟨rfl, h45, hm⟩
  show Z κ _ _ τ1 1689 (zLL i) [.int x]
  refine Z.aload_n B dL_law_1689 (v := .ref 45) rfl rfl ?_
  refine Z.lawM B dL_law_1690 hm rfl wX12_restore iX12_restore sX12_restore kLaw_204 h45 rfl rfl rfl ⟨rfl, rfl⟩ hu2 hw2 ?_
  rintro r2 τ2 ⟨rfl, hR2⟩
  show Z κ _ _ τ2 1693 (zLL i) [.int x, .int x]
  refine Z.icmp_eq B dL_law_1693 (tgt := 1721) rfl (fun _ => next _ _ _ hu3 hw3 hR2) (fun h => absurd rfl h)
theorem law_c45 (B : zB (mLaw nm) κ) (S : zScr b N xs κ) (hi : i + 6 ≤ N) (hR : Rel σ) (hu : u + 161 ≤ 600000) (hw : w + 644 ≤ 7302250) (next : ∀ u2 w2 τ, u2 ≤ u + 161 → w2 ≤ w + 644 → Rel τ → Z κ u2 w2 τ 1721 (zLL i) []) : Z κ u w σ 1698 (zLL i) [] := by
  have hl := hR.lay
  have hu3 : u + zcells mX11_status ≤ u + 161 := Nat.add_le_add_left (by decide) u
  have hw3 : w + zslots mX11_status ≤ w + 644 := Nat.add_le_add_left (by decide) w
  have hu2 := Nat.le_trans hu3 hu
  have hw2 := Nat.le_trans hw3 hw
  have hp : Pair mX11_status mX12_status [.int (xs (i + 1))] σ := pr_status hR
  obtain ⟨v, hv, hk⟩ := hp
  obtain ⟨x, rfl⟩ := zTyp_i rfl hv
  refine Z.aload_n B dL_law_1698 (v := .ref 0) rfl rfl ?_
  refine Z.sarg B S dL_law_1699 dL_law_1700 dL_law_1701 dL_law_1702 dL_law_1703 (k := 1) rfl (by omega) ?_
  refine Z.lawK B S dL_law_1704 hk rfl wX11_status iX11_status sX11_status kLaw_205 hl rfl rfl rfl hu2 hw2 ?_
  rintro r1 τ1 ⟨rfl, h45, hm⟩
  show Z κ _ _ τ1 1707 (zLL i) [.int x]
  refine Z.aload_n B dL_law_1707 (v := .ref 45) rfl rfl ?_
  refine Z.sarg B S dL_law_1708 dL_law_1709 dL_law_1710 dL_law_1711 dL_law_1712 (k := 1) rfl (by omega) ?_
  refine Z.lawM B dL_law_1713 hm rfl wX12_status iX12_status sX12_status kLaw_208 h45 rfl rfl rfl ⟨rfl, rfl⟩ hu2 hw2 ?_
  rintro r2 τ2 ⟨rfl, hR2⟩
  show Z κ _ _ τ2 1716 (zLL i) [.int x, .int x]
  refine Z.icmp_eq B dL_law_1716 (tgt := 1721) rfl (fun _ => next _ _ _ hu3 hw3 hR2) (fun h => absurd rfl h)
theorem law_in (B : zB (mLaw nm) κ) (S : zScr b N xs κ) (hi : i + 6 ≤ N) (hR : Rel σ) (hu : u + 161 ≤ 600000) (hw : w + 644 ≤ 7302250) (next : ∀ u2 w2 τ, u2 ≤ u + 161 → w2 ≤ w + 644 → Rel τ → Z κ u2 w2 τ 1721 (zLL i) []) : ∀ k, k < 46 → Z κ u w σ 33 (zLL i) [.int (nI k)]
  | 0, _ => Z.tabIn B dL_law_33 (by decide) (by decide) (off := 199) (by decide) (tgt := 232) rfl (law_c0 B S hi hR hu hw next)
  | 1, _ => Z.tabIn B dL_law_33 (by decide) (by decide) (off := 242) (by decide) (tgt := 275) rfl (law_c1 B S hi hR hu hw next)
  | 2, _ => Z.tabIn B dL_law_33 (by decide) (by decide) (off := 315) (by decide) (tgt := 348) rfl (law_c2 B S hi hR hu hw next)
  | 3, _ => Z.tabIn B dL_law_33 (by decide) (by decide) (off := 378) (by decide) (tgt := 411) rfl (law_c3 B S hi hR hu hw next)
  | 4, _ => Z.tabIn B dL_law_33 (by decide) (by decide) (off := 412) (by decide) (tgt := 445) rfl (law_c4 B S hi hR hu hw next)
  | 5, _ => Z.tabIn B dL_law_33 (by decide) (by decide) (off := 445) (by decide) (tgt := 478) rfl (law_c5 B S hi hR hu hw next)
  | 6, _ => Z.tabIn B dL_law_33 (by decide) (by decide) (off := 468) (by decide) (tgt := 501) rfl (law_c6 B S hi hR hu hw next)
  | 7, _ => Z.tabIn B dL_law_33 (by decide) (by decide) (off := 501) (by decide) (tgt := 534) rfl (law_c7 B S hi hR hu hw next)
  | 8, _ => Z.tabIn B dL_law_33 (by decide) (by decide) (off := 534) (by decide) (tgt := 567) rfl (law_c8 B S hi hR hu hw next)
  | 9, _ => Z.tabIn B dL_law_33 (by decide) (by decide) (off := 577) (by decide) (tgt := 610) rfl (law_c9 B S hi hR hu hw next)
  | 10, _ => Z.tabIn B dL_law_33 (by decide) (by decide) (off := 610) (by decide) (tgt := 643) rfl (law_c10 B S hi hR hu hw next)
  | 11, _ => Z.tabIn B dL_law_33 (by decide) (by decide) (off := 643) (by decide) (tgt := 676) rfl (law_c11 B S hi hR hu hw next)
  | 12, _ => Z.tabIn B dL_law_33 (by decide) (by decide) (off := 676) (by decide) (tgt := 709) rfl (law_c12 B S hi hR hu hw next)
  | 13, _ => Z.tabIn B dL_law_33 (by decide) (by decide) (off := 709) (by decide) (tgt := 742) rfl (law_c13 B S hi hR hu hw next)
  | 14, _ => Z.tabIn B dL_law_33 (by decide) (by decide) (off := 752) (by decide) (tgt := 785) rfl (law_c14 B S hi hR hu hw next)
  | 15, _ => Z.tabIn B dL_law_33 (by decide) (by decide) (off := 785) (by decide) (tgt := 818) rfl (law_c15 B S hi hR hu hw next)
  | 16, _ => Z.tabIn B dL_law_33 (by decide) (by decide) (off := 808) (by decide) (tgt := 841) rfl (law_c16 B S hi hR hu hw next)
  | 17, _ => Z.tabIn B dL_law_33 (by decide) (by decide) (off := 831) (by decide) (tgt := 864) rfl (law_c17 B S hi hR hu hw next)
  | 18, _ => Z.tabIn B dL_law_33 (by decide) (by decide) (off := 844) (by decide) (tgt := 877) rfl (law_c18 B S hi hR hu hw next)
  | 19, _ => Z.tabIn B dL_law_33 (by decide) (by decide) (off := 887) (by decide) (tgt := 920) rfl (law_c19 B S hi hR hu hw next)
  | 20, _ => Z.tabIn B dL_law_33 (by decide) (by decide) (off := 956) (by decide) (tgt := 989) rfl (law_c20 B S hi hR hu hw next)
  | 21, _ => Z.tabIn B dL_law_33 (by decide) (by decide) (off := 1015) (by decide) (tgt := 1048) rfl (law_c21 B S hi hR hu hw next)
  | 22, _ => Z.tabIn B dL_law_33 (by decide) (by decide) (off := 1064) (by decide) (tgt := 1097) rfl (law_c22 B S hi hR hu hw next)
  | 23, _ => Z.tabIn B dL_law_33 (by decide) (by decide) (off := 1077) (by decide) (tgt := 1110) rfl (law_c23 B S hi hR hu hw next)
  | 24, _ => Z.tabIn B dL_law_33 (by decide) (by decide) (off := 1126) (by decide) (tgt := 1159) rfl (law_c24 B S hi hR hu hw next)
  | 25, _ => Z.tabIn B dL_law_33 (by decide) (by decide) (off := 1159) (by decide) (tgt := 1192) rfl (law_c25 B S hi hR hu hw next)
  | 26, _ => Z.tabIn B dL_law_33 (by decide) (by decide) (off := 1172) (by decide) (tgt := 1205) rfl (law_c26 B S hi hR hu hw next)
  | 27, _ => Z.tabIn B dL_law_33 (by decide) (by decide) (off := 1215) (by decide) (tgt := 1248) rfl (law_c27 B S hi hR hu hw next)
  | 28, _ => Z.tabIn B dL_law_33 (by decide) (by decide) (off := 1248) (by decide) (tgt := 1281) rfl (law_c28 B S hi hR hu hw next)
  | 29, _ => Z.tabIn B dL_law_33 (by decide) (by decide) (off := 1271) (by decide) (tgt := 1304) rfl (law_c29 B S hi hR hu hw next)
  | 30, _ => Z.tabIn B dL_law_33 (by decide) (by decide) (off := 1294) (by decide) (tgt := 1327) rfl (law_c30 B S hi hR hu hw next)
  | 31, _ => Z.tabIn B dL_law_33 (by decide) (by decide) (off := 1343) (by decide) (tgt := 1376) rfl (law_c31 B S hi hR hu hw next)
  | 32, _ => Z.tabIn B dL_law_33 (by decide) (by decide) (off := 1376) (by decide) (tgt := 1409) rfl (law_c32 B S hi hR hu hw next)
  | 33, _ => Z.tabIn B dL_law_33 (by decide) (by decide) (off := 1399) (by decide) (tgt := 1432) rfl (law_c33 B S hi hR hu hw next)
  | 34, _ => Z.tabIn B dL_law_33 (by decide) (by decide) (off := 1412) (by decide) (tgt := 1445) rfl (law_c34 B S hi hR hu hw next)
  | 35, _ => Z.tabIn B dL_law_33 (by decide) (by decide) (off := 1445) (by decide) (tgt := 1478) rfl (law_c35 B S hi hR hu hw next)
  | 36, _ => Z.tabIn B dL_law_33 (by decide) (by decide) (off := 1468) (by decide) (tgt := 1501) rfl (law_c36 B S hi hR hu hw next)
  | 37, _ => Z.tabIn B dL_law_33 (by decide) (by decide) (off := 1491) (by decide) (tgt := 1524) rfl (law_c37 B S hi hR hu hw next)
  | 38, _ => Z.tabIn B dL_law_33 (by decide) (by decide) (off := 1514) (by decide) (tgt := 1547) rfl (law_c38 B S hi hR hu hw next)
  | 39, _ => Z.tabIn B dL_law_33 (by decide) (by decide) (off := 1537) (by decide) (tgt := 1570) rfl (law_c39 B S hi hR hu hw next)
  | 40, _ => Z.tabIn B dL_law_33 (by decide) (by decide) (off := 1550) (by decide) (tgt := 1583) rfl (law_c40 B S hi hR hu hw next)
  | 41, _ => Z.tabIn B dL_law_33 (by decide) (by decide) (off := 1573) (by decide) (tgt := 1606) rfl (law_c41 B S hi hR hu hw next)
  | 42, _ => Z.tabIn B dL_law_33 (by decide) (by decide) (off := 1616) (by decide) (tgt := 1649) rfl (law_c42 B S hi hR hu hw next)
  | 43, _ => Z.tabIn B dL_law_33 (by decide) (by decide) (off := 1639) (by decide) (tgt := 1672) rfl (law_c43 B S hi hR hu hw next)
  | 44, _ => Z.tabIn B dL_law_33 (by decide) (by decide) (off := 1652) (by decide) (tgt := 1685) rfl (law_c44 B S hi hR hu hw next)
  | 45, _ => Z.tabIn B dL_law_33 (by decide) (by decide) (off := 1665) (by decide) (tgt := 1698) rfl (law_c45 B S hi hR hu hw next)
  | k + 46, h => absurd h (by omega)
theorem law_turn (B : zB (mLaw nm) κ) (S : zScr b N xs κ) (hi : i + 6 ≤ N) (hR : Rel σ) (hu : u + 161 ≤ 600000) (hw : w + 644 ≤ 7302250) (next : ∀ u2 w2 τ, u2 ≤ u + 161 → w2 ≤ w + 644 → Rel τ → Z κ u2 w2 τ 1721 (zLL i) []) : Z κ u w σ 27 (zLL i) [] := by
  refine Z.aload_n B dL_law_27 (v := .float 12) rfl rfl ?_
  refine Z.iload_n B dL_law_28 (x := nI i) rfl ?_
  refine Z.sld B S dL_law_29 (by omega) ?_
  refine Z.bipush B dL_law_30 (v := nI 63) rfl ?_
  refine Z.iand B dL_law_32 ?_
  obtain ⟨k, hk, e⟩ := and63 (xs i)
  rw [e]
  rcases Nat.lt_or_ge k 46 with h | h
  · exact law_in B S hi hR hu hw next k h
  · refine Z.tabOut B dL_law_33 (Or.inr ?_) (tgt := 1721) rfl (next u w σ (Nat.le_add_right _ _) (Nat.le_add_right _ _) hR)
    rw [nI_toInt (by omega)]
    omega
theorem nI_isub6 {j : Nat} (hj : N ≤ 3072) (hj2 : j < 2 ^ 31) : (nI N - nI 6 < nI j ↔ N < j + 6) := by
  rw [Int32.lt_iff_toInt_lt, nI_toInt hj2]
  have e : (nI N - nI 6).toInt = (N : Int) - 6 := zsubI (by omega) (by decide)
  rw [e]
  omega
/-- the law's loop -/
theorem law_loop (B : zB (mLaw nm) κ) (S : zScr b N xs κ) : ∀ (f i u w : Nat) (σ : zSt), Rel σ → N ≤ i + 6 * f → i ≤ N + 6 → u + 161 * f ≤ 600000 → w + 644 * f ≤ 7302250 → Z κ u w σ 18 (zLL i) [] := by
  have hN := S.le
  have fin : ∀ (i u w : Nat) (σ : zSt), u ≤ 600000 → w ≤ 7302250 → Z κ u w σ 1727 (zLL i) [] := fun i u w σ hu hw => by
    refine Z.iconst B dL_law_1727 (v := 1) rfl ?_
    exact Z.lawEnd B S dL_law_1728 hu hw
  have head : ∀ (i u w : Nat) (σ : zSt), i ≤ N + 6 → (N < i + 6 → Z κ u w σ 1727 (zLL i) []) → (¬ N < i + 6 → Z κ u w σ 27 (zLL i) []) → Z κ u w σ 18 (zLL i) [] := fun i u w σ hi kt kf => by
    refine Z.iload_n B dL_law_18 (x := nI i) rfl ?_
    refine Z.aload_n B dL_law_19 (v := .float 12) rfl rfl ?_
    refine Z.slen B S dL_law_20 ?_
    refine Z.bipush B dL_law_21 (v := nI 6) rfl ?_
    refine Z.isub B dL_law_23 ?_
    refine Z.icmp_gt B dL_law_24 (tgt := 1727) rfl (fun h => kt ?_) (fun h => kf ?_)
    · exact (nI_isub6 hN (by omega)).mp h
    · exact fun h2 => h ((nI_isub6 hN (by omega)).mpr h2)
  intro f
  induction f with
  | zero =>
    intro i u w σ hR h1 h2 h3 h4
    exact head i u w σ h2 (fun _ => fin i u w σ (by omega) (by omega)) (fun h => absurd (by omega) h)
  | succ f ih =>
    intro i u w σ hR h1 h2 h3 h4
    refine head i u w σ h2 (fun _ => fin i u w σ (by omega) (by omega)) (fun h => ?_)
    have h3' : u + 161 + 161 * f ≤ 600000 := by
      rw [Nat.mul_succ, Nat.add_comm (161 * f) 161, ← Nat.add_assoc] at h3
      exact h3
    have h4' : w + 644 + 644 * f ≤ 7302250 := by
      rw [Nat.mul_succ, Nat.add_comm (644 * f) 644, ← Nat.add_assoc] at h4
      exact h4
    refine law_turn B S (by omega) hR (Nat.le_trans (Nat.le_add_right _ _) h3') (Nat.le_trans (Nat.le_add_right _ _) h4') fun u2 w2 τ hu2 hw2 hR2 => ?_
    refine Z.iinc B dL_law_1721 (show 3 < 4 by decide) (x := nI i) (v := nI (i + 6)) rfl (nI_add i 6) (L' := zLL (i + 6)) rfl ?_
    refine Z.goto B dL_law_1724 (tgt := 18) rfl ?_
    exact ih (i + 6) u2 w2 τ hR2 (by omega) (by omega) (Nat.le_trans (Nat.add_le_add_right hu2 _) h3') (Nat.le_trans (Nat.add_le_add_right hw2 _) h4')
end

