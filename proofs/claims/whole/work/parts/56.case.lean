set_option maxHeartbeats 4000000 in
set_option maxRecDepth 100000 in
theorem law_6 {p : Program} {l : Launch} {e : Env} {s : State} {m : MethodId} {below : List Frame} {meth : Method} {c : Code} {b L : Nat} {xs : Nat → Int32} (hL : L ≤ 4096) (C0 : lw_At p s m meth c b L xs) {G : mG} {τ : mTau} {μ : mMem} {H : Heap} {locs : List Loc} {cells slots N : Nat} {x : Int32} (hx0 : 0 ≤ x.toInt) (hxL : x.toInt + 8 ≤ L) (hT : mT G s) (hG : G.2.2.1 = s.heap.size ∧ G.2.2.2 = s.heap) (hM : mw G τ μ H locs) (hLv : mLv τ μ) (hR : RR N μ μ) (hN : N + 128 ≤ 1000000) (hf : cells + 5 ≤ room_1.cells ∧ slots + 28 ≤ room_1.slots) {ls : Array Slot} (hl : lv_has ls 4 [(0, .ref b), (1, .ref (τ.1 0 0)), (2, .ref (τ.1 20 0)), (3, .int x)]) (kk : ∀ (τ' : mTau) (μ' : mMem) (H' : Heap) (locs' : List Loc), mExt τ τ' → mLv τ' μ' → mw G τ' μ' H' locs' → RR (N + 128) μ' μ' → W p l e room_1 s m #[Value.ref b] below meth c H' locs' (cells + 5) (slots + 28) (lw_Z below #[Value.ref b] s) (F0 m 756 ls [])) : W p l e room_1 s m #[Value.ref b] below meth c H locs cells slots (lw_Z below #[Value.ref b] s) (F0 m 280 ls []) := by
  obtain ⟨hx, hb, hr, hml, hown, hts0, hX, hbl, hlocks, hgv⟩ := C0
  have hts : ∀ w ∈ gG, w.before #[Value.ref b] s = true := fun w h => hts0 w (List.mem_filter.mp h).1
  have hS := lawS hG hM
  have hbA : ¬ (fun q : Nat => s.heap.size ≤ q) b := Nat.not_le.mpr hbl
  have hf0 : cells ≤ room_1.cells ∧ slots ≤ room_1.slots := ⟨by omega, by omega⟩
  have hf1 : cells + 5 ≤ room_1.cells ∧ slots + 28 ≤ room_1.slots := hf
  have hf2 : cells + 2 ≤ room_1.cells ∧ slots + 14 ≤ room_1.slots := ⟨by omega, by omega⟩
  have hf3 := hf2
  refine lv_aload_n hx hb d_L_law_280 rfl (lv_at hl 1 rfl) ?_
  refine lv_aload_n hx hb d_L_law_281 rfl (lv_at hl 0 rfl) ?_
  refine lv_iload_n hx hb d_L_law_282 rfl (lv_at hl 3 rfl) ?_
  refine lv_iconst (v := (1 : Int32)) hx hb d_L_law_283 (by decide) ?_
  refine lv_iadd hx hb d_L_law_284 ?_
  refine va_sld hx hb hX hbl hbA hS (scr_1 hx0 hxL hL) d_L_law_285 ?_
  refine lv_aload_n hx hb d_L_law_286 rfl (lv_at hl 0 rfl) ?_
  refine lv_iload_n hx hb d_L_law_287 rfl (lv_at hl 3 rfl) ?_
  refine lv_iconst (v := (2 : Int32)) hx hb d_L_law_288 (by decide) ?_
  refine lv_iadd hx hb d_L_law_289 ?_
  refine va_sld hx hb hX hbl hbA hS (scr_2 hx0 hxL hL) d_L_law_290 ?_
  refine lv_aload_n hx hb d_L_law_291 rfl (lv_at hl 0 rfl) ?_
  refine lv_iload_n hx hb d_L_law_292 rfl (lv_at hl 3 rfl) ?_
  refine lv_iconst (v := (3 : Int32)) hx hb d_L_law_293 (by decide) ?_
  refine lv_iadd hx hb d_L_law_294 ?_
  refine va_sld hx hb hX hbl hbA hS (scr_3 hx0 hxL hL) d_L_law_295 ?_
  refine lv_aload_n hx hb d_L_law_296 rfl (lv_at hl 0 rfl) ?_
  refine lv_iload_n hx hb d_L_law_297 rfl (lv_at hl 3 rfl) ?_
  refine lv_iconst (v := (4 : Int32)) hx hb d_L_law_298 (by decide) ?_
  refine lv_iadd hx hb d_L_law_299 ?_
  refine va_sld hx hb hX hbl hbA hS (scr_4 hx0 hxL hL) d_L_law_300 ?_
  refine lv_i2l hx hb d_L_law_301 rfl ?_
  refine lv_bipush (v := (32 : Int32)) hx hb d_L_law_302 (by decide) ?_
  refine lv_lshl (v := ((xs (x + (4 : Int32)).toNatClampNeg).toInt64 <<< (((32 : Int32)).toInt64 &&& 63))) hx hb d_L_law_304 rfl ?_
  refine lv_aload_n hx hb d_L_law_305 rfl (lv_at hl 0 rfl) ?_
  refine lv_iload_n hx hb d_L_law_306 rfl (lv_at hl 3 rfl) ?_
  refine lv_iconst (v := (5 : Int32)) hx hb d_L_law_307 (by decide) ?_
  refine lv_iadd hx hb d_L_law_308 ?_
  refine va_sld hx hb hX hbl hbA hS (scr_5 hx0 hxL hL) d_L_law_309 ?_
  refine lv_i2l hx hb d_L_law_310 rfl ?_
  refine lv_ldc2 (v := (4294967295 : Int64)) hx hb hown (hts _ kw_constantLong_BuildCounterLaw_39_4294967295) d_L_law_311 ?_
  refine lv_land hx hb d_L_law_314 ?_
  refine lv_lor hx hb d_L_law_315 ?_
  refine lv_aload_n hx hb d_L_law_316 rfl (lv_at hl 0 rfl) ?_
  refine lv_iload_n hx hb d_L_law_317 rfl (lv_at hl 3 rfl) ?_
  refine lv_bipush (v := (6 : Int32)) hx hb d_L_law_318 (by decide) ?_
  refine lv_iadd hx hb d_L_law_320 ?_
  refine va_sld hx hb hX hbl hbA hS (scr_6 hx0 hxL hL) d_L_law_321 ?_
  refine lv_i2l hx hb d_L_law_322 rfl ?_
  refine lv_bipush (v := (32 : Int32)) hx hb d_L_law_323 (by decide) ?_
  refine lv_lshl (v := ((xs (x + (6 : Int32)).toNatClampNeg).toInt64 <<< (((32 : Int32)).toInt64 &&& 63))) hx hb d_L_law_325 rfl ?_
  refine lv_aload_n hx hb d_L_law_326 rfl (lv_at hl 0 rfl) ?_
  refine lv_iload_n hx hb d_L_law_327 rfl (lv_at hl 3 rfl) ?_
  refine lv_bipush (v := (7 : Int32)) hx hb d_L_law_328 (by decide) ?_
  refine lv_iadd hx hb d_L_law_330 ?_
  refine va_sld hx hb hX hbl hbA hS (scr_7 hx0 hxL hL) d_L_law_331 ?_
  refine lv_i2l hx hb d_L_law_332 rfl ?_
  refine lv_ldc2 (v := (4294967295 : Int64)) hx hb hown (hts _ kw_constantLong_BuildCounterLaw_39_4294967295) d_L_law_333 ?_
  refine lv_land hx hb d_L_law_336 ?_
  refine lv_lor hx hb d_L_law_337 ?_
  generalize ev1 : (xs (x + (1 : Int32)).toNatClampNeg) = v1
  generalize ev2 : (xs (x + (2 : Int32)).toNatClampNeg) = v2
  generalize ev3 : (xs (x + (3 : Int32)).toNatClampNeg) = v3
  generalize ev4 : (((xs (x + (4 : Int32)).toNatClampNeg).toInt64 <<< (((32 : Int32)).toInt64 &&& 63)) ||| ((xs (x + (5 : Int32)).toNatClampNeg).toInt64 &&& (4294967295 : Int64))) = v4
  generalize ev5 : (((xs (x + (6 : Int32)).toNatClampNeg).toInt64 <<< (((32 : Int32)).toInt64 &&& 63)) ||| ((xs (x + (7 : Int32)).toNatClampNeg).toInt64 &&& (4294967295 : Int64))) = v5
  refine q_L_41 hx hb hml hown hts hT hM (lz_0 hM) (c_X_define l G τ μ v1 v2 v3 v4 v5 hLv) ⟨Nat.le_of_ble_eq_true rfl, Nat.le_of_ble_eq_true rfl⟩ hf2 (lv_room (Nat.le_of_ble_eq_true rfl)) hl.1 d_L_law_338 (fun τ1 H1 locs1 hxt hLv1 hM1 => ?_)
  have hs0 := (hxt 0 0 (lz_0 hM)).2
  have hs20 := (hxt 20 0 (lz_20 hM)).2
  rw [← hs0, ← hs20] at hl
  have hM := hM1
  have hS := lawS hG hM1
  have st := st_of (A := (f_X_define μ v1 v2 v3 v4 v5).1 = (f_M_define (f_X_define μ v1 v2 v3 v4 v5).2 v1 v2 v3 v4 v5).1) hR (by omega) (fr_X_define v1 v2 v3 v4 v5 keeps.rf) (fr_M_define v1 v2 v3 v4 v5 keeps.rf) (fun h => z_define h  v1 v2 v3 v4 v5) (by omega)
  refine lv_aload_n hx hb d_L_law_341 rfl (lv_at hl 2 rfl) ?_
  refine lv_aload_n hx hb d_L_law_342 rfl (lv_at hl 0 rfl) ?_
  refine lv_iload_n hx hb d_L_law_343 rfl (lv_at hl 3 rfl) ?_
  refine lv_iconst (v := (1 : Int32)) hx hb d_L_law_344 (by decide) ?_
  refine lv_iadd hx hb d_L_law_345 ?_
  refine va_sld hx hb hX hbl hbA hS (scr_1 hx0 hxL hL) d_L_law_346 ?_
  refine lv_aload_n hx hb d_L_law_347 rfl (lv_at hl 0 rfl) ?_
  refine lv_iload_n hx hb d_L_law_348 rfl (lv_at hl 3 rfl) ?_
  refine lv_iconst (v := (2 : Int32)) hx hb d_L_law_349 (by decide) ?_
  refine lv_iadd hx hb d_L_law_350 ?_
  refine va_sld hx hb hX hbl hbA hS (scr_2 hx0 hxL hL) d_L_law_351 ?_
  refine lv_aload_n hx hb d_L_law_352 rfl (lv_at hl 0 rfl) ?_
  refine lv_iload_n hx hb d_L_law_353 rfl (lv_at hl 3 rfl) ?_
  refine lv_iconst (v := (3 : Int32)) hx hb d_L_law_354 (by decide) ?_
  refine lv_iadd hx hb d_L_law_355 ?_
  refine va_sld hx hb hX hbl hbA hS (scr_3 hx0 hxL hL) d_L_law_356 ?_
  refine lv_aload_n hx hb d_L_law_357 rfl (lv_at hl 0 rfl) ?_
  refine lv_iload_n hx hb d_L_law_358 rfl (lv_at hl 3 rfl) ?_
  refine lv_iconst (v := (4 : Int32)) hx hb d_L_law_359 (by decide) ?_
  refine lv_iadd hx hb d_L_law_360 ?_
  refine va_sld hx hb hX hbl hbA hS (scr_4 hx0 hxL hL) d_L_law_361 ?_
  refine lv_i2l hx hb d_L_law_362 rfl ?_
  refine lv_bipush (v := (32 : Int32)) hx hb d_L_law_363 (by decide) ?_
  refine lv_lshl (v := ((xs (x + (4 : Int32)).toNatClampNeg).toInt64 <<< (((32 : Int32)).toInt64 &&& 63))) hx hb d_L_law_365 rfl ?_
  refine lv_aload_n hx hb d_L_law_366 rfl (lv_at hl 0 rfl) ?_
  refine lv_iload_n hx hb d_L_law_367 rfl (lv_at hl 3 rfl) ?_
  refine lv_iconst (v := (5 : Int32)) hx hb d_L_law_368 (by decide) ?_
  refine lv_iadd hx hb d_L_law_369 ?_
  refine va_sld hx hb hX hbl hbA hS (scr_5 hx0 hxL hL) d_L_law_370 ?_
  refine lv_i2l hx hb d_L_law_371 rfl ?_
  refine lv_ldc2 (v := (4294967295 : Int64)) hx hb hown (hts _ kw_constantLong_BuildCounterLaw_39_4294967295) d_L_law_372 ?_
  refine lv_land hx hb d_L_law_375 ?_
  refine lv_lor hx hb d_L_law_376 ?_
  refine lv_aload_n hx hb d_L_law_377 rfl (lv_at hl 0 rfl) ?_
  refine lv_iload_n hx hb d_L_law_378 rfl (lv_at hl 3 rfl) ?_
  refine lv_bipush (v := (6 : Int32)) hx hb d_L_law_379 (by decide) ?_
  refine lv_iadd hx hb d_L_law_381 ?_
  refine va_sld hx hb hX hbl hbA hS (scr_6 hx0 hxL hL) d_L_law_382 ?_
  refine lv_i2l hx hb d_L_law_383 rfl ?_
  refine lv_bipush (v := (32 : Int32)) hx hb d_L_law_384 (by decide) ?_
  refine lv_lshl (v := ((xs (x + (6 : Int32)).toNatClampNeg).toInt64 <<< (((32 : Int32)).toInt64 &&& 63))) hx hb d_L_law_386 rfl ?_
  refine lv_aload_n hx hb d_L_law_387 rfl (lv_at hl 0 rfl) ?_
  refine lv_iload_n hx hb d_L_law_388 rfl (lv_at hl 3 rfl) ?_
  refine lv_bipush (v := (7 : Int32)) hx hb d_L_law_389 (by decide) ?_
  refine lv_iadd hx hb d_L_law_391 ?_
  refine va_sld hx hb hX hbl hbA hS (scr_7 hx0 hxL hL) d_L_law_392 ?_
  refine lv_i2l hx hb d_L_law_393 rfl ?_
  refine lv_ldc2 (v := (4294967295 : Int64)) hx hb hown (hts _ kw_constantLong_BuildCounterLaw_39_4294967295) d_L_law_394 ?_
  refine lv_land hx hb d_L_law_397 ?_
  refine lv_lor hx hb d_L_law_398 ?_
  rw [ev1]
  rw [ev2]
  rw [ev3]
  rw [ev4]
  rw [ev5]
  refine q_L_45 hx hb hml hown hts hT hM (lz_20 hM) (c_M_define l G τ1 (f_X_define μ v1 v2 v3 v4 v5).2 v1 v2 v3 v4 v5 ) ⟨Nat.le_of_ble_eq_true rfl, Nat.le_of_ble_eq_true rfl⟩ hf3 (lv_room (Nat.le_of_ble_eq_true rfl)) hl.1 d_L_law_399 (fun H2 locs2 hM2 => ?_)
  refine lv_icmp_eq (tgt := 756) hx hb d_L_law_402 (by decide) (fun cc => ?_) (fun cc => ?_)
  · refine W.widen (k := cells + 5) (n := slots + 28) (by omega) (by omega) ?_
    exact kk τ1 _ H2 locs2 hxt (st.2.2.2.2 _ hLv1) hM2 st.2.2.2.1
  · exact absurd st.2.2.1 cc
set_option maxHeartbeats 4000000 in
set_option maxRecDepth 100000 in
theorem law_7 {p : Program} {l : Launch} {e : Env} {s : State} {m : MethodId} {below : List Frame} {meth : Method} {c : Code} {b L : Nat} {xs : Nat → Int32} (hL : L ≤ 4096) (C0 : lw_At p s m meth c b L xs) {G : mG} {τ : mTau} {μ : mMem} {H : Heap} {locs : List Loc} {cells slots N : Nat} {x : Int32} (hx0 : 0 ≤ x.toInt) (hxL : x.toInt + 8 ≤ L) (hT : mT G s) (hG : G.2.2.1 = s.heap.size ∧ G.2.2.2 = s.heap) (hM : mw G τ μ H locs) (hLv : mLv τ μ) (hR : RR N μ μ) (hN : N + 128 ≤ 1000000) (hf : cells + 5 ≤ room_1.cells ∧ slots + 28 ≤ room_1.slots) {ls : Array Slot} (hl : lv_has ls 4 [(0, .ref b), (1, .ref (τ.1 0 0)), (2, .ref (τ.1 20 0)), (3, .int x)]) (kk : ∀ (τ' : mTau) (μ' : mMem) (H' : Heap) (locs' : List Loc), mExt τ τ' → mLv τ' μ' → mw G τ' μ' H' locs' → RR (N + 128) μ' μ' → W p l e room_1 s m #[Value.ref b] below meth c H' locs' (cells + 5) (slots + 28) (lw_Z below #[Value.ref b] s) (F0 m 756 ls [])) : W p l e room_1 s m #[Value.ref b] below meth c H locs cells slots (lw_Z below #[Value.ref b] s) (F0 m 407 ls []) := by
  obtain ⟨hx, hb, hr, hml, hown, hts0, hX, hbl, hlocks, hgv⟩ := C0
  have hts : ∀ w ∈ gG, w.before #[Value.ref b] s = true := fun w h => hts0 w (List.mem_filter.mp h).1
  have hS := lawS hG hM
  have hbA : ¬ (fun q : Nat => s.heap.size ≤ q) b := Nat.not_le.mpr hbl
  have hf0 : cells ≤ room_1.cells ∧ slots ≤ room_1.slots := ⟨by omega, by omega⟩
  have hf1 : cells + 5 ≤ room_1.cells ∧ slots + 28 ≤ room_1.slots := hf
  have hf2 : cells + 2 ≤ room_1.cells ∧ slots + 14 ≤ room_1.slots := ⟨by omega, by omega⟩
  have hf3 := hf2
  refine lv_aload_n hx hb d_L_law_407 rfl (lv_at hl 1 rfl) ?_
  refine lv_aload_n hx hb d_L_law_408 rfl (lv_at hl 0 rfl) ?_
  refine lv_iload_n hx hb d_L_law_409 rfl (lv_at hl 3 rfl) ?_
  refine lv_iconst (v := (1 : Int32)) hx hb d_L_law_410 (by decide) ?_
  refine lv_iadd hx hb d_L_law_411 ?_
  refine va_sld hx hb hX hbl hbA hS (scr_1 hx0 hxL hL) d_L_law_412 ?_
  refine lv_aload_n hx hb d_L_law_413 rfl (lv_at hl 0 rfl) ?_
  refine lv_iload_n hx hb d_L_law_414 rfl (lv_at hl 3 rfl) ?_
  refine lv_iconst (v := (2 : Int32)) hx hb d_L_law_415 (by decide) ?_
  refine lv_iadd hx hb d_L_law_416 ?_
  refine va_sld hx hb hX hbl hbA hS (scr_2 hx0 hxL hL) d_L_law_417 ?_
  refine lv_i2l hx hb d_L_law_418 rfl ?_
  refine lv_bipush (v := (32 : Int32)) hx hb d_L_law_419 (by decide) ?_
  refine lv_lshl (v := ((xs (x + (2 : Int32)).toNatClampNeg).toInt64 <<< (((32 : Int32)).toInt64 &&& 63))) hx hb d_L_law_421 rfl ?_
  refine lv_aload_n hx hb d_L_law_422 rfl (lv_at hl 0 rfl) ?_
  refine lv_iload_n hx hb d_L_law_423 rfl (lv_at hl 3 rfl) ?_
  refine lv_iconst (v := (3 : Int32)) hx hb d_L_law_424 (by decide) ?_
  refine lv_iadd hx hb d_L_law_425 ?_
  refine va_sld hx hb hX hbl hbA hS (scr_3 hx0 hxL hL) d_L_law_426 ?_
  refine lv_i2l hx hb d_L_law_427 rfl ?_
  refine lv_ldc2 (v := (4294967295 : Int64)) hx hb hown (hts _ kw_constantLong_BuildCounterLaw_39_4294967295) d_L_law_428 ?_
  refine lv_land hx hb d_L_law_431 ?_
  refine lv_lor hx hb d_L_law_432 ?_
  generalize ev1 : (xs (x + (1 : Int32)).toNatClampNeg) = v1
  generalize ev2 : (((xs (x + (2 : Int32)).toNatClampNeg).toInt64 <<< (((32 : Int32)).toInt64 &&& 63)) ||| ((xs (x + (3 : Int32)).toNatClampNeg).toInt64 &&& (4294967295 : Int64))) = v2
  refine q_L_46 hx hb hml hown hts hT hM (lz_0 hM) (c_X_answer l G τ μ v1 v2 (iX_of hR)) ⟨Nat.le_of_ble_eq_true rfl, Nat.le_of_ble_eq_true rfl⟩ hf0 (lv_room (Nat.le_of_ble_eq_true rfl)) hl.1 d_L_law_433 (fun H1 locs1 hM1 => ?_)
  have hM := hM1
  have hS := lawS hG hM1
  have st := st_of (A := (f_X_answer μ v1 v2).1 = (f_M_answer (f_X_answer μ v1 v2).2 v1 v2).1) hR (by omega) (k1_of (fr_X_answer v1 v2 keeps.rf)) (fr_M_answer v1 v2 keeps.rf) (fun h => z_answer h  v1 v2) (by omega)
  refine lv_aload_n hx hb d_L_law_436 rfl (lv_at hl 2 rfl) ?_
  refine lv_aload_n hx hb d_L_law_437 rfl (lv_at hl 0 rfl) ?_
  refine lv_iload_n hx hb d_L_law_438 rfl (lv_at hl 3 rfl) ?_
  refine lv_iconst (v := (1 : Int32)) hx hb d_L_law_439 (by decide) ?_
  refine lv_iadd hx hb d_L_law_440 ?_
  refine va_sld hx hb hX hbl hbA hS (scr_1 hx0 hxL hL) d_L_law_441 ?_
  refine lv_aload_n hx hb d_L_law_442 rfl (lv_at hl 0 rfl) ?_
  refine lv_iload_n hx hb d_L_law_443 rfl (lv_at hl 3 rfl) ?_
  refine lv_iconst (v := (2 : Int32)) hx hb d_L_law_444 (by decide) ?_
  refine lv_iadd hx hb d_L_law_445 ?_
  refine va_sld hx hb hX hbl hbA hS (scr_2 hx0 hxL hL) d_L_law_446 ?_
  refine lv_i2l hx hb d_L_law_447 rfl ?_
  refine lv_bipush (v := (32 : Int32)) hx hb d_L_law_448 (by decide) ?_
  refine lv_lshl (v := ((xs (x + (2 : Int32)).toNatClampNeg).toInt64 <<< (((32 : Int32)).toInt64 &&& 63))) hx hb d_L_law_450 rfl ?_
  refine lv_aload_n hx hb d_L_law_451 rfl (lv_at hl 0 rfl) ?_
  refine lv_iload_n hx hb d_L_law_452 rfl (lv_at hl 3 rfl) ?_
  refine lv_iconst (v := (3 : Int32)) hx hb d_L_law_453 (by decide) ?_
  refine lv_iadd hx hb d_L_law_454 ?_
  refine va_sld hx hb hX hbl hbA hS (scr_3 hx0 hxL hL) d_L_law_455 ?_
  refine lv_i2l hx hb d_L_law_456 rfl ?_
  refine lv_ldc2 (v := (4294967295 : Int64)) hx hb hown (hts _ kw_constantLong_BuildCounterLaw_39_4294967295) d_L_law_457 ?_
  refine lv_land hx hb d_L_law_460 ?_
  refine lv_lor hx hb d_L_law_461 ?_
  rw [ev1]
  rw [ev2]
  refine q_L_50 hx hb hml hown hts hT hM (lz_20 hM) (c_M_answer l G τ (f_X_answer μ v1 v2).2 v1 v2 st.1) ⟨Nat.le_of_ble_eq_true rfl, Nat.le_of_ble_eq_true rfl⟩ hf0 (lv_room (Nat.le_of_ble_eq_true rfl)) hl.1 d_L_law_462 (fun H2 locs2 hM2 => ?_)
  refine lv_icmp_eq (tgt := 756) hx hb d_L_law_465 (by decide) (fun cc => ?_) (fun cc => ?_)
  · refine W.widen (k := cells + 5) (n := slots + 28) (by omega) (by omega) ?_
    exact kk τ _ H2 locs2 mExt.rf (st.2.2.2.2 _ (lv_k0 (fr_X_answer v1 v2 keeps.rf) hLv)) hM2 st.2.2.2.1
  · exact absurd st.2.2.1 cc
set_option maxHeartbeats 4000000 in
set_option maxRecDepth 100000 in
theorem law_8 {p : Program} {l : Launch} {e : Env} {s : State} {m : MethodId} {below : List Frame} {meth : Method} {c : Code} {b L : Nat} {xs : Nat → Int32} (hL : L ≤ 4096) (C0 : lw_At p s m meth c b L xs) {G : mG} {τ : mTau} {μ : mMem} {H : Heap} {locs : List Loc} {cells slots N : Nat} {x : Int32} (hx0 : 0 ≤ x.toInt) (hxL : x.toInt + 8 ≤ L) (hT : mT G s) (hG : G.2.2.1 = s.heap.size ∧ G.2.2.2 = s.heap) (hM : mw G τ μ H locs) (hLv : mLv τ μ) (hR : RR N μ μ) (hN : N + 128 ≤ 1000000) (hf : cells + 5 ≤ room_1.cells ∧ slots + 28 ≤ room_1.slots) {ls : Array Slot} (hl : lv_has ls 4 [(0, .ref b), (1, .ref (τ.1 0 0)), (2, .ref (τ.1 20 0)), (3, .int x)]) (kk : ∀ (τ' : mTau) (μ' : mMem) (H' : Heap) (locs' : List Loc), mExt τ τ' → mLv τ' μ' → mw G τ' μ' H' locs' → RR (N + 128) μ' μ' → W p l e room_1 s m #[Value.ref b] below meth c H' locs' (cells + 5) (slots + 28) (lw_Z below #[Value.ref b] s) (F0 m 756 ls [])) : W p l e room_1 s m #[Value.ref b] below meth c H locs cells slots (lw_Z below #[Value.ref b] s) (F0 m 470 ls []) := by
  obtain ⟨hx, hb, hr, hml, hown, hts0, hX, hbl, hlocks, hgv⟩ := C0
  have hts : ∀ w ∈ gG, w.before #[Value.ref b] s = true := fun w h => hts0 w (List.mem_filter.mp h).1
  have hS := lawS hG hM
  have hbA : ¬ (fun q : Nat => s.heap.size ≤ q) b := Nat.not_le.mpr hbl
  have hf0 : cells ≤ room_1.cells ∧ slots ≤ room_1.slots := ⟨by omega, by omega⟩
  have hf1 : cells + 5 ≤ room_1.cells ∧ slots + 28 ≤ room_1.slots := hf
  have hf2 : cells + 2 ≤ room_1.cells ∧ slots + 14 ≤ room_1.slots := ⟨by omega, by omega⟩
  have hf3 := hf2
  refine lv_aload_n hx hb d_L_law_470 rfl (lv_at hl 1 rfl) ?_
  refine lv_aload_n hx hb d_L_law_471 rfl (lv_at hl 0 rfl) ?_
  refine lv_iload_n hx hb d_L_law_472 rfl (lv_at hl 3 rfl) ?_
  refine lv_iconst (v := (1 : Int32)) hx hb d_L_law_473 (by decide) ?_
  refine lv_iadd hx hb d_L_law_474 ?_
  refine va_sld hx hb hX hbl hbA hS (scr_1 hx0 hxL hL) d_L_law_475 ?_
  refine lv_aload_n hx hb d_L_law_476 rfl (lv_at hl 0 rfl) ?_
  refine lv_iload_n hx hb d_L_law_477 rfl (lv_at hl 3 rfl) ?_
  refine lv_iconst (v := (2 : Int32)) hx hb d_L_law_478 (by decide) ?_
  refine lv_iadd hx hb d_L_law_479 ?_
  refine va_sld hx hb hX hbl hbA hS (scr_2 hx0 hxL hL) d_L_law_480 ?_
  refine lv_aload_n hx hb d_L_law_481 rfl (lv_at hl 0 rfl) ?_
  refine lv_iload_n hx hb d_L_law_482 rfl (lv_at hl 3 rfl) ?_
  refine lv_iconst (v := (3 : Int32)) hx hb d_L_law_483 (by decide) ?_
  refine lv_iadd hx hb d_L_law_484 ?_
  refine va_sld hx hb hX hbl hbA hS (scr_3 hx0 hxL hL) d_L_law_485 ?_
  generalize ev1 : (xs (x + (1 : Int32)).toNatClampNeg) = v1
  generalize ev2 : (xs (x + (2 : Int32)).toNatClampNeg) = v2
  generalize ev3 : (xs (x + (3 : Int32)).toNatClampNeg) = v3
  refine q_L_51 hx hb hml hown hts hT hM (lz_0 hM) (c_X_fails l G τ μ v1 v2 v3 ) ⟨Nat.le_of_ble_eq_true rfl, Nat.le_of_ble_eq_true rfl⟩ hf0 (lv_room (Nat.le_of_ble_eq_true rfl)) hl.1 d_L_law_486 (fun H1 locs1 hM1 => ?_)
  have hM := hM1
  have hS := lawS hG hM1
  have st := st_of (A := (f_X_fails μ v1 v2 v3).1 = (f_M_fails (f_X_fails μ v1 v2 v3).2 v1 v2 v3).1) hR (by omega) (k1_of (fr_X_fails v1 v2 v3 keeps.rf)) (fr_M_fails v1 v2 v3 keeps.rf) (fun h => z_fails h  v1 v2 v3) (by omega)
  refine lv_aload_n hx hb d_L_law_489 rfl (lv_at hl 2 rfl) ?_
  refine lv_aload_n hx hb d_L_law_490 rfl (lv_at hl 0 rfl) ?_
  refine lv_iload_n hx hb d_L_law_491 rfl (lv_at hl 3 rfl) ?_
  refine lv_iconst (v := (1 : Int32)) hx hb d_L_law_492 (by decide) ?_
  refine lv_iadd hx hb d_L_law_493 ?_
  refine va_sld hx hb hX hbl hbA hS (scr_1 hx0 hxL hL) d_L_law_494 ?_
  refine lv_aload_n hx hb d_L_law_495 rfl (lv_at hl 0 rfl) ?_
  refine lv_iload_n hx hb d_L_law_496 rfl (lv_at hl 3 rfl) ?_
  refine lv_iconst (v := (2 : Int32)) hx hb d_L_law_497 (by decide) ?_
  refine lv_iadd hx hb d_L_law_498 ?_
  refine va_sld hx hb hX hbl hbA hS (scr_2 hx0 hxL hL) d_L_law_499 ?_
  refine lv_aload_n hx hb d_L_law_500 rfl (lv_at hl 0 rfl) ?_
  refine lv_iload_n hx hb d_L_law_501 rfl (lv_at hl 3 rfl) ?_
  refine lv_iconst (v := (3 : Int32)) hx hb d_L_law_502 (by decide) ?_
  refine lv_iadd hx hb d_L_law_503 ?_
  refine va_sld hx hb hX hbl hbA hS (scr_3 hx0 hxL hL) d_L_law_504 ?_
  rw [ev1]
  rw [ev2]
  rw [ev3]
  refine q_L_55 hx hb hml hown hts hT hM (lz_20 hM) (c_M_fails l G τ (f_X_fails μ v1 v2 v3).2 v1 v2 v3 ) ⟨Nat.le_of_ble_eq_true rfl, Nat.le_of_ble_eq_true rfl⟩ hf0 (lv_room (Nat.le_of_ble_eq_true rfl)) hl.1 d_L_law_505 (fun H2 locs2 hM2 => ?_)
  refine lv_icmp_eq (tgt := 756) hx hb d_L_law_508 (by decide) (fun cc => ?_) (fun cc => ?_)
  · refine W.widen (k := cells + 5) (n := slots + 28) (by omega) (by omega) ?_
    exact kk τ _ H2 locs2 mExt.rf (st.2.2.2.2 _ (lv_k0 (fr_X_fails v1 v2 v3 keeps.rf) hLv)) hM2 st.2.2.2.1
  · exact absurd st.2.2.1 cc
set_option maxHeartbeats 4000000 in
set_option maxRecDepth 100000 in
theorem law_9 {p : Program} {l : Launch} {e : Env} {s : State} {m : MethodId} {below : List Frame} {meth : Method} {c : Code} {b L : Nat} {xs : Nat → Int32} (hL : L ≤ 4096) (C0 : lw_At p s m meth c b L xs) {G : mG} {τ : mTau} {μ : mMem} {H : Heap} {locs : List Loc} {cells slots N : Nat} {x : Int32} (hx0 : 0 ≤ x.toInt) (hxL : x.toInt + 8 ≤ L) (hT : mT G s) (hG : G.2.2.1 = s.heap.size ∧ G.2.2.2 = s.heap) (hM : mw G τ μ H locs) (hLv : mLv τ μ) (hR : RR N μ μ) (hN : N + 128 ≤ 1000000) (hf : cells + 5 ≤ room_1.cells ∧ slots + 28 ≤ room_1.slots) {ls : Array Slot} (hl : lv_has ls 4 [(0, .ref b), (1, .ref (τ.1 0 0)), (2, .ref (τ.1 20 0)), (3, .int x)]) (kk : ∀ (τ' : mTau) (μ' : mMem) (H' : Heap) (locs' : List Loc), mExt τ τ' → mLv τ' μ' → mw G τ' μ' H' locs' → RR (N + 128) μ' μ' → W p l e room_1 s m #[Value.ref b] below meth c H' locs' (cells + 5) (slots + 28) (lw_Z below #[Value.ref b] s) (F0 m 756 ls [])) : W p l e room_1 s m #[Value.ref b] below meth c H locs cells slots (lw_Z below #[Value.ref b] s) (F0 m 513 ls []) := by
  obtain ⟨hx, hb, hr, hml, hown, hts0, hX, hbl, hlocks, hgv⟩ := C0
  have hts : ∀ w ∈ gG, w.before #[Value.ref b] s = true := fun w h => hts0 w (List.mem_filter.mp h).1
  have hS := lawS hG hM
  have hbA : ¬ (fun q : Nat => s.heap.size ≤ q) b := Nat.not_le.mpr hbl
  have hf0 : cells ≤ room_1.cells ∧ slots ≤ room_1.slots := ⟨by omega, by omega⟩
  have hf1 : cells + 5 ≤ room_1.cells ∧ slots + 28 ≤ room_1.slots := hf
  have hf2 : cells + 2 ≤ room_1.cells ∧ slots + 14 ≤ room_1.slots := ⟨by omega, by omega⟩
  have hf3 := hf2
  refine lv_aload_n hx hb d_L_law_513 rfl (lv_at hl 1 rfl) ?_
  refine lv_aload_n hx hb d_L_law_514 rfl (lv_at hl 0 rfl) ?_
  refine lv_iload_n hx hb d_L_law_515 rfl (lv_at hl 3 rfl) ?_
  refine lv_iconst (v := (1 : Int32)) hx hb d_L_law_516 (by decide) ?_
  refine lv_iadd hx hb d_L_law_517 ?_
  refine va_sld hx hb hX hbl hbA hS (scr_1 hx0 hxL hL) d_L_law_518 ?_
  refine lv_aload_n hx hb d_L_law_519 rfl (lv_at hl 0 rfl) ?_
  refine lv_iload_n hx hb d_L_law_520 rfl (lv_at hl 3 rfl) ?_
  refine lv_iconst (v := (2 : Int32)) hx hb d_L_law_521 (by decide) ?_
  refine lv_iadd hx hb d_L_law_522 ?_
  refine va_sld hx hb hX hbl hbA hS (scr_2 hx0 hxL hL) d_L_law_523 ?_
  refine lv_aload_n hx hb d_L_law_524 rfl (lv_at hl 0 rfl) ?_
  refine lv_iload_n hx hb d_L_law_525 rfl (lv_at hl 3 rfl) ?_
  refine lv_iconst (v := (3 : Int32)) hx hb d_L_law_526 (by decide) ?_
  refine lv_iadd hx hb d_L_law_527 ?_
  refine va_sld hx hb hX hbl hbA hS (scr_3 hx0 hxL hL) d_L_law_528 ?_
  refine lv_i2l hx hb d_L_law_529 rfl ?_
  refine lv_bipush (v := (32 : Int32)) hx hb d_L_law_530 (by decide) ?_
  refine lv_lshl (v := ((xs (x + (3 : Int32)).toNatClampNeg).toInt64 <<< (((32 : Int32)).toInt64 &&& 63))) hx hb d_L_law_532 rfl ?_
  refine lv_aload_n hx hb d_L_law_533 rfl (lv_at hl 0 rfl) ?_
  refine lv_iload_n hx hb d_L_law_534 rfl (lv_at hl 3 rfl) ?_
  refine lv_iconst (v := (4 : Int32)) hx hb d_L_law_535 (by decide) ?_
  refine lv_iadd hx hb d_L_law_536 ?_
  refine va_sld hx hb hX hbl hbA hS (scr_4 hx0 hxL hL) d_L_law_537 ?_
  refine lv_i2l hx hb d_L_law_538 rfl ?_
  refine lv_ldc2 (v := (4294967295 : Int64)) hx hb hown (hts _ kw_constantLong_BuildCounterLaw_39_4294967295) d_L_law_539 ?_
  refine lv_land hx hb d_L_law_542 ?_
  refine lv_lor hx hb d_L_law_543 ?_
  generalize ev1 : (xs (x + (1 : Int32)).toNatClampNeg) = v1
  generalize ev2 : (xs (x + (2 : Int32)).toNatClampNeg) = v2
  generalize ev3 : (((xs (x + (3 : Int32)).toNatClampNeg).toInt64 <<< (((32 : Int32)).toInt64 &&& 63)) ||| ((xs (x + (4 : Int32)).toNatClampNeg).toInt64 &&& (4294967295 : Int64))) = v3
  refine q_L_56 hx hb hml hown hts hT hM (lz_0 hM) (c_X_call l G τ μ v1 v2 v3 (iX_of hR)) ⟨Nat.le_of_ble_eq_true rfl, Nat.le_of_ble_eq_true rfl⟩ hf0 (lv_room (Nat.le_of_ble_eq_true rfl)) hl.1 d_L_law_544 (fun H1 locs1 hM1 => ?_)
  have hM := hM1
  have hS := lawS hG hM1
  have st := st_of (A := (f_X_call μ v1 v2 v3).1 = (f_M_call (f_X_call μ v1 v2 v3).2 v1 v2 v3).1) hR (by omega) (k1_of (fr_X_call v1 v2 v3 keeps.rf)) (fr_M_call v1 v2 v3 keeps.rf) (fun h => z_call h (by omega) v1 v2 v3) (by omega)
  refine lv_aload_n hx hb d_L_law_547 rfl (lv_at hl 2 rfl) ?_
  refine lv_aload_n hx hb d_L_law_548 rfl (lv_at hl 0 rfl) ?_
  refine lv_iload_n hx hb d_L_law_549 rfl (lv_at hl 3 rfl) ?_
  refine lv_iconst (v := (1 : Int32)) hx hb d_L_law_550 (by decide) ?_
  refine lv_iadd hx hb d_L_law_551 ?_
  refine va_sld hx hb hX hbl hbA hS (scr_1 hx0 hxL hL) d_L_law_552 ?_
  refine lv_aload_n hx hb d_L_law_553 rfl (lv_at hl 0 rfl) ?_
  refine lv_iload_n hx hb d_L_law_554 rfl (lv_at hl 3 rfl) ?_
  refine lv_iconst (v := (2 : Int32)) hx hb d_L_law_555 (by decide) ?_
  refine lv_iadd hx hb d_L_law_556 ?_
  refine va_sld hx hb hX hbl hbA hS (scr_2 hx0 hxL hL) d_L_law_557 ?_
  refine lv_aload_n hx hb d_L_law_558 rfl (lv_at hl 0 rfl) ?_
  refine lv_iload_n hx hb d_L_law_559 rfl (lv_at hl 3 rfl) ?_
  refine lv_iconst (v := (3 : Int32)) hx hb d_L_law_560 (by decide) ?_
  refine lv_iadd hx hb d_L_law_561 ?_
  refine va_sld hx hb hX hbl hbA hS (scr_3 hx0 hxL hL) d_L_law_562 ?_
  refine lv_i2l hx hb d_L_law_563 rfl ?_
  refine lv_bipush (v := (32 : Int32)) hx hb d_L_law_564 (by decide) ?_
  refine lv_lshl (v := ((xs (x + (3 : Int32)).toNatClampNeg).toInt64 <<< (((32 : Int32)).toInt64 &&& 63))) hx hb d_L_law_566 rfl ?_
  refine lv_aload_n hx hb d_L_law_567 rfl (lv_at hl 0 rfl) ?_
  refine lv_iload_n hx hb d_L_law_568 rfl (lv_at hl 3 rfl) ?_
  refine lv_iconst (v := (4 : Int32)) hx hb d_L_law_569 (by decide) ?_
  refine lv_iadd hx hb d_L_law_570 ?_
  refine va_sld hx hb hX hbl hbA hS (scr_4 hx0 hxL hL) d_L_law_571 ?_
  refine lv_i2l hx hb d_L_law_572 rfl ?_
  refine lv_ldc2 (v := (4294967295 : Int64)) hx hb hown (hts _ kw_constantLong_BuildCounterLaw_39_4294967295) d_L_law_573 ?_
  refine lv_land hx hb d_L_law_576 ?_
  refine lv_lor hx hb d_L_law_577 ?_
  rw [ev1]
  rw [ev2]
  rw [ev3]
  refine q_L_60 hx hb hml hown hts hT hM (lz_20 hM) (c_M_call l G τ (f_X_call μ v1 v2 v3).2 v1 v2 v3 st.1 st.2.1.1) ⟨Nat.le_of_ble_eq_true rfl, Nat.le_of_ble_eq_true rfl⟩ hf0 (lv_room (Nat.le_of_ble_eq_true rfl)) hl.1 d_L_law_578 (fun H2 locs2 hM2 => ?_)
  refine W.lcmp hx hb d_L_law_581 ?_
  refine lv_if_eq (tgt := 756) hx hb d_L_law_582 (by decide) (fun cc => ?_) (fun cc => ?_)
  · refine W.widen (k := cells + 5) (n := slots + 28) (by omega) (by omega) ?_
    exact kk τ _ H2 locs2 mExt.rf (st.2.2.2.2 _ (lv_k0 (fr_X_call v1 v2 v3 keeps.rf) hLv)) hM2 st.2.2.2.1
  · exact absurd ((lg_cmp_eq _ _).mpr st.2.2.1) cc
