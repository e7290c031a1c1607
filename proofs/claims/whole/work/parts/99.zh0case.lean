set_option maxHeartbeats 1000000 in
theorem lc_0 {p : Program} {l : Launch} {e : Env} {s : State} {m : MethodId} {below : List Frame} {meth : Method} {cd : Code} {H : Heap} {locs : List Loc} {cells slots : Nat} {Q : State → Prop} {D : va_G} {cy : Nat → ClassId} {b L : Nat} {xs : Nat → Int32} {t : Nat} {ls : Array Slot} {fz : List FP} {ad mad : Nat → Nat} {c mm : St} {i0 i1 : IM} (C0 : LC p s m meth cd D cy b L xs) (I : LI D cy s fz ad c mad mm i0 i1 H locs) (ht : 6 * t + 6 ≤ L) (hl : lv_has ls 4 [(0, .ref b), (1, .ref (ad 99)), (2, .ref (mad 100)), (3, .int (nI (6 * t)))]) (hcs : cells ≤ 500000 ∧ slots ≤ 7000000) (kk : LK p l e s m below meth cd cells slots Q D cy b ls ad mad) : W p l e room_1 s m #[Value.ref b] below meth cd H locs cells slots Q (F0 m 212 ls []) := by
  have hx := C0.1.1.1
  have hb := C0.1.1.2.1
  obtain ⟨hw, hn, ha, hS, hRR, hi0, hi1⟩ := I
  obtain ⟨v, c', mm', e1, e2, hR, hF⟩ := Cl.ok hRR (fort_call (xs (6 * t + 1)) (xs (6 * t + 2)) hRR.1 hRR.2.1)
  refine lv_aload_n hx hb dL_212 rfl (lv_at hl 1 rfl) ?_
  refine g_arg (k := 1) C0 hS hl (by omega) (by decide) dL_213 dL_214 dL_215 dL_216 dL_217 ?_
  refine g_arg (k := 2) C0 hS hl (by omega) (by decide) dL_218 dL_219 dL_220 dL_221 dL_222 ?_
  refine w_ci (n := 2) (As := [.int (xs (6 * t + 1)), .int (xs (6 * t + 2))]) (rest := []) C0 hw hn ha hS (fun sz => tX11_fort l D cy ad fz hn.c sz (xs (6 * t + 1)) (xs (6 * t + 2)) c v c' e1) (gV k_449 k_450 k_451 k_1 k_452) qX11_fort ⟨Nat.le_of_ble_eq_true rfl, Nat.le_of_ble_eq_true rfl⟩ hcs rfl hl.1 rfl (Nat.le_of_ble_eq_true rfl) dL_223 (fun H locs hw hS => ?_)
  refine lv_aload_n hx hb dL_226 rfl (lv_at hl 2 rfl) ?_
  refine g_arg (k := 1) C0 hS hl (by omega) (by decide) dL_227 dL_228 dL_229 dL_230 dL_231 ?_
  refine g_arg (k := 2) C0 hS hl (by omega) (by decide) dL_232 dL_233 dL_234 dL_235 dL_236 ?_
  refine w_mi (n := 2) (As := [.int (xs (6 * t + 1)), .int (xs (6 * t + 2))]) (rest := [.int v]) C0 hw hn ha hS (fun sz => tX12_fort l D cy mad hn.m sz (xs (6 * t + 1)) (xs (6 * t + 2)) mm v mm' e2) (gV k_1357 k_1358 k_1359 k_14 k_1360) qX12_fort ⟨Nat.le_of_ble_eq_true rfl, Nat.le_of_ble_eq_true rfl⟩ hcs rfl hl.1 rfl (Nat.le_of_ble_eq_true rfl) dL_237 (fun H locs hw hS => ?_)
  refine lv_icmp_eq (tgt := 1416) hx hb dL_240 (by decide) (fun _ => ?_) (fun hc => absurd rfl hc)
  refine W.widen (k := cells + 30) (n := slots + 500) (by omega) (by omega) ?_
  exact kk fz ad c' mm' i0 i1 H locs rfl ⟨hw, hn, ha, hS, hR, hi0.f hF, hi1.f hF⟩
set_option maxHeartbeats 1000000 in
theorem lc_1 {p : Program} {l : Launch} {e : Env} {s : State} {m : MethodId} {below : List Frame} {meth : Method} {cd : Code} {H : Heap} {locs : List Loc} {cells slots : Nat} {Q : State → Prop} {D : va_G} {cy : Nat → ClassId} {b L : Nat} {xs : Nat → Int32} {t : Nat} {ls : Array Slot} {fz : List FP} {ad mad : Nat → Nat} {c mm : St} {i0 i1 : IM} (C0 : LC p s m meth cd D cy b L xs) (I : LI D cy s fz ad c mad mm i0 i1 H locs) (ht : 6 * t + 6 ≤ L) (hl : lv_has ls 4 [(0, .ref b), (1, .ref (ad 99)), (2, .ref (mad 100)), (3, .int (nI (6 * t)))]) (hcs : cells ≤ 500000 ∧ slots ≤ 7000000) (kk : LK p l e s m below meth cd cells slots Q D cy b ls ad mad) : W p l e room_1 s m #[Value.ref b] below meth cd H locs cells slots Q (F0 m 245 ls []) := by
  have hx := C0.1.1.1
  have hb := C0.1.1.2.1
  obtain ⟨hw, hn, ha, hS, hRR, hi0, hi1⟩ := I
  obtain ⟨v, c', mm', e1, e2, hR, hF⟩ := Cl.q hRR (of_both (xs (6 * t + 1)) (xs (6 * t + 2)) hRR.1)
  refine lv_aload_n hx hb dL_245 rfl (lv_at hl 1 rfl) ?_
  refine g_arg (k := 1) C0 hS hl (by omega) (by decide) dL_246 dL_247 dL_248 dL_249 dL_250 ?_
  refine g_arg (k := 2) C0 hS hl (by omega) (by decide) dL_251 dL_252 dL_253 dL_254 dL_255 ?_
  refine w_ci (n := 2) (As := [.int (xs (6 * t + 1)), .int (xs (6 * t + 2))]) (rest := []) C0 hw hn ha hS (fun sz => tX11_of l D cy ad fz hn.c sz (xs (6 * t + 1)) (xs (6 * t + 2)) c v c' e1) (gV k_473 k_474 k_475 k_1 k_476) qX11_of ⟨Nat.le_of_ble_eq_true rfl, Nat.le_of_ble_eq_true rfl⟩ hcs rfl hl.1 rfl (Nat.le_of_ble_eq_true rfl) dL_256 (fun H locs hw hS => ?_)
  refine lv_aload_n hx hb dL_259 rfl (lv_at hl 2 rfl) ?_
  refine g_arg (k := 1) C0 hS hl (by omega) (by decide) dL_260 dL_261 dL_262 dL_263 dL_264 ?_
  refine g_arg (k := 2) C0 hS hl (by omega) (by decide) dL_265 dL_266 dL_267 dL_268 dL_269 ?_
  refine w_mi (n := 2) (As := [.int (xs (6 * t + 1)), .int (xs (6 * t + 2))]) (rest := [.int v]) C0 hw hn ha hS (fun sz => tX12_of l D cy mad hn.m sz (xs (6 * t + 1)) (xs (6 * t + 2)) mm v mm' e2) (gV k_1367 k_1368 k_1369 k_14 k_1370) qX12_of ⟨Nat.le_of_ble_eq_true rfl, Nat.le_of_ble_eq_true rfl⟩ hcs rfl hl.1 rfl (Nat.le_of_ble_eq_true rfl) dL_270 (fun H locs hw hS => ?_)
  refine lv_icmp_eq (tgt := 1416) hx hb dL_273 (by decide) (fun _ => ?_) (fun hc => absurd rfl hc)
  refine W.widen (k := cells + 30) (n := slots + 500) (by omega) (by omega) ?_
  exact kk fz ad c' mm' i0 i1 H locs rfl ⟨hw, hn, ha, hS, hR, hi0.f hF, hi1.f hF⟩
set_option maxHeartbeats 1000000 in
theorem lc_2 {p : Program} {l : Launch} {e : Env} {s : State} {m : MethodId} {below : List Frame} {meth : Method} {cd : Code} {H : Heap} {locs : List Loc} {cells slots : Nat} {Q : State → Prop} {D : va_G} {cy : Nat → ClassId} {b L : Nat} {xs : Nat → Int32} {t : Nat} {ls : Array Slot} {fz : List FP} {ad mad : Nat → Nat} {c mm : St} {i0 i1 : IM} (C0 : LC p s m meth cd D cy b L xs) (I : LI D cy s fz ad c mad mm i0 i1 H locs) (ht : 6 * t + 6 ≤ L) (hl : lv_has ls 4 [(0, .ref b), (1, .ref (ad 99)), (2, .ref (mad 100)), (3, .int (nI (6 * t)))]) (hcs : cells ≤ 500000 ∧ slots ≤ 7000000) (kk : LK p l e s m below meth cd cells slots Q D cy b ls ad mad) : W p l e room_1 s m #[Value.ref b] below meth cd H locs cells slots Q (F0 m 278 ls []) := by
  have hx := C0.1.1.1
  have hb := C0.1.1.2.1
  obtain ⟨hw, hn, ha, hS, hRR, hi0, hi1⟩ := I
  obtain ⟨v, c', mm', e1, e2, hR, hF⟩ := Cl.ok hRR (sign_call (xs (6 * t + 1)) (xs (6 * t + 2)) (xs (6 * t + 3)) hRR.1 hRR.2.1)
  refine lv_aload_n hx hb dL_278 rfl (lv_at hl 1 rfl) ?_
  refine g_arg (k := 1) C0 hS hl (by omega) (by decide) dL_279 dL_280 dL_281 dL_282 dL_283 ?_
  refine g_arg (k := 2) C0 hS hl (by omega) (by decide) dL_284 dL_285 dL_286 dL_287 dL_288 ?_
  refine g_arg (k := 3) C0 hS hl (by omega) (by decide) dL_289 dL_290 dL_291 dL_292 dL_293 ?_
  refine w_ci (n := 3) (As := [.int (xs (6 * t + 1)), .int (xs (6 * t + 2)), .int (xs (6 * t + 3))]) (rest := []) C0 hw hn ha hS (fun sz => tX11_sign l D cy ad fz hn.c sz (xs (6 * t + 1)) (xs (6 * t + 2)) (xs (6 * t + 3)) c v c' e1) (gV k_488 k_489 k_490 k_1 k_491) qX11_sign ⟨Nat.le_of_ble_eq_true rfl, Nat.le_of_ble_eq_true rfl⟩ hcs rfl hl.1 rfl (Nat.le_of_ble_eq_true rfl) dL_294 (fun H locs hw hS => ?_)
  refine lv_aload_n hx hb dL_297 rfl (lv_at hl 2 rfl) ?_
  refine g_arg (k := 1) C0 hS hl (by omega) (by decide) dL_298 dL_299 dL_300 dL_301 dL_302 ?_
  refine g_arg (k := 2) C0 hS hl (by omega) (by decide) dL_303 dL_304 dL_305 dL_306 dL_307 ?_
  refine g_arg (k := 3) C0 hS hl (by omega) (by decide) dL_308 dL_309 dL_310 dL_311 dL_312 ?_
  refine w_mi (n := 3) (As := [.int (xs (6 * t + 1)), .int (xs (6 * t + 2)), .int (xs (6 * t + 3))]) (rest := [.int v]) C0 hw hn ha hS (fun sz => tX12_sign l D cy mad hn.m sz (xs (6 * t + 1)) (xs (6 * t + 2)) (xs (6 * t + 3)) mm v mm' e2) (gV k_1389 k_1390 k_1391 k_14 k_1392) qX12_sign ⟨Nat.le_of_ble_eq_true rfl, Nat.le_of_ble_eq_true rfl⟩ hcs rfl hl.1 rfl (Nat.le_of_ble_eq_true rfl) dL_313 (fun H locs hw hS => ?_)
  refine lv_icmp_eq (tgt := 1416) hx hb dL_316 (by decide) (fun _ => ?_) (fun hc => absurd rfl hc)
  refine W.widen (k := cells + 30) (n := slots + 500) (by omega) (by omega) ?_
  exact kk fz ad c' mm' i0 i1 H locs rfl ⟨hw, hn, ha, hS, hR, hi0.f hF, hi1.f hF⟩
set_option maxHeartbeats 1000000 in
theorem lc_3 {p : Program} {l : Launch} {e : Env} {s : State} {m : MethodId} {below : List Frame} {meth : Method} {cd : Code} {H : Heap} {locs : List Loc} {cells slots : Nat} {Q : State → Prop} {D : va_G} {cy : Nat → ClassId} {b L : Nat} {xs : Nat → Int32} {t : Nat} {ls : Array Slot} {fz : List FP} {ad mad : Nat → Nat} {c mm : St} {i0 i1 : IM} (C0 : LC p s m meth cd D cy b L xs) (I : LI D cy s fz ad c mad mm i0 i1 H locs) (ht : 6 * t + 6 ≤ L) (hl : lv_has ls 4 [(0, .ref b), (1, .ref (ad 99)), (2, .ref (mad 100)), (3, .int (nI (6 * t)))]) (hcs : cells ≤ 500000 ∧ slots ≤ 7000000) (kk : LK p l e s m below meth cd cells slots Q D cy b ls ad mad) : W p l e room_1 s m #[Value.ref b] below meth cd H locs cells slots Q (F0 m 321 ls []) := by
  have hx := C0.1.1.1
  have hb := C0.1.1.2.1
  obtain ⟨hw, hn, ha, hS, hRR, hi0, hi1⟩ := I
  obtain ⟨v, c', mm', e1, e2, hR, hF⟩ := Cl.ok hRR (road_call (xs (6 * t + 1)) (xs (6 * t + 2)) (xs (6 * t + 3)) hRR.1 hRR.2.1)
  refine lv_aload_n hx hb dL_321 rfl (lv_at hl 1 rfl) ?_
  refine g_arg (k := 1) C0 hS hl (by omega) (by decide) dL_322 dL_323 dL_324 dL_325 dL_326 ?_
  refine g_arg (k := 2) C0 hS hl (by omega) (by decide) dL_327 dL_328 dL_329 dL_330 dL_331 ?_
  refine g_arg (k := 3) C0 hS hl (by omega) (by decide) dL_332 dL_333 dL_334 dL_335 dL_336 ?_
  refine w_ci (n := 3) (As := [.int (xs (6 * t + 1)), .int (xs (6 * t + 2)), .int (xs (6 * t + 3))]) (rest := []) C0 hw hn ha hS (fun sz => tX11_road l D cy ad fz hn.c sz (xs (6 * t + 1)) (xs (6 * t + 2)) (xs (6 * t + 3)) c v c' e1) (gV k_492 k_493 k_494 k_1 k_495) qX11_road ⟨Nat.le_of_ble_eq_true rfl, Nat.le_of_ble_eq_true rfl⟩ hcs rfl hl.1 rfl (Nat.le_of_ble_eq_true rfl) dL_337 (fun H locs hw hS => ?_)
  refine lv_aload_n hx hb dL_340 rfl (lv_at hl 2 rfl) ?_
  refine g_arg (k := 1) C0 hS hl (by omega) (by decide) dL_341 dL_342 dL_343 dL_344 dL_345 ?_
  refine g_arg (k := 2) C0 hS hl (by omega) (by decide) dL_346 dL_347 dL_348 dL_349 dL_350 ?_
  refine g_arg (k := 3) C0 hS hl (by omega) (by decide) dL_351 dL_352 dL_353 dL_354 dL_355 ?_
  refine w_mi (n := 3) (As := [.int (xs (6 * t + 1)), .int (xs (6 * t + 2)), .int (xs (6 * t + 3))]) (rest := [.int v]) C0 hw hn ha hS (fun sz => tX12_road l D cy mad hn.m sz (xs (6 * t + 1)) (xs (6 * t + 2)) (xs (6 * t + 3)) mm v mm' e2) (gV k_1403 k_1404 k_1405 k_14 k_1406) qX12_road ⟨Nat.le_of_ble_eq_true rfl, Nat.le_of_ble_eq_true rfl⟩ hcs rfl hl.1 rfl (Nat.le_of_ble_eq_true rfl) dL_356 (fun H locs hw hS => ?_)
  refine lv_icmp_eq (tgt := 1416) hx hb dL_359 (by decide) (fun _ => ?_) (fun hc => absurd rfl hc)
  refine W.widen (k := cells + 30) (n := slots + 500) (by omega) (by omega) ?_
  exact kk fz ad c' mm' i0 i1 H locs rfl ⟨hw, hn, ha, hS, hR, hi0.f hF, hi1.f hF⟩
set_option maxHeartbeats 1000000 in
theorem lc_4 {p : Program} {l : Launch} {e : Env} {s : State} {m : MethodId} {below : List Frame} {meth : Method} {cd : Code} {H : Heap} {locs : List Loc} {cells slots : Nat} {Q : State → Prop} {D : va_G} {cy : Nat → ClassId} {b L : Nat} {xs : Nat → Int32} {t : Nat} {ls : Array Slot} {fz : List FP} {ad mad : Nat → Nat} {c mm : St} {i0 i1 : IM} (C0 : LC p s m meth cd D cy b L xs) (I : LI D cy s fz ad c mad mm i0 i1 H locs) (ht : 6 * t + 6 ≤ L) (hl : lv_has ls 4 [(0, .ref b), (1, .ref (ad 99)), (2, .ref (mad 100)), (3, .int (nI (6 * t)))]) (hcs : cells ≤ 500000 ∧ slots ≤ 7000000) (kk : LK p l e s m below meth cd cells slots Q D cy b ls ad mad) : W p l e room_1 s m #[Value.ref b] below meth cd H locs cells slots Q (F0 m 364 ls []) := by
  have hx := C0.1.1.1
  have hb := C0.1.1.2.1
  obtain ⟨hw, hn, ha, hS, hRR, hi0, hi1⟩ := I
  obtain ⟨v, c', mm', e1, e2, hR, hF⟩ := Cl.ok hRR (fame_call (xs (6 * t + 1)) (xs (6 * t + 2)) hRR.1 hRR.2.1)
  refine lv_aload_n hx hb dL_364 rfl (lv_at hl 1 rfl) ?_
  refine g_arg (k := 1) C0 hS hl (by omega) (by decide) dL_365 dL_366 dL_367 dL_368 dL_369 ?_
  refine g_arg (k := 2) C0 hS hl (by omega) (by decide) dL_370 dL_371 dL_372 dL_373 dL_374 ?_
  refine w_ci (n := 2) (As := [.int (xs (6 * t + 1)), .int (xs (6 * t + 2))]) (rest := []) C0 hw hn ha hS (fun sz => tX11_fame l D cy ad fz hn.c sz (xs (6 * t + 1)) (xs (6 * t + 2)) c v c' e1) (gV k_496 k_497 k_498 k_1 k_499) qX11_fame ⟨Nat.le_of_ble_eq_true rfl, Nat.le_of_ble_eq_true rfl⟩ hcs rfl hl.1 rfl (Nat.le_of_ble_eq_true rfl) dL_375 (fun H locs hw hS => ?_)
  refine lv_aload_n hx hb dL_378 rfl (lv_at hl 2 rfl) ?_
  refine g_arg (k := 1) C0 hS hl (by omega) (by decide) dL_379 dL_380 dL_381 dL_382 dL_383 ?_
  refine g_arg (k := 2) C0 hS hl (by omega) (by decide) dL_384 dL_385 dL_386 dL_387 dL_388 ?_
  refine w_mi (n := 2) (As := [.int (xs (6 * t + 1)), .int (xs (6 * t + 2))]) (rest := [.int v]) C0 hw hn ha hS (fun sz => tX12_fame l D cy mad hn.m sz (xs (6 * t + 1)) (xs (6 * t + 2)) mm v mm' e2) (gV k_1407 k_1408 k_1409 k_14 k_1410) qX12_fame ⟨Nat.le_of_ble_eq_true rfl, Nat.le_of_ble_eq_true rfl⟩ hcs rfl hl.1 rfl (Nat.le_of_ble_eq_true rfl) dL_389 (fun H locs hw hS => ?_)
  refine lv_icmp_eq (tgt := 1416) hx hb dL_392 (by decide) (fun _ => ?_) (fun hc => absurd rfl hc)
  refine W.widen (k := cells + 30) (n := slots + 500) (by omega) (by omega) ?_
  exact kk fz ad c' mm' i0 i1 H locs rfl ⟨hw, hn, ha, hS, hR, hi0.f hF, hi1.f hF⟩
set_option maxHeartbeats 1000000 in
theorem lc_5 {p : Program} {l : Launch} {e : Env} {s : State} {m : MethodId} {below : List Frame} {meth : Method} {cd : Code} {H : Heap} {locs : List Loc} {cells slots : Nat} {Q : State → Prop} {D : va_G} {cy : Nat → ClassId} {b L : Nat} {xs : Nat → Int32} {t : Nat} {ls : Array Slot} {fz : List FP} {ad mad : Nat → Nat} {c mm : St} {i0 i1 : IM} (C0 : LC p s m meth cd D cy b L xs) (I : LI D cy s fz ad c mad mm i0 i1 H locs) (ht : 6 * t + 6 ≤ L) (hl : lv_has ls 4 [(0, .ref b), (1, .ref (ad 99)), (2, .ref (mad 100)), (3, .int (nI (6 * t)))]) (hcs : cells ≤ 500000 ∧ slots ≤ 7000000) (kk : LK p l e s m below meth cd cells slots Q D cy b ls ad mad) : W p l e room_1 s m #[Value.ref b] below meth cd H locs cells slots Q (F0 m 397 ls []) := by
  have hx := C0.1.1.1
  have hb := C0.1.1.2.1
  obtain ⟨hw, hn, ha, hS, hRR, hi0, hi1⟩ := I
  obtain ⟨v, c', mm', e1, e2, hR, hF⟩ := Cl.q hRR (asks_both (xs (6 * t + 1)) (xs (6 * t + 2)) (xs (6 * t + 3)) hRR.1)
  refine lv_aload_n hx hb dL_397 rfl (lv_at hl 1 rfl) ?_
  refine g_arg (k := 1) C0 hS hl (by omega) (by decide) dL_398 dL_399 dL_400 dL_401 dL_402 ?_
  refine g_arg (k := 2) C0 hS hl (by omega) (by decide) dL_403 dL_404 dL_405 dL_406 dL_407 ?_
  refine g_arg (k := 3) C0 hS hl (by omega) (by decide) dL_408 dL_409 dL_410 dL_411 dL_412 ?_
  refine w_ci (n := 3) (As := [.int (xs (6 * t + 1)), .int (xs (6 * t + 2)), .int (xs (6 * t + 3))]) (rest := []) C0 hw hn ha hS (fun sz => tX11_asks l D cy ad fz hn.c sz (xs (6 * t + 1)) (xs (6 * t + 2)) (xs (6 * t + 3)) c v c' e1) (gV k_500 k_501 k_502 k_1 k_503) qX11_asks ⟨Nat.le_of_ble_eq_true rfl, Nat.le_of_ble_eq_true rfl⟩ hcs rfl hl.1 rfl (Nat.le_of_ble_eq_true rfl) dL_413 (fun H locs hw hS => ?_)
  refine lv_aload_n hx hb dL_416 rfl (lv_at hl 2 rfl) ?_
  refine g_arg (k := 1) C0 hS hl (by omega) (by decide) dL_417 dL_418 dL_419 dL_420 dL_421 ?_
  refine g_arg (k := 2) C0 hS hl (by omega) (by decide) dL_422 dL_423 dL_424 dL_425 dL_426 ?_
  refine g_arg (k := 3) C0 hS hl (by omega) (by decide) dL_427 dL_428 dL_429 dL_430 dL_431 ?_
  refine w_mi (n := 3) (As := [.int (xs (6 * t + 1)), .int (xs (6 * t + 2)), .int (xs (6 * t + 3))]) (rest := [.int v]) C0 hw hn ha hS (fun sz => tX12_asks l D cy mad hn.m sz (xs (6 * t + 1)) (xs (6 * t + 2)) (xs (6 * t + 3)) mm v mm' e2) (gV k_1562 k_1563 k_1564 k_14 k_1565) qX12_asks ⟨Nat.le_of_ble_eq_true rfl, Nat.le_of_ble_eq_true rfl⟩ hcs rfl hl.1 rfl (Nat.le_of_ble_eq_true rfl) dL_432 (fun H locs hw hS => ?_)
  refine lv_icmp_eq (tgt := 1416) hx hb dL_435 (by decide) (fun _ => ?_) (fun hc => absurd rfl hc)
  refine W.widen (k := cells + 30) (n := slots + 500) (by omega) (by omega) ?_
  exact kk fz ad c' mm' i0 i1 H locs rfl ⟨hw, hn, ha, hS, hR, hi0.f hF, hi1.f hF⟩
set_option maxHeartbeats 1000000 in
theorem lc_6 {p : Program} {l : Launch} {e : Env} {s : State} {m : MethodId} {below : List Frame} {meth : Method} {cd : Code} {H : Heap} {locs : List Loc} {cells slots : Nat} {Q : State → Prop} {D : va_G} {cy : Nat → ClassId} {b L : Nat} {xs : Nat → Int32} {t : Nat} {ls : Array Slot} {fz : List FP} {ad mad : Nat → Nat} {c mm : St} {i0 i1 : IM} (C0 : LC p s m meth cd D cy b L xs) (I : LI D cy s fz ad c mad mm i0 i1 H locs) (ht : 6 * t + 6 ≤ L) (hl : lv_has ls 4 [(0, .ref b), (1, .ref (ad 99)), (2, .ref (mad 100)), (3, .int (nI (6 * t)))]) (hcs : cells ≤ 500000 ∧ slots ≤ 7000000) (kk : LK p l e s m below meth cd cells slots Q D cy b ls ad mad) : W p l e room_1 s m #[Value.ref b] below meth cd H locs cells slots Q (F0 m 440 ls []) := by
  have hx := C0.1.1.1
  have hb := C0.1.1.2.1
  obtain ⟨hw, hn, ha, hS, hRR, hi0, hi1⟩ := I
  obtain ⟨v, c', mm', e1, e2, hR, hF⟩ := Cl.ok hRR (terms_call (xs (6 * t + 1)) (xs (6 * t + 2)) hRR.1 hRR.2.1)
  refine lv_aload_n hx hb dL_440 rfl (lv_at hl 1 rfl) ?_
  refine g_arg (k := 1) C0 hS hl (by omega) (by decide) dL_441 dL_442 dL_443 dL_444 dL_445 ?_
  refine g_arg (k := 2) C0 hS hl (by omega) (by decide) dL_446 dL_447 dL_448 dL_449 dL_450 ?_
  refine w_ci (n := 2) (As := [.int (xs (6 * t + 1)), .int (xs (6 * t + 2))]) (rest := []) C0 hw hn ha hS (fun sz => tX11_terms l D cy ad fz hn.c sz (xs (6 * t + 1)) (xs (6 * t + 2)) c v c' e1) (gV k_555 k_556 k_557 k_1 k_558) qX11_terms ⟨Nat.le_of_ble_eq_true rfl, Nat.le_of_ble_eq_true rfl⟩ hcs rfl hl.1 rfl (Nat.le_of_ble_eq_true rfl) dL_451 (fun H locs hw hS => ?_)
  refine lv_aload_n hx hb dL_454 rfl (lv_at hl 2 rfl) ?_
  refine g_arg (k := 1) C0 hS hl (by omega) (by decide) dL_455 dL_456 dL_457 dL_458 dL_459 ?_
  refine g_arg (k := 2) C0 hS hl (by omega) (by decide) dL_460 dL_461 dL_462 dL_463 dL_464 ?_
  refine w_mi (n := 2) (As := [.int (xs (6 * t + 1)), .int (xs (6 * t + 2))]) (rest := [.int v]) C0 hw hn ha hS (fun sz => tX12_terms l D cy mad hn.m sz (xs (6 * t + 1)) (xs (6 * t + 2)) mm v mm' e2) (gV k_1411 k_1412 k_1413 k_14 k_1414) qX12_terms ⟨Nat.le_of_ble_eq_true rfl, Nat.le_of_ble_eq_true rfl⟩ hcs rfl hl.1 rfl (Nat.le_of_ble_eq_true rfl) dL_465 (fun H locs hw hS => ?_)
  refine lv_icmp_eq (tgt := 1416) hx hb dL_468 (by decide) (fun _ => ?_) (fun hc => absurd rfl hc)
  refine W.widen (k := cells + 30) (n := slots + 500) (by omega) (by omega) ?_
  exact kk fz ad c' mm' i0 i1 H locs rfl ⟨hw, hn, ha, hS, hR, hi0.f hF, hi1.f hF⟩
set_option maxHeartbeats 1000000 in
theorem lc_7 {p : Program} {l : Launch} {e : Env} {s : State} {m : MethodId} {below : List Frame} {meth : Method} {cd : Code} {H : Heap} {locs : List Loc} {cells slots : Nat} {Q : State → Prop} {D : va_G} {cy : Nat → ClassId} {b L : Nat} {xs : Nat → Int32} {t : Nat} {ls : Array Slot} {fz : List FP} {ad mad : Nat → Nat} {c mm : St} {i0 i1 : IM} (C0 : LC p s m meth cd D cy b L xs) (I : LI D cy s fz ad c mad mm i0 i1 H locs) (ht : 6 * t + 6 ≤ L) (hl : lv_has ls 4 [(0, .ref b), (1, .ref (ad 99)), (2, .ref (mad 100)), (3, .int (nI (6 * t)))]) (hcs : cells ≤ 500000 ∧ slots ≤ 7000000) (kk : LK p l e s m below meth cd cells slots Q D cy b ls ad mad) : W p l e room_1 s m #[Value.ref b] below meth cd H locs cells slots Q (F0 m 473 ls []) := by
  have hx := C0.1.1.1
  have hb := C0.1.1.2.1
  obtain ⟨hw, hn, ha, hS, hRR, hi0, hi1⟩ := I
  obtain ⟨v, c', mm', e1, e2, hR, hF⟩ := Cl.t hRR (feed_call (xs (6 * t + 1)) (xs (6 * t + 2)) (xs (6 * t + 3)) (xs (6 * t + 4)) (xs (6 * t + 5)) hRR.2.2.1)
  refine lv_aload_n hx hb dL_473 rfl (lv_at hl 1 rfl) ?_
  refine g_arg (k := 1) C0 hS hl (by omega) (by decide) dL_474 dL_475 dL_476 dL_477 dL_478 ?_
  refine g_arg (k := 2) C0 hS hl (by omega) (by decide) dL_479 dL_480 dL_481 dL_482 dL_483 ?_
  refine g_arg (k := 3) C0 hS hl (by omega) (by decide) dL_484 dL_485 dL_486 dL_487 dL_488 ?_
  refine g_arg (k := 4) C0 hS hl (by omega) (by decide) dL_489 dL_490 dL_491 dL_492 dL_493 ?_
  refine g_arg (k := 5) C0 hS hl (by omega) (by decide) dL_494 dL_495 dL_496 dL_497 dL_498 ?_
  refine w_ci (n := 5) (As := [.int (xs (6 * t + 1)), .int (xs (6 * t + 2)), .int (xs (6 * t + 3)), .int (xs (6 * t + 4)), .int (xs (6 * t + 5))]) (rest := []) C0 hw hn ha hS (fun sz => tX11_feed l D cy ad fz hn.c sz (xs (6 * t + 1)) (xs (6 * t + 2)) (xs (6 * t + 3)) (xs (6 * t + 4)) (xs (6 * t + 5)) c v c' e1) (gV k_567 k_568 k_569 k_1 k_570) qX11_feed ⟨Nat.le_of_ble_eq_true rfl, Nat.le_of_ble_eq_true rfl⟩ hcs rfl hl.1 rfl (Nat.le_of_ble_eq_true rfl) dL_499 (fun H locs hw hS => ?_)
  refine lv_aload_n hx hb dL_502 rfl (lv_at hl 2 rfl) ?_
  refine g_arg (k := 1) C0 hS hl (by omega) (by decide) dL_503 dL_504 dL_505 dL_506 dL_507 ?_
  refine g_arg (k := 2) C0 hS hl (by omega) (by decide) dL_508 dL_509 dL_510 dL_511 dL_512 ?_
  refine g_arg (k := 3) C0 hS hl (by omega) (by decide) dL_513 dL_514 dL_515 dL_516 dL_517 ?_
  refine g_arg (k := 4) C0 hS hl (by omega) (by decide) dL_518 dL_519 dL_520 dL_521 dL_522 ?_
  refine g_arg (k := 5) C0 hS hl (by omega) (by decide) dL_523 dL_524 dL_525 dL_526 dL_527 ?_
  refine w_mi (n := 5) (As := [.int (xs (6 * t + 1)), .int (xs (6 * t + 2)), .int (xs (6 * t + 3)), .int (xs (6 * t + 4)), .int (xs (6 * t + 5))]) (rest := [.int v]) C0 hw hn ha hS (fun sz => tX12_feed l D cy mad hn.m sz (xs (6 * t + 1)) (xs (6 * t + 2)) (xs (6 * t + 3)) (xs (6 * t + 4)) (xs (6 * t + 5)) mm v mm' e2) (gV k_1425 k_1426 k_1427 k_14 k_1428) qX12_feed ⟨Nat.le_of_ble_eq_true rfl, Nat.le_of_ble_eq_true rfl⟩ hcs rfl hl.1 rfl (Nat.le_of_ble_eq_true rfl) dL_528 (fun H locs hw hS => ?_)
  refine lv_icmp_eq (tgt := 1416) hx hb dL_531 (by decide) (fun _ => ?_) (fun hc => absurd rfl hc)
  refine W.widen (k := cells + 30) (n := slots + 500) (by omega) (by omega) ?_
  exact kk fz ad c' mm' i0 i1 H locs rfl ⟨hw, hn, ha, hS, hR, hi0.f hF, hi1.f hF⟩
set_option maxHeartbeats 1000000 in
theorem lc_8 {p : Program} {l : Launch} {e : Env} {s : State} {m : MethodId} {below : List Frame} {meth : Method} {cd : Code} {H : Heap} {locs : List Loc} {cells slots : Nat} {Q : State → Prop} {D : va_G} {cy : Nat → ClassId} {b L : Nat} {xs : Nat → Int32} {t : Nat} {ls : Array Slot} {fz : List FP} {ad mad : Nat → Nat} {c mm : St} {i0 i1 : IM} (C0 : LC p s m meth cd D cy b L xs) (I : LI D cy s fz ad c mad mm i0 i1 H locs) (ht : 6 * t + 6 ≤ L) (hl : lv_has ls 4 [(0, .ref b), (1, .ref (ad 99)), (2, .ref (mad 100)), (3, .int (nI (6 * t)))]) (hcs : cells ≤ 500000 ∧ slots ≤ 7000000) (kk : LK p l e s m below meth cd cells slots Q D cy b ls ad mad) : W p l e room_1 s m #[Value.ref b] below meth cd H locs cells slots Q (F0 m 536 ls []) := by
  have hx := C0.1.1.1
  have hb := C0.1.1.2.1
  obtain ⟨hw, hn, ha, hS, hRR, hi0, hi1⟩ := I
  obtain ⟨v, c', mm', e1, e2, hR, hF⟩ := Cl.t hRR (end_call (xs (6 * t + 1)) hRR.2.2.1)
  refine lv_aload_n hx hb dL_536 rfl (lv_at hl 1 rfl) ?_
  refine g_arg (k := 1) C0 hS hl (by omega) (by decide) dL_537 dL_538 dL_539 dL_540 dL_541 ?_
  refine w_ci (n := 1) (As := [.int (xs (6 * t + 1))]) (rest := []) C0 hw hn ha hS (fun sz => tX11_end l D cy ad fz hn.c sz (xs (6 * t + 1)) c v c' e1) (gV k_575 k_576 k_577 k_1 k_578) qX11_end ⟨Nat.le_of_ble_eq_true rfl, Nat.le_of_ble_eq_true rfl⟩ hcs rfl hl.1 rfl (Nat.le_of_ble_eq_true rfl) dL_542 (fun H locs hw hS => ?_)
  refine lv_aload_n hx hb dL_545 rfl (lv_at hl 2 rfl) ?_
  refine g_arg (k := 1) C0 hS hl (by omega) (by decide) dL_546 dL_547 dL_548 dL_549 dL_550 ?_
  refine w_mi (n := 1) (As := [.int (xs (6 * t + 1))]) (rest := [.int v]) C0 hw hn ha hS (fun sz => tX12_end l D cy mad hn.m sz (xs (6 * t + 1)) mm v mm' e2) (gV k_1433 k_1434 k_1435 k_14 k_1436) qX12_end ⟨Nat.le_of_ble_eq_true rfl, Nat.le_of_ble_eq_true rfl⟩ hcs rfl hl.1 rfl (Nat.le_of_ble_eq_true rfl) dL_551 (fun H locs hw hS => ?_)
  refine lv_icmp_eq (tgt := 1416) hx hb dL_554 (by decide) (fun _ => ?_) (fun hc => absurd rfl hc)
  refine W.widen (k := cells + 30) (n := slots + 500) (by omega) (by omega) ?_
  exact kk fz ad c' mm' i0 i1 H locs rfl ⟨hw, hn, ha, hS, hR, hi0.f hF, hi1.f hF⟩
set_option maxHeartbeats 1000000 in
theorem lc_9 {p : Program} {l : Launch} {e : Env} {s : State} {m : MethodId} {below : List Frame} {meth : Method} {cd : Code} {H : Heap} {locs : List Loc} {cells slots : Nat} {Q : State → Prop} {D : va_G} {cy : Nat → ClassId} {b L : Nat} {xs : Nat → Int32} {t : Nat} {ls : Array Slot} {fz : List FP} {ad mad : Nat → Nat} {c mm : St} {i0 i1 : IM} (C0 : LC p s m meth cd D cy b L xs) (I : LI D cy s fz ad c mad mm i0 i1 H locs) (ht : 6 * t + 6 ≤ L) (hl : lv_has ls 4 [(0, .ref b), (1, .ref (ad 99)), (2, .ref (mad 100)), (3, .int (nI (6 * t)))]) (hcs : cells ≤ 500000 ∧ slots ≤ 7000000) (kk : LK p l e s m below meth cd cells slots Q D cy b ls ad mad) : W p l e room_1 s m #[Value.ref b] below meth cd H locs cells slots Q (F0 m 559 ls []) := by
  have hx := C0.1.1.1
  have hb := C0.1.1.2.1
  obtain ⟨hw, hn, ha, hS, hRR, hi0, hi1⟩ := I
  obtain ⟨v, c', mm', e1, e2, hR, hF⟩ := row_call hRR
  refine lv_aload_n hx hb dL_559 rfl (lv_at hl 1 rfl) ?_
  refine w_ci (n := 0) (As := []) (rest := []) C0 hw hn ha hS (fun sz => tX11_row l D cy ad fz hn.c sz c v c' e1) (gV k_579 k_580 k_581 k_1 k_582) qX11_row ⟨Nat.le_of_ble_eq_true rfl, Nat.le_of_ble_eq_true rfl⟩ hcs rfl hl.1 rfl (Nat.le_of_ble_eq_true rfl) dL_560 (fun H locs hw hS => ?_)
  refine lv_aload_n hx hb dL_563 rfl (lv_at hl 2 rfl) ?_
  refine w_mi (n := 0) (As := []) (rest := [.int v]) C0 hw hn ha hS (fun sz => tX12_row l D cy mad hn.m sz mm v mm' e2) (gV k_1417 k_1418 k_1419 k_14 k_1420) qX12_row ⟨Nat.le_of_ble_eq_true rfl, Nat.le_of_ble_eq_true rfl⟩ hcs rfl hl.1 rfl (Nat.le_of_ble_eq_true rfl) dL_564 (fun H locs hw hS => ?_)
  refine lv_icmp_eq (tgt := 1416) hx hb dL_567 (by decide) (fun _ => ?_) (fun hc => absurd rfl hc)
  refine W.widen (k := cells + 30) (n := slots + 500) (by omega) (by omega) ?_
  exact kk fz ad c' mm' i0 i1 H locs rfl ⟨hw, hn, ha, hS, hR, hi0.f hF, hi1.f hF⟩
