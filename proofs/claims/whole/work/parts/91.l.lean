/-! the law's 41 cases (printed by genl.py) -/
theorem law_c0 {p : Program} {l : Launch} {e : Env} {s : State} {m : MethodId} {b : Nat} {below : List Frame} {meth : Method} {c : Code} {D : va_G} {kc : Nat → ClassId} {kd : ClassId} {ad am : Nat → Nat} {o1 o2 L : Nat} {xs : Nat → Int32} (C : LC p l s m b c D kc kd L xs) {Q : State → Prop} {cR : Int} {x mm : SS} (h : R cR x mm) (hc : 0 ≤ cR ∧ cR ≤ 1999990000) {i5 : Int32} {sv : Nat → Int32} (hsv : ∀ k, k < 9 → vp_in (i5 + Int32.ofNat k) L ∧ xs (i5 + Int32.ofNat k).toNatClampNeg = sv k) {cells slots : Nat} (hce : cells + 300 ≤ 603072) (hsl : slots + 5400 ≤ 7182442) (f : Nat → Int64) (g : Nat → UInt64) (next : ∀ (x2 m2 : SS) (f2 : Nat → Int64) (g2 : Nat → UInt64), R (cR + 2000) x2 m2 → LZ p l e s m b below meth c D kc kd ad am o1 o2 Q (cells + 300) (slots + 5400) f2 g2 x2 m2 2168 i5) : LZ p l e s m b below meth c D kc kd ad am o1 o2 Q cells slots f g x mm 224 i5 := by
  have S := C.S
  have hx := S.1
  have hb := S.2.1
  have hA0 : ∀ z, s.heap.size ≤ z → s.heap.size ≤ z := fun z hz => hz
  obtain ⟨kM, kX, hok⟩ := op_write h (sv 1) (sv 2) (sv 3) (sv 4) (sv 5) (((sv 6).toUInt32 % 65536).toInt32) (sv 7) (sv 8) (rg_i2c (sv 6))
  refine z_aload_n (j := 1) hx hb dL_law_224 rfl rfl ?_
  refine zl_argI (k := 1) (j0 := 0) (j5 := 5) S C.hX C.hbl C.hbA (by decide) rfl rfl (hsv 1 (by decide)).1 (hsv 1 (by decide)).2 dL_law_225 dL_law_226 dL_law_228 dL_law_229 dL_law_230 ?_
  refine zl_argI (k := 2) (j0 := 0) (j5 := 5) S C.hX C.hbl C.hbA (by decide) rfl rfl (hsv 2 (by decide)).1 (hsv 2 (by decide)).2 dL_law_231 dL_law_232 dL_law_234 dL_law_235 dL_law_236 ?_
  refine zl_argI (k := 3) (j0 := 0) (j5 := 5) S C.hX C.hbl C.hbA (by decide) rfl rfl (hsv 3 (by decide)).1 (hsv 3 (by decide)).2 dL_law_237 dL_law_238 dL_law_240 dL_law_241 dL_law_242 ?_
  refine zl_argI (k := 4) (j0 := 0) (j5 := 5) S C.hX C.hbl C.hbA (by decide) rfl rfl (hsv 4 (by decide)).1 (hsv 4 (by decide)).2 dL_law_243 dL_law_244 dL_law_246 dL_law_247 dL_law_248 ?_
  refine zl_argI (k := 5) (j0 := 0) (j5 := 5) S C.hX C.hbl C.hbA (by decide) rfl rfl (hsv 5 (by decide)).1 (hsv 5 (by decide)).2 dL_law_249 dL_law_250 dL_law_252 dL_law_253 dL_law_254 ?_
  refine zl_argB (k := 6) (j0 := 0) (j5 := 5) S C.hX C.hbl C.hbA (by decide) rfl rfl (hsv 6 (by decide)).1 (hsv 6 (by decide)).2 dL_law_255 dL_law_256 dL_law_258 dL_law_260 dL_law_261 ?_
  refine z_i2c hx hb dL_law_262 ?_
  refine zl_argB (k := 7) (j0 := 0) (j5 := 5) S C.hX C.hbl C.hbA (by decide) rfl rfl (hsv 7 (by decide)).1 (hsv 7 (by decide)).2 dL_law_263 dL_law_264 dL_law_266 dL_law_268 dL_law_269 ?_
  refine zl_argB (k := 8) (j0 := 0) (j5 := 5) S C.hX C.hbl C.hbA (by decide) rfl rfl (hsv 8 (by decide)).1 (hsv 8 (by decide)).2 dL_law_270 dL_law_271 dL_law_273 dL_law_275 dL_law_276 ?_
  refine z_aload_n (j := 3) hx hb dL_law_277 rfl rfl ?_
  refine zl_callW1 (As := [.ref (ad 0), .int (sv 1), .int (sv 2), .int (sv 3), .int (sv 4), .int (sv 5), .int (((sv 6).toUInt32 % 65536).toInt32), .int (sv 7), .int (sv 8), .ref o1]) S C.hK C.hKd C.hE (ctL_write l C.hl D kc kd ad o1 x f (sv 1) (sv 2) (sv 3) (sv 4) (sv 5) (((sv 6).toUInt32 % 65536).toInt32) (sv 7) (sv 8) (gI (fX11_write mm (sv 1) (sv 2) (sv 3) (sv 4) (sv 5) (((sv 6).toUInt32 % 65536).toInt32) (sv 7) (sv 8)).2 0) kX (okG_l (okI_G hok))) (vx_cwSW 10 S.2.2.2.2 (gSW q3_22 q3_23 q1_0 q3_24) rfl rfl rfl hL_write ⟨Nat.le_of_ble_eq_true rfl, Nat.le_of_ble_eq_true rfl⟩) hA0 rfl rfl (Nat.le_of_ble_eq_true rfl) dL_law_278 ⟨show cells + 20 ≤ 603072 by omega, show slots + 200 ≤ 7182442 by omega⟩ (fun r u hu => ?_)
  obtain ⟨x1, e1⟩ := u
  obtain ⟨f1, he, hr1, hR, hv⟩ := ok_use1 (fun a : Int32 => a.toInt64) (okI_G hok) hu (tb5 (by decide))
  have he : e1 = _ := he
  subst he
  refine z_istore (lv' := [(6, .int r), (0, .ref b), (1, .ref (ad 0)), (2, .ref (am 0)), (3, .ref o1), (4, .ref o2), (5, .int i5)]) hx hb dL_law_281 (by decide) rfl ?_
  refine z_aload_n (j := 3) hx hb dL_law_283 rfl rfl ?_
  refine zl_argI (k := 1) (j0 := 1) (j5 := 6) S C.hX C.hbl C.hbA (by decide) rfl rfl (hsv 1 (by decide)).1 (hsv 1 (by decide)).2 dL_law_284 dL_law_285 dL_law_287 dL_law_288 dL_law_289 ?_
  refine zl_argI (k := 2) (j0 := 1) (j5 := 6) S C.hX C.hbl C.hbA (by decide) rfl rfl (hsv 2 (by decide)).1 (hsv 2 (by decide)).2 dL_law_290 dL_law_291 dL_law_293 dL_law_294 dL_law_295 ?_
  refine zl_argI (k := 3) (j0 := 1) (j5 := 6) S C.hX C.hbl C.hbA (by decide) rfl rfl (hsv 3 (by decide)).1 (hsv 3 (by decide)).2 dL_law_296 dL_law_297 dL_law_299 dL_law_300 dL_law_301 ?_
  refine zl_argI (k := 4) (j0 := 1) (j5 := 6) S C.hX C.hbl C.hbA (by decide) rfl rfl (hsv 4 (by decide)).1 (hsv 4 (by decide)).2 dL_law_302 dL_law_303 dL_law_305 dL_law_306 dL_law_307 ?_
  refine zl_argI (k := 5) (j0 := 1) (j5 := 6) S C.hX C.hbl C.hbA (by decide) rfl rfl (hsv 5 (by decide)).1 (hsv 5 (by decide)).2 dL_law_308 dL_law_309 dL_law_311 dL_law_312 dL_law_313 ?_
  refine zl_argB (k := 6) (j0 := 1) (j5 := 6) S C.hX C.hbl C.hbA (by decide) rfl rfl (hsv 6 (by decide)).1 (hsv 6 (by decide)).2 dL_law_314 dL_law_315 dL_law_317 dL_law_319 dL_law_320 ?_
  refine z_i2c hx hb dL_law_321 ?_
  refine zl_argB (k := 7) (j0 := 1) (j5 := 6) S C.hX C.hbl C.hbA (by decide) rfl rfl (hsv 7 (by decide)).1 (hsv 7 (by decide)).2 dL_law_322 dL_law_323 dL_law_325 dL_law_327 dL_law_328 ?_
  refine zl_argB (k := 8) (j0 := 1) (j5 := 6) S C.hX C.hbl C.hbA (by decide) rfl rfl (hsv 8 (by decide)).1 (hsv 8 (by decide)).2 dL_law_329 dL_law_330 dL_law_332 dL_law_334 dL_law_335 ?_
  refine zl_callMi (As := [.int (sv 1), .int (sv 2), .int (sv 3), .int (sv 4), .int (sv 5), .int (((sv 6).toUInt32 % 65536).toInt32), .int (sv 7), .int (sv 8)]) S C.hK (ctX11_write l D kc am mm (sv 1) (sv 2) (sv 3) (sv 4) (sv 5) (((sv 6).toUInt32 % 65536).toInt32) (sv 7) (sv 8) kM) (cwV 8 S.2.2.2.2 (gV q7_13 q7_14 q7_15 q1_12 q7_16) rfl rfl rfl hX11_write ⟨Nat.le_of_ble_eq_true rfl, Nat.le_of_ble_eq_true rfl⟩) hA0 rfl rfl (Nat.le_of_ble_eq_true rfl) dL_law_336 ⟨show cells + 20 + 0 ≤ 603072 by omega, show slots + 200 + 0 ≤ 7182442 by omega⟩ ?_
  refine z_istore (lv' := [(7, .int (fX11_write mm (sv 1) (sv 2) (sv 3) (sv 4) (sv 5) (((sv 6).toUInt32 % 65536).toInt32) (sv 7) (sv 8)).1), (6, .int r), (0, .ref b), (1, .ref (ad 0)), (2, .ref (am 0)), (3, .ref o1), (4, .ref o2), (5, .int i5)]) hx hb dL_law_339 (by decide) rfl ?_
  refine z_aload_n (j := 4) hx hb dL_law_341 rfl rfl ?_
  refine zl_callMi (F := (gI (fX11_write mm (sv 1) (sv 2) (sv 3) (sv 4) (sv 5) (((sv 6).toUInt32 % 65536).toInt32) (sv 7) (sv 8)).2 0, (fX11_write mm (sv 1) (sv 2) (sv 3) (sv 4) (sv 5) (((sv 6).toUInt32 % 65536).toInt32) (sv 7) (sv 8)).2)) (As := []) S C.hK (ctX11_thrown l D kc am (fX11_write mm (sv 1) (sv 2) (sv 3) (sv 4) (sv 5) (((sv 6).toUInt32 % 65536).toInt32) (sv 7) (sv 8)).2 trivial) (cwV 0 S.2.2.2.2 (gV q7_9 q7_10 q7_11 q1_12 q7_12) rfl rfl rfl hX11_thrown ⟨Nat.le_of_ble_eq_true rfl, Nat.le_of_ble_eq_true rfl⟩) hA0 rfl rfl (Nat.le_of_ble_eq_true rfl) dL_law_342 ⟨show cells + 20 + 0 + 0 ≤ 603072 by omega, show slots + 200 + 0 + 0 ≤ 7182442 by omega⟩ ?_
  refine z_iload (j := 1) hx hb dL_law_345 rfl ?_
  refine z_icmp_eq (tgt := 352) hx hb dL_law_347 (by decide) (fun g0 => ?_) (fun g0 => absurd hr1.symm g0)
  refine z_iload (j := 1) hx hb dL_law_352 rfl ?_
  refine z_if_ne (tgt := 369) hx hb dL_law_354 (by decide) (fun g1 => ?_) (fun g1 => ?_)
  · refine z_goto (tgt := 2168) hx hb dL_law_369 (by decide) ?_
    refine z_widen (show cells + 20 + 0 + 0 ≤ cells + 300 by omega) (show slots + 200 + 0 + 0 ≤ slots + 5400 by omega) ?_
    refine z_sub [2, 3, 4, 5, 6, 7] rfl ?_
    exact next _ _ _ _ (hR.mono (by omega))
  have hv := hv g1
  refine z_aload_n (j := 5) hx hb dL_law_357 rfl rfl ?_
  refine z_iconst (v := 0) hx hb dL_law_358 (by decide) ?_
  refine zl_lald S C.hK dL_law_359 ?_
  refine z_iload (j := 0) hx hb dL_law_360 rfl ?_
  refine z_i2l hx hb dL_law_362 ?_
  refine z_lcmp hx hb dL_law_363 ?_
  refine z_if_eq (tgt := 369) hx hb dL_law_364 (by decide) (fun g2 => ?_) (fun g2 => absurd (by rw [hv]; exact lg_self _) g2)
  refine z_goto (tgt := 2168) hx hb dL_law_369 (by decide) ?_
  refine z_widen (show cells + 20 + 0 + 0 ≤ cells + 300 by omega) (show slots + 200 + 0 + 0 ≤ slots + 5400 by omega) ?_
  refine z_sub [2, 3, 4, 5, 6, 7] rfl ?_
  exact next _ _ _ _ (hR.mono (by omega))
theorem law_c1 {p : Program} {l : Launch} {e : Env} {s : State} {m : MethodId} {b : Nat} {below : List Frame} {meth : Method} {c : Code} {D : va_G} {kc : Nat → ClassId} {kd : ClassId} {ad am : Nat → Nat} {o1 o2 L : Nat} {xs : Nat → Int32} (C : LC p l s m b c D kc kd L xs) {Q : State → Prop} {cR : Int} {x mm : SS} (h : R cR x mm) (hc : 0 ≤ cR ∧ cR ≤ 1999990000) {i5 : Int32} {sv : Nat → Int32} (hsv : ∀ k, k < 9 → vp_in (i5 + Int32.ofNat k) L ∧ xs (i5 + Int32.ofNat k).toNatClampNeg = sv k) {cells slots : Nat} (hce : cells + 300 ≤ 603072) (hsl : slots + 5400 ≤ 7182442) (f : Nat → Int64) (g : Nat → UInt64) (next : ∀ (x2 m2 : SS) (f2 : Nat → Int64) (g2 : Nat → UInt64), R (cR + 2000) x2 m2 → LZ p l e s m b below meth c D kc kd ad am o1 o2 Q (cells + 300) (slots + 5400) f2 g2 x2 m2 2168 i5) : LZ p l e s m b below meth c D kc kd ad am o1 o2 Q cells slots f g x mm 372 i5 := by
  have S := C.S
  have hx := S.1
  have hb := S.2.1
  have hA0 : ∀ z, s.heap.size ≤ z → s.heap.size ≤ z := fun z hz => hz
  obtain ⟨kM, kX, hok⟩ := op_patch h (sv 1) (sv 2) (sv 3)
  refine z_aload_n (j := 1) hx hb dL_law_372 rfl rfl ?_
  refine zl_argI (k := 1) (j0 := 0) (j5 := 5) S C.hX C.hbl C.hbA (by decide) rfl rfl (hsv 1 (by decide)).1 (hsv 1 (by decide)).2 dL_law_373 dL_law_374 dL_law_376 dL_law_377 dL_law_378 ?_
  refine zl_argI (k := 2) (j0 := 0) (j5 := 5) S C.hX C.hbl C.hbA (by decide) rfl rfl (hsv 2 (by decide)).1 (hsv 2 (by decide)).2 dL_law_379 dL_law_380 dL_law_382 dL_law_383 dL_law_384 ?_
  refine zl_argI (k := 3) (j0 := 0) (j5 := 5) S C.hX C.hbl C.hbA (by decide) rfl rfl (hsv 3 (by decide)).1 (hsv 3 (by decide)).2 dL_law_385 dL_law_386 dL_law_388 dL_law_389 dL_law_390 ?_
  refine z_aload_n (j := 3) hx hb dL_law_391 rfl rfl ?_
  refine zl_callW1 (As := [.ref (ad 0), .int (sv 1), .int (sv 2), .int (sv 3), .ref o1]) S C.hK C.hKd C.hE (ctL_patch l C.hl D kc kd ad o1 x f (sv 1) (sv 2) (sv 3) (gI (fX11_patch mm (sv 1) (sv 2) (sv 3)).2 0) kX (okG_l (okI_G hok))) (vx_cwSW 5 S.2.2.2.2 (gSW q4_75 q4_76 q1_0 q4_77) rfl rfl rfl hL_patch ⟨Nat.le_of_ble_eq_true rfl, Nat.le_of_ble_eq_true rfl⟩) hA0 rfl rfl (Nat.le_of_ble_eq_true rfl) dL_law_392 ⟨show cells + 20 ≤ 603072 by omega, show slots + 200 ≤ 7182442 by omega⟩ (fun r u hu => ?_)
  obtain ⟨x1, e1⟩ := u
  obtain ⟨f1, he, hr1, hR, hv⟩ := ok_use1 (fun a : Int32 => a.toInt64) (okI_G hok) hu (tb5 (by decide))
  have he : e1 = _ := he
  subst he
  refine z_istore (lv' := [(6, .int r), (0, .ref b), (1, .ref (ad 0)), (2, .ref (am 0)), (3, .ref o1), (4, .ref o2), (5, .int i5)]) hx hb dL_law_395 (by decide) rfl ?_
  refine z_aload_n (j := 3) hx hb dL_law_397 rfl rfl ?_
  refine zl_argI (k := 1) (j0 := 1) (j5 := 6) S C.hX C.hbl C.hbA (by decide) rfl rfl (hsv 1 (by decide)).1 (hsv 1 (by decide)).2 dL_law_398 dL_law_399 dL_law_401 dL_law_402 dL_law_403 ?_
  refine zl_argI (k := 2) (j0 := 1) (j5 := 6) S C.hX C.hbl C.hbA (by decide) rfl rfl (hsv 2 (by decide)).1 (hsv 2 (by decide)).2 dL_law_404 dL_law_405 dL_law_407 dL_law_408 dL_law_409 ?_
  refine zl_argI (k := 3) (j0 := 1) (j5 := 6) S C.hX C.hbl C.hbA (by decide) rfl rfl (hsv 3 (by decide)).1 (hsv 3 (by decide)).2 dL_law_410 dL_law_411 dL_law_413 dL_law_414 dL_law_415 ?_
  refine zl_callMi (As := [.int (sv 1), .int (sv 2), .int (sv 3)]) S C.hK (ctX11_patch l D kc am mm (sv 1) (sv 2) (sv 3) kM) (cwV 3 S.2.2.2.2 (gV q7_41 q7_42 q7_43 q1_12 q7_44) rfl rfl rfl hX11_patch ⟨Nat.le_of_ble_eq_true rfl, Nat.le_of_ble_eq_true rfl⟩) hA0 rfl rfl (Nat.le_of_ble_eq_true rfl) dL_law_416 ⟨show cells + 20 + 0 ≤ 603072 by omega, show slots + 200 + 0 ≤ 7182442 by omega⟩ ?_
  refine z_istore (lv' := [(7, .int (fX11_patch mm (sv 1) (sv 2) (sv 3)).1), (6, .int r), (0, .ref b), (1, .ref (ad 0)), (2, .ref (am 0)), (3, .ref o1), (4, .ref o2), (5, .int i5)]) hx hb dL_law_419 (by decide) rfl ?_
  refine z_aload_n (j := 4) hx hb dL_law_421 rfl rfl ?_
  refine zl_callMi (F := (gI (fX11_patch mm (sv 1) (sv 2) (sv 3)).2 0, (fX11_patch mm (sv 1) (sv 2) (sv 3)).2)) (As := []) S C.hK (ctX11_thrown l D kc am (fX11_patch mm (sv 1) (sv 2) (sv 3)).2 trivial) (cwV 0 S.2.2.2.2 (gV q7_9 q7_10 q7_11 q1_12 q7_12) rfl rfl rfl hX11_thrown ⟨Nat.le_of_ble_eq_true rfl, Nat.le_of_ble_eq_true rfl⟩) hA0 rfl rfl (Nat.le_of_ble_eq_true rfl) dL_law_422 ⟨show cells + 20 + 0 + 0 ≤ 603072 by omega, show slots + 200 + 0 + 0 ≤ 7182442 by omega⟩ ?_
  refine z_iload (j := 1) hx hb dL_law_425 rfl ?_
  refine z_icmp_eq (tgt := 432) hx hb dL_law_427 (by decide) (fun g0 => ?_) (fun g0 => absurd hr1.symm g0)
  refine z_iload (j := 1) hx hb dL_law_432 rfl ?_
  refine z_if_ne (tgt := 449) hx hb dL_law_434 (by decide) (fun g1 => ?_) (fun g1 => ?_)
  · refine z_goto (tgt := 2168) hx hb dL_law_449 (by decide) ?_
    refine z_widen (show cells + 20 + 0 + 0 ≤ cells + 300 by omega) (show slots + 200 + 0 + 0 ≤ slots + 5400 by omega) ?_
    refine z_sub [2, 3, 4, 5, 6, 7] rfl ?_
    exact next _ _ _ _ (hR.mono (by omega))
  have hv := hv g1
  refine z_aload_n (j := 5) hx hb dL_law_437 rfl rfl ?_
  refine z_iconst (v := 0) hx hb dL_law_438 (by decide) ?_
  refine zl_lald S C.hK dL_law_439 ?_
  refine z_iload (j := 0) hx hb dL_law_440 rfl ?_
  refine z_i2l hx hb dL_law_442 ?_
  refine z_lcmp hx hb dL_law_443 ?_
  refine z_if_eq (tgt := 449) hx hb dL_law_444 (by decide) (fun g2 => ?_) (fun g2 => absurd (by rw [hv]; exact lg_self _) g2)
  refine z_goto (tgt := 2168) hx hb dL_law_449 (by decide) ?_
  refine z_widen (show cells + 20 + 0 + 0 ≤ cells + 300 by omega) (show slots + 200 + 0 + 0 ≤ slots + 5400 by omega) ?_
  refine z_sub [2, 3, 4, 5, 6, 7] rfl ?_
  exact next _ _ _ _ (hR.mono (by omega))
theorem law_c2 {p : Program} {l : Launch} {e : Env} {s : State} {m : MethodId} {b : Nat} {below : List Frame} {meth : Method} {c : Code} {D : va_G} {kc : Nat → ClassId} {kd : ClassId} {ad am : Nat → Nat} {o1 o2 L : Nat} {xs : Nat → Int32} (C : LC p l s m b c D kc kd L xs) {Q : State → Prop} {cR : Int} {x mm : SS} (h : R cR x mm) (hc : 0 ≤ cR ∧ cR ≤ 1999990000) {i5 : Int32} {sv : Nat → Int32} (hsv : ∀ k, k < 9 → vp_in (i5 + Int32.ofNat k) L ∧ xs (i5 + Int32.ofNat k).toNatClampNeg = sv k) {cells slots : Nat} (hce : cells + 300 ≤ 603072) (hsl : slots + 5400 ≤ 7182442) (f : Nat → Int64) (g : Nat → UInt64) (next : ∀ (x2 m2 : SS) (f2 : Nat → Int64) (g2 : Nat → UInt64), R (cR + 2000) x2 m2 → LZ p l e s m b below meth c D kc kd ad am o1 o2 Q (cells + 300) (slots + 5400) f2 g2 x2 m2 2168 i5) : LZ p l e s m b below meth c D kc kd ad am o1 o2 Q cells slots f g x mm 452 i5 := by
  have S := C.S
  have hx := S.1
  have hb := S.2.1
  have hA0 : ∀ z, s.heap.size ≤ z → s.heap.size ≤ z := fun z hz => hz
  obtain ⟨kM, kX, hok⟩ := op_setConstant h (sv 1) (sv 2)
  refine z_aload_n (j := 1) hx hb dL_law_452 rfl rfl ?_
  refine zl_argI (k := 1) (j0 := 0) (j5 := 5) S C.hX C.hbl C.hbA (by decide) rfl rfl (hsv 1 (by decide)).1 (hsv 1 (by decide)).2 dL_law_453 dL_law_454 dL_law_456 dL_law_457 dL_law_458 ?_
  refine zl_argI (k := 2) (j0 := 0) (j5 := 5) S C.hX C.hbl C.hbA (by decide) rfl rfl (hsv 2 (by decide)).1 (hsv 2 (by decide)).2 dL_law_459 dL_law_460 dL_law_462 dL_law_463 dL_law_464 ?_
  refine z_aload_n (j := 3) hx hb dL_law_465 rfl rfl ?_
  refine zl_callW1 (As := [.ref (ad 0), .int (sv 1), .int (sv 2), .ref o1]) S C.hK C.hKd C.hE (ctL_setConstant l C.hl D kc kd ad o1 x f (sv 1) (sv 2) (gI (fX11_setConstant mm (sv 1) (sv 2)).2 0) kX (okG_l (okI_G hok))) (vx_cwSW 4 S.2.2.2.2 (gSW q4_109 q4_110 q1_0 q4_111) rfl rfl rfl hL_setConstant ⟨Nat.le_of_ble_eq_true rfl, Nat.le_of_ble_eq_true rfl⟩) hA0 rfl rfl (Nat.le_of_ble_eq_true rfl) dL_law_466 ⟨show cells + 20 ≤ 603072 by omega, show slots + 200 ≤ 7182442 by omega⟩ (fun r u hu => ?_)
  obtain ⟨x1, e1⟩ := u
  obtain ⟨f1, he, hr1, hR, hv⟩ := ok_use1 (fun a : Int32 => a.toInt64) (okI_G hok) hu (tb5 (by decide))
  have he : e1 = _ := he
  subst he
  refine z_istore (lv' := [(6, .int r), (0, .ref b), (1, .ref (ad 0)), (2, .ref (am 0)), (3, .ref o1), (4, .ref o2), (5, .int i5)]) hx hb dL_law_469 (by decide) rfl ?_
  refine z_aload_n (j := 3) hx hb dL_law_471 rfl rfl ?_
  refine zl_argI (k := 1) (j0 := 1) (j5 := 6) S C.hX C.hbl C.hbA (by decide) rfl rfl (hsv 1 (by decide)).1 (hsv 1 (by decide)).2 dL_law_472 dL_law_473 dL_law_475 dL_law_476 dL_law_477 ?_
  refine zl_argI (k := 2) (j0 := 1) (j5 := 6) S C.hX C.hbl C.hbA (by decide) rfl rfl (hsv 2 (by decide)).1 (hsv 2 (by decide)).2 dL_law_478 dL_law_479 dL_law_481 dL_law_482 dL_law_483 ?_
  refine zl_callMi (As := [.int (sv 1), .int (sv 2)]) S C.hK (ctX11_setConstant l D kc am mm (sv 1) (sv 2) kM) (cwV 2 S.2.2.2.2 (gV q7_45 q7_46 q7_47 q1_12 q7_48) rfl rfl rfl hX11_setConstant ⟨Nat.le_of_ble_eq_true rfl, Nat.le_of_ble_eq_true rfl⟩) hA0 rfl rfl (Nat.le_of_ble_eq_true rfl) dL_law_484 ⟨show cells + 20 + 0 ≤ 603072 by omega, show slots + 200 + 0 ≤ 7182442 by omega⟩ ?_
  refine z_istore (lv' := [(7, .int (fX11_setConstant mm (sv 1) (sv 2)).1), (6, .int r), (0, .ref b), (1, .ref (ad 0)), (2, .ref (am 0)), (3, .ref o1), (4, .ref o2), (5, .int i5)]) hx hb dL_law_487 (by decide) rfl ?_
  refine z_aload_n (j := 4) hx hb dL_law_489 rfl rfl ?_
  refine zl_callMi (F := (gI (fX11_setConstant mm (sv 1) (sv 2)).2 0, (fX11_setConstant mm (sv 1) (sv 2)).2)) (As := []) S C.hK (ctX11_thrown l D kc am (fX11_setConstant mm (sv 1) (sv 2)).2 trivial) (cwV 0 S.2.2.2.2 (gV q7_9 q7_10 q7_11 q1_12 q7_12) rfl rfl rfl hX11_thrown ⟨Nat.le_of_ble_eq_true rfl, Nat.le_of_ble_eq_true rfl⟩) hA0 rfl rfl (Nat.le_of_ble_eq_true rfl) dL_law_490 ⟨show cells + 20 + 0 + 0 ≤ 603072 by omega, show slots + 200 + 0 + 0 ≤ 7182442 by omega⟩ ?_
  refine z_iload (j := 1) hx hb dL_law_493 rfl ?_
  refine z_icmp_eq (tgt := 500) hx hb dL_law_495 (by decide) (fun g0 => ?_) (fun g0 => absurd hr1.symm g0)
  refine z_iload (j := 1) hx hb dL_law_500 rfl ?_
  refine z_if_ne (tgt := 517) hx hb dL_law_502 (by decide) (fun g1 => ?_) (fun g1 => ?_)
  · refine z_goto (tgt := 2168) hx hb dL_law_517 (by decide) ?_
    refine z_widen (show cells + 20 + 0 + 0 ≤ cells + 300 by omega) (show slots + 200 + 0 + 0 ≤ slots + 5400 by omega) ?_
    refine z_sub [2, 3, 4, 5, 6, 7] rfl ?_
    exact next _ _ _ _ (hR.mono (by omega))
  have hv := hv g1
  refine z_aload_n (j := 5) hx hb dL_law_505 rfl rfl ?_
  refine z_iconst (v := 0) hx hb dL_law_506 (by decide) ?_
  refine zl_lald S C.hK dL_law_507 ?_
  refine z_iload (j := 0) hx hb dL_law_508 rfl ?_
  refine z_i2l hx hb dL_law_510 ?_
  refine z_lcmp hx hb dL_law_511 ?_
  refine z_if_eq (tgt := 517) hx hb dL_law_512 (by decide) (fun g2 => ?_) (fun g2 => absurd (by rw [hv]; exact lg_self _) g2)
  refine z_goto (tgt := 2168) hx hb dL_law_517 (by decide) ?_
  refine z_widen (show cells + 20 + 0 + 0 ≤ cells + 300 by omega) (show slots + 200 + 0 + 0 ≤ slots + 5400 by omega) ?_
  refine z_sub [2, 3, 4, 5, 6, 7] rfl ?_
  exact next _ _ _ _ (hR.mono (by omega))
theorem law_c3 {p : Program} {l : Launch} {e : Env} {s : State} {m : MethodId} {b : Nat} {below : List Frame} {meth : Method} {c : Code} {D : va_G} {kc : Nat → ClassId} {kd : ClassId} {ad am : Nat → Nat} {o1 o2 L : Nat} {xs : Nat → Int32} (C : LC p l s m b c D kc kd L xs) {Q : State → Prop} {cR : Int} {x mm : SS} (h : R cR x mm) (hc : 0 ≤ cR ∧ cR ≤ 1999990000) {i5 : Int32} {sv : Nat → Int32} (hsv : ∀ k, k < 9 → vp_in (i5 + Int32.ofNat k) L ∧ xs (i5 + Int32.ofNat k).toNatClampNeg = sv k) {cells slots : Nat} (hce : cells + 300 ≤ 603072) (hsl : slots + 5400 ≤ 7182442) (f : Nat → Int64) (g : Nat → UInt64) (next : ∀ (x2 m2 : SS) (f2 : Nat → Int64) (g2 : Nat → UInt64), R (cR + 2000) x2 m2 → LZ p l e s m b below meth c D kc kd ad am o1 o2 Q (cells + 300) (slots + 5400) f2 g2 x2 m2 2168 i5) : LZ p l e s m b below meth c D kc kd ad am o1 o2 Q cells slots f g x mm 520 i5 := by
  have S := C.S
  have hx := S.1
  have hb := S.2.1
  have hA0 : ∀ z, s.heap.size ≤ z → s.heap.size ≤ z := fun z hz => hz
  obtain ⟨kM, kX, hok⟩ := op_reason h (sv 1) (sv 2) (sv 3) (((sv 4).toUInt32 % 65536).toInt32) (sv 5) (rg_i2c (sv 4))
  refine z_aload_n (j := 1) hx hb dL_law_520 rfl rfl ?_
  refine zl_argI (k := 1) (j0 := 0) (j5 := 5) S C.hX C.hbl C.hbA (by decide) rfl rfl (hsv 1 (by decide)).1 (hsv 1 (by decide)).2 dL_law_521 dL_law_522 dL_law_524 dL_law_525 dL_law_526 ?_
  refine zl_argI (k := 2) (j0 := 0) (j5 := 5) S C.hX C.hbl C.hbA (by decide) rfl rfl (hsv 2 (by decide)).1 (hsv 2 (by decide)).2 dL_law_527 dL_law_528 dL_law_530 dL_law_531 dL_law_532 ?_
  refine zl_argI (k := 3) (j0 := 0) (j5 := 5) S C.hX C.hbl C.hbA (by decide) rfl rfl (hsv 3 (by decide)).1 (hsv 3 (by decide)).2 dL_law_533 dL_law_534 dL_law_536 dL_law_537 dL_law_538 ?_
  refine zl_argI (k := 4) (j0 := 0) (j5 := 5) S C.hX C.hbl C.hbA (by decide) rfl rfl (hsv 4 (by decide)).1 (hsv 4 (by decide)).2 dL_law_539 dL_law_540 dL_law_542 dL_law_543 dL_law_544 ?_
  refine z_i2c hx hb dL_law_545 ?_
  refine zl_argI (k := 5) (j0 := 0) (j5 := 5) S C.hX C.hbl C.hbA (by decide) rfl rfl (hsv 5 (by decide)).1 (hsv 5 (by decide)).2 dL_law_546 dL_law_547 dL_law_549 dL_law_550 dL_law_551 ?_
  refine z_aload_n (j := 3) hx hb dL_law_552 rfl rfl ?_
  refine zl_callW1 (As := [.ref (ad 0), .int (sv 1), .int (sv 2), .int (sv 3), .int (((sv 4).toUInt32 % 65536).toInt32), .int (sv 5), .ref o1]) S C.hK C.hKd C.hE (ctL_reason l C.hl D kc kd ad o1 x f (sv 1) (sv 2) (sv 3) (((sv 4).toUInt32 % 65536).toInt32) (sv 5) (gI (fX11_reason mm (sv 1) (sv 2) (sv 3) (((sv 4).toUInt32 % 65536).toInt32) (sv 5)).2 0) kX (okG_l (okI_G hok))) (vx_cwSW 7 S.2.2.2.2 (gSW q4_117 q4_118 q1_0 q4_119) rfl rfl rfl hL_reason ⟨Nat.le_of_ble_eq_true rfl, Nat.le_of_ble_eq_true rfl⟩) hA0 rfl rfl (Nat.le_of_ble_eq_true rfl) dL_law_553 ⟨show cells + 20 ≤ 603072 by omega, show slots + 200 ≤ 7182442 by omega⟩ (fun r u hu => ?_)
  obtain ⟨x1, e1⟩ := u
  obtain ⟨f1, he, hr1, hR, hv⟩ := ok_use1 (fun a : Int32 => a.toInt64) (okI_G hok) hu (tb5 (by decide))
  have he : e1 = _ := he
  subst he
  refine z_istore (lv' := [(6, .int r), (0, .ref b), (1, .ref (ad 0)), (2, .ref (am 0)), (3, .ref o1), (4, .ref o2), (5, .int i5)]) hx hb dL_law_556 (by decide) rfl ?_
  refine z_aload_n (j := 3) hx hb dL_law_558 rfl rfl ?_
  refine zl_argI (k := 1) (j0 := 1) (j5 := 6) S C.hX C.hbl C.hbA (by decide) rfl rfl (hsv 1 (by decide)).1 (hsv 1 (by decide)).2 dL_law_559 dL_law_560 dL_law_562 dL_law_563 dL_law_564 ?_
  refine zl_argI (k := 2) (j0 := 1) (j5 := 6) S C.hX C.hbl C.hbA (by decide) rfl rfl (hsv 2 (by decide)).1 (hsv 2 (by decide)).2 dL_law_565 dL_law_566 dL_law_568 dL_law_569 dL_law_570 ?_
  refine zl_argI (k := 3) (j0 := 1) (j5 := 6) S C.hX C.hbl C.hbA (by decide) rfl rfl (hsv 3 (by decide)).1 (hsv 3 (by decide)).2 dL_law_571 dL_law_572 dL_law_574 dL_law_575 dL_law_576 ?_
  refine zl_argI (k := 4) (j0 := 1) (j5 := 6) S C.hX C.hbl C.hbA (by decide) rfl rfl (hsv 4 (by decide)).1 (hsv 4 (by decide)).2 dL_law_577 dL_law_578 dL_law_580 dL_law_581 dL_law_582 ?_
  refine z_i2c hx hb dL_law_583 ?_
  refine zl_argI (k := 5) (j0 := 1) (j5 := 6) S C.hX C.hbl C.hbA (by decide) rfl rfl (hsv 5 (by decide)).1 (hsv 5 (by decide)).2 dL_law_584 dL_law_585 dL_law_587 dL_law_588 dL_law_589 ?_
  refine zl_callMi (As := [.int (sv 1), .int (sv 2), .int (sv 3), .int (((sv 4).toUInt32 % 65536).toInt32), .int (sv 5)]) S C.hK (ctX11_reason l D kc am mm (sv 1) (sv 2) (sv 3) (((sv 4).toUInt32 % 65536).toInt32) (sv 5) kM) (cwV 5 S.2.2.2.2 (gV q7_49 q7_50 q7_51 q1_12 q7_52) rfl rfl rfl hX11_reason ⟨Nat.le_of_ble_eq_true rfl, Nat.le_of_ble_eq_true rfl⟩) hA0 rfl rfl (Nat.le_of_ble_eq_true rfl) dL_law_590 ⟨show cells + 20 + 0 ≤ 603072 by omega, show slots + 200 + 0 ≤ 7182442 by omega⟩ ?_
  refine z_istore (lv' := [(7, .int (fX11_reason mm (sv 1) (sv 2) (sv 3) (((sv 4).toUInt32 % 65536).toInt32) (sv 5)).1), (6, .int r), (0, .ref b), (1, .ref (ad 0)), (2, .ref (am 0)), (3, .ref o1), (4, .ref o2), (5, .int i5)]) hx hb dL_law_593 (by decide) rfl ?_
  refine z_aload_n (j := 4) hx hb dL_law_595 rfl rfl ?_
  refine zl_callMi (F := (gI (fX11_reason mm (sv 1) (sv 2) (sv 3) (((sv 4).toUInt32 % 65536).toInt32) (sv 5)).2 0, (fX11_reason mm (sv 1) (sv 2) (sv 3) (((sv 4).toUInt32 % 65536).toInt32) (sv 5)).2)) (As := []) S C.hK (ctX11_thrown l D kc am (fX11_reason mm (sv 1) (sv 2) (sv 3) (((sv 4).toUInt32 % 65536).toInt32) (sv 5)).2 trivial) (cwV 0 S.2.2.2.2 (gV q7_9 q7_10 q7_11 q1_12 q7_12) rfl rfl rfl hX11_thrown ⟨Nat.le_of_ble_eq_true rfl, Nat.le_of_ble_eq_true rfl⟩) hA0 rfl rfl (Nat.le_of_ble_eq_true rfl) dL_law_596 ⟨show cells + 20 + 0 + 0 ≤ 603072 by omega, show slots + 200 + 0 + 0 ≤ 7182442 by omega⟩ ?_
  refine z_iload (j := 1) hx hb dL_law_599 rfl ?_
  refine z_icmp_eq (tgt := 606) hx hb dL_law_601 (by decide) (fun g0 => ?_) (fun g0 => absurd hr1.symm g0)
  refine z_iload (j := 1) hx hb dL_law_606 rfl ?_
  refine z_if_ne (tgt := 623) hx hb dL_law_608 (by decide) (fun g1 => ?_) (fun g1 => ?_)
  · refine z_goto (tgt := 2168) hx hb dL_law_623 (by decide) ?_
    refine z_widen (show cells + 20 + 0 + 0 ≤ cells + 300 by omega) (show slots + 200 + 0 + 0 ≤ slots + 5400 by omega) ?_
    refine z_sub [2, 3, 4, 5, 6, 7] rfl ?_
    exact next _ _ _ _ (hR.mono (by omega))
  have hv := hv g1
  refine z_aload_n (j := 5) hx hb dL_law_611 rfl rfl ?_
  refine z_iconst (v := 0) hx hb dL_law_612 (by decide) ?_
  refine zl_lald S C.hK dL_law_613 ?_
  refine z_iload (j := 0) hx hb dL_law_614 rfl ?_
  refine z_i2l hx hb dL_law_616 ?_
  refine z_lcmp hx hb dL_law_617 ?_
  refine z_if_eq (tgt := 623) hx hb dL_law_618 (by decide) (fun g2 => ?_) (fun g2 => absurd (by rw [hv]; exact lg_self _) g2)
  refine z_goto (tgt := 2168) hx hb dL_law_623 (by decide) ?_
  refine z_widen (show cells + 20 + 0 + 0 ≤ cells + 300 by omega) (show slots + 200 + 0 + 0 ≤ slots + 5400 by omega) ?_
  refine z_sub [2, 3, 4, 5, 6, 7] rfl ?_
  exact next _ _ _ _ (hR.mono (by omega))
theorem law_c4 {p : Program} {l : Launch} {e : Env} {s : State} {m : MethodId} {b : Nat} {below : List Frame} {meth : Method} {c : Code} {D : va_G} {kc : Nat → ClassId} {kd : ClassId} {ad am : Nat → Nat} {o1 o2 L : Nat} {xs : Nat → Int32} (C : LC p l s m b c D kc kd L xs) {Q : State → Prop} {cR : Int} {x mm : SS} (h : R cR x mm) (hc : 0 ≤ cR ∧ cR ≤ 1999990000) {i5 : Int32} {sv : Nat → Int32} (hsv : ∀ k, k < 9 → vp_in (i5 + Int32.ofNat k) L ∧ xs (i5 + Int32.ofNat k).toNatClampNeg = sv k) {cells slots : Nat} (hce : cells + 300 ≤ 603072) (hsl : slots + 5400 ≤ 7182442) (f : Nat → Int64) (g : Nat → UInt64) (next : ∀ (x2 m2 : SS) (f2 : Nat → Int64) (g2 : Nat → UInt64), R (cR + 2000) x2 m2 → LZ p l e s m b below meth c D kc kd ad am o1 o2 Q (cells + 300) (slots + 5400) f2 g2 x2 m2 2168 i5) : LZ p l e s m b below meth c D kc kd ad am o1 o2 Q cells slots f g x mm 626 i5 := by
  have S := C.S
  have hx := S.1
  have hb := S.2.1
  have hA0 : ∀ z, s.heap.size ≤ z → s.heap.size ≤ z := fun z hz => hz
  obtain ⟨kM, kX, hok⟩ := op_reserve h (sv 1)
  refine z_aload_n (j := 1) hx hb dL_law_626 rfl rfl ?_
  refine zl_argI (k := 1) (j0 := 0) (j5 := 5) S C.hX C.hbl C.hbA (by decide) rfl rfl (hsv 1 (by decide)).1 (hsv 1 (by decide)).2 dL_law_627 dL_law_628 dL_law_630 dL_law_631 dL_law_632 ?_
  refine z_aload_n (j := 3) hx hb dL_law_633 rfl rfl ?_
  refine zl_callW1 (As := [.ref (ad 0), .int (sv 1), .ref o1]) S C.hK C.hKd C.hE (ctL_reserve l C.hl D kc kd ad o1 x f (sv 1) (gI (fX11_reserve mm (sv 1)).2 0) kX (okG_l (okI_G hok))) (vx_cwSW 3 S.2.2.2.2 (gSW q4_124 q4_125 q1_0 q4_126) rfl rfl rfl hL_reserve ⟨Nat.le_of_ble_eq_true rfl, Nat.le_of_ble_eq_true rfl⟩) hA0 rfl rfl (Nat.le_of_ble_eq_true rfl) dL_law_634 ⟨show cells + 20 ≤ 603072 by omega, show slots + 200 ≤ 7182442 by omega⟩ (fun r u hu => ?_)
  obtain ⟨x1, e1⟩ := u
  obtain ⟨f1, he, hr1, hR, hv⟩ := ok_use1 (fun a : Int32 => a.toInt64) (okI_G hok) hu (tb5 (by decide))
  have he : e1 = _ := he
  subst he
  refine z_istore (lv' := [(6, .int r), (0, .ref b), (1, .ref (ad 0)), (2, .ref (am 0)), (3, .ref o1), (4, .ref o2), (5, .int i5)]) hx hb dL_law_637 (by decide) rfl ?_
  refine z_aload_n (j := 3) hx hb dL_law_639 rfl rfl ?_
  refine zl_argI (k := 1) (j0 := 1) (j5 := 6) S C.hX C.hbl C.hbA (by decide) rfl rfl (hsv 1 (by decide)).1 (hsv 1 (by decide)).2 dL_law_640 dL_law_641 dL_law_643 dL_law_644 dL_law_645 ?_
  refine zl_callMi (As := [.int (sv 1)]) S C.hK (ctX11_reserve l D kc am mm (sv 1) kM) (cwV 1 S.2.2.2.2 (gV q7_53 q7_54 q7_55 q1_12 q7_56) rfl rfl rfl hX11_reserve ⟨Nat.le_of_ble_eq_true rfl, Nat.le_of_ble_eq_true rfl⟩) hA0 rfl rfl (Nat.le_of_ble_eq_true rfl) dL_law_646 ⟨show cells + 20 + 0 ≤ 603072 by omega, show slots + 200 + 0 ≤ 7182442 by omega⟩ ?_
  refine z_istore (lv' := [(7, .int (fX11_reserve mm (sv 1)).1), (6, .int r), (0, .ref b), (1, .ref (ad 0)), (2, .ref (am 0)), (3, .ref o1), (4, .ref o2), (5, .int i5)]) hx hb dL_law_649 (by decide) rfl ?_
  refine z_aload_n (j := 4) hx hb dL_law_651 rfl rfl ?_
  refine zl_callMi (F := (gI (fX11_reserve mm (sv 1)).2 0, (fX11_reserve mm (sv 1)).2)) (As := []) S C.hK (ctX11_thrown l D kc am (fX11_reserve mm (sv 1)).2 trivial) (cwV 0 S.2.2.2.2 (gV q7_9 q7_10 q7_11 q1_12 q7_12) rfl rfl rfl hX11_thrown ⟨Nat.le_of_ble_eq_true rfl, Nat.le_of_ble_eq_true rfl⟩) hA0 rfl rfl (Nat.le_of_ble_eq_true rfl) dL_law_652 ⟨show cells + 20 + 0 + 0 ≤ 603072 by omega, show slots + 200 + 0 + 0 ≤ 7182442 by omega⟩ ?_
  refine z_iload (j := 1) hx hb dL_law_655 rfl ?_
  refine z_icmp_eq (tgt := 662) hx hb dL_law_657 (by decide) (fun g0 => ?_) (fun g0 => absurd hr1.symm g0)
  refine z_iload (j := 1) hx hb dL_law_662 rfl ?_
  refine z_if_ne (tgt := 679) hx hb dL_law_664 (by decide) (fun g1 => ?_) (fun g1 => ?_)
  · refine z_goto (tgt := 2168) hx hb dL_law_679 (by decide) ?_
    refine z_widen (show cells + 20 + 0 + 0 ≤ cells + 300 by omega) (show slots + 200 + 0 + 0 ≤ slots + 5400 by omega) ?_
    refine z_sub [2, 3, 4, 5, 6, 7] rfl ?_
    exact next _ _ _ _ (hR.mono (by omega))
  have hv := hv g1
  refine z_aload_n (j := 5) hx hb dL_law_667 rfl rfl ?_
  refine z_iconst (v := 0) hx hb dL_law_668 (by decide) ?_
  refine zl_lald S C.hK dL_law_669 ?_
  refine z_iload (j := 0) hx hb dL_law_670 rfl ?_
  refine z_i2l hx hb dL_law_672 ?_
  refine z_lcmp hx hb dL_law_673 ?_
  refine z_if_eq (tgt := 679) hx hb dL_law_674 (by decide) (fun g2 => ?_) (fun g2 => absurd (by rw [hv]; exact lg_self _) g2)
  refine z_goto (tgt := 2168) hx hb dL_law_679 (by decide) ?_
  refine z_widen (show cells + 20 + 0 + 0 ≤ cells + 300 by omega) (show slots + 200 + 0 + 0 ≤ slots + 5400 by omega) ?_
  refine z_sub [2, 3, 4, 5, 6, 7] rfl ?_
  exact next _ _ _ _ (hR.mono (by omega))
theorem law_c5 {p : Program} {l : Launch} {e : Env} {s : State} {m : MethodId} {b : Nat} {below : List Frame} {meth : Method} {c : Code} {D : va_G} {kc : Nat → ClassId} {kd : ClassId} {ad am : Nat → Nat} {o1 o2 L : Nat} {xs : Nat → Int32} (C : LC p l s m b c D kc kd L xs) {Q : State → Prop} {cR : Int} {x mm : SS} (h : R cR x mm) (hc : 0 ≤ cR ∧ cR ≤ 1999990000) {i5 : Int32} {sv : Nat → Int32} (hsv : ∀ k, k < 9 → vp_in (i5 + Int32.ofNat k) L ∧ xs (i5 + Int32.ofNat k).toNatClampNeg = sv k) {cells slots : Nat} (hce : cells + 300 ≤ 603072) (hsl : slots + 5400 ≤ 7182442) (f : Nat → Int64) (g : Nat → UInt64) (next : ∀ (x2 m2 : SS) (f2 : Nat → Int64) (g2 : Nat → UInt64), R (cR + 2000) x2 m2 → LZ p l e s m b below meth c D kc kd ad am o1 o2 Q (cells + 300) (slots + 5400) f2 g2 x2 m2 2168 i5) : LZ p l e s m b below meth c D kc kd ad am o1 o2 Q cells slots f g x mm 682 i5 := by
  have S := C.S
  have hx := S.1
  have hb := S.2.1
  have hA0 : ∀ z, s.heap.size ≤ z → s.heap.size ≤ z := fun z hz => hz
  obtain ⟨kM, kX, heq, hR⟩ := op_free h
  refine z_aload_n (j := 1) hx hb dL_law_682 rfl rfl ?_
  refine zl_callXi (As := []) S C.hK C.hE (ctX10_free l C.hl D kc ad x kX) (cwV 0 S.2.2.2.2 (gV q2_151 q2_152 q2_153 q1_1 q2_154) rfl rfl rfl hX10_free ⟨Nat.le_of_ble_eq_true rfl, Nat.le_of_ble_eq_true rfl⟩) hA0 rfl rfl (Nat.le_of_ble_eq_true rfl) dL_law_683 ⟨show cells + 20 ≤ 603072 by omega, show slots + 200 ≤ 7182442 by omega⟩ ?_
  refine z_aload_n (j := 2) hx hb dL_law_686 rfl rfl ?_
  refine zl_callMi (As := []) S C.hK (ctX11_free l D kc am mm kM) (cwV 0 S.2.2.2.2 (gV q7_61 q7_62 q7_63 q1_12 q7_64) rfl rfl rfl hX11_free ⟨Nat.le_of_ble_eq_true rfl, Nat.le_of_ble_eq_true rfl⟩) hA0 rfl rfl (Nat.le_of_ble_eq_true rfl) dL_law_687 ⟨show cells + 20 + 0 ≤ 603072 by omega, show slots + 200 + 0 ≤ 7182442 by omega⟩ ?_
  refine z_icmp_eq (tgt := 2168) hx hb dL_law_690 (by decide) (fun g0 => ?_) (fun g0 => absurd heq g0)
  refine z_widen (show cells + 20 + 0 ≤ cells + 300 by omega) (show slots + 200 + 0 ≤ slots + 5400 by omega) ?_
  exact next _ _ _ _ (hR.mono (by omega))
theorem law_c6 {p : Program} {l : Launch} {e : Env} {s : State} {m : MethodId} {b : Nat} {below : List Frame} {meth : Method} {c : Code} {D : va_G} {kc : Nat → ClassId} {kd : ClassId} {ad am : Nat → Nat} {o1 o2 L : Nat} {xs : Nat → Int32} (C : LC p l s m b c D kc kd L xs) {Q : State → Prop} {cR : Int} {x mm : SS} (h : R cR x mm) (hc : 0 ≤ cR ∧ cR ≤ 1999990000) {i5 : Int32} {sv : Nat → Int32} (hsv : ∀ k, k < 9 → vp_in (i5 + Int32.ofNat k) L ∧ xs (i5 + Int32.ofNat k).toNatClampNeg = sv k) {cells slots : Nat} (hce : cells + 300 ≤ 603072) (hsl : slots + 5400 ≤ 7182442) (f : Nat → Int64) (g : Nat → UInt64) (next : ∀ (x2 m2 : SS) (f2 : Nat → Int64) (g2 : Nat → UInt64), R (cR + 2000) x2 m2 → LZ p l e s m b below meth c D kc kd ad am o1 o2 Q (cells + 300) (slots + 5400) f2 g2 x2 m2 2168 i5) : LZ p l e s m b below meth c D kc kd ad am o1 o2 Q cells slots f g x mm 695 i5 := by
  have S := C.S
  have hx := S.1
  have hb := S.2.1
  have hA0 : ∀ z, s.heap.size ≤ z → s.heap.size ≤ z := fun z hz => hz
  obtain ⟨kM, kX, hok⟩ := op_setEntry h (sv 1) (sv 2) (sv 3)
  refine z_aload_n (j := 1) hx hb dL_law_695 rfl rfl ?_
  refine zl_argI (k := 1) (j0 := 0) (j5 := 5) S C.hX C.hbl C.hbA (by decide) rfl rfl (hsv 1 (by decide)).1 (hsv 1 (by decide)).2 dL_law_696 dL_law_697 dL_law_699 dL_law_700 dL_law_701 ?_
  refine zl_argI (k := 2) (j0 := 0) (j5 := 5) S C.hX C.hbl C.hbA (by decide) rfl rfl (hsv 2 (by decide)).1 (hsv 2 (by decide)).2 dL_law_702 dL_law_703 dL_law_705 dL_law_706 dL_law_707 ?_
  refine zl_argI (k := 3) (j0 := 0) (j5 := 5) S C.hX C.hbl C.hbA (by decide) rfl rfl (hsv 3 (by decide)).1 (hsv 3 (by decide)).2 dL_law_708 dL_law_709 dL_law_711 dL_law_712 dL_law_713 ?_
  refine z_aload_n (j := 3) hx hb dL_law_714 rfl rfl ?_
  refine zl_callW1 (As := [.ref (ad 0), .int (sv 1), .int (sv 2), .int (sv 3), .ref o1]) S C.hK C.hKd C.hE (ctL_setEntry l C.hl D kc kd ad o1 x f (sv 1) (sv 2) (sv 3) (gI (fX11_setEntry mm (sv 1) (sv 2) (sv 3)).2 0) kX (okG_l (okI_G hok))) (vx_cwSW 5 S.2.2.2.2 (gSW q4_157 q4_158 q1_0 q4_159) rfl rfl rfl hL_setEntry ⟨Nat.le_of_ble_eq_true rfl, Nat.le_of_ble_eq_true rfl⟩) hA0 rfl rfl (Nat.le_of_ble_eq_true rfl) dL_law_715 ⟨show cells + 20 ≤ 603072 by omega, show slots + 200 ≤ 7182442 by omega⟩ (fun r u hu => ?_)
  obtain ⟨x1, e1⟩ := u
  obtain ⟨f1, he, hr1, hR, hv⟩ := ok_use1 (fun a : Int32 => a.toInt64) (okI_G hok) hu (tb5 (by decide))
  have he : e1 = _ := he
  subst he
  refine z_istore (lv' := [(6, .int r), (0, .ref b), (1, .ref (ad 0)), (2, .ref (am 0)), (3, .ref o1), (4, .ref o2), (5, .int i5)]) hx hb dL_law_718 (by decide) rfl ?_
  refine z_aload_n (j := 3) hx hb dL_law_720 rfl rfl ?_
  refine zl_argI (k := 1) (j0 := 1) (j5 := 6) S C.hX C.hbl C.hbA (by decide) rfl rfl (hsv 1 (by decide)).1 (hsv 1 (by decide)).2 dL_law_721 dL_law_722 dL_law_724 dL_law_725 dL_law_726 ?_
  refine zl_argI (k := 2) (j0 := 1) (j5 := 6) S C.hX C.hbl C.hbA (by decide) rfl rfl (hsv 2 (by decide)).1 (hsv 2 (by decide)).2 dL_law_727 dL_law_728 dL_law_730 dL_law_731 dL_law_732 ?_
  refine zl_argI (k := 3) (j0 := 1) (j5 := 6) S C.hX C.hbl C.hbA (by decide) rfl rfl (hsv 3 (by decide)).1 (hsv 3 (by decide)).2 dL_law_733 dL_law_734 dL_law_736 dL_law_737 dL_law_738 ?_
  refine zl_callMi (As := [.int (sv 1), .int (sv 2), .int (sv 3)]) S C.hK (ctX11_setEntry l D kc am mm (sv 1) (sv 2) (sv 3) kM) (cwV 3 S.2.2.2.2 (gV q7_65 q7_66 q7_67 q1_12 q7_68) rfl rfl rfl hX11_setEntry ⟨Nat.le_of_ble_eq_true rfl, Nat.le_of_ble_eq_true rfl⟩) hA0 rfl rfl (Nat.le_of_ble_eq_true rfl) dL_law_739 ⟨show cells + 20 + 0 ≤ 603072 by omega, show slots + 200 + 0 ≤ 7182442 by omega⟩ ?_
  refine z_istore (lv' := [(7, .int (fX11_setEntry mm (sv 1) (sv 2) (sv 3)).1), (6, .int r), (0, .ref b), (1, .ref (ad 0)), (2, .ref (am 0)), (3, .ref o1), (4, .ref o2), (5, .int i5)]) hx hb dL_law_742 (by decide) rfl ?_
  refine z_aload_n (j := 4) hx hb dL_law_744 rfl rfl ?_
  refine zl_callMi (F := (gI (fX11_setEntry mm (sv 1) (sv 2) (sv 3)).2 0, (fX11_setEntry mm (sv 1) (sv 2) (sv 3)).2)) (As := []) S C.hK (ctX11_thrown l D kc am (fX11_setEntry mm (sv 1) (sv 2) (sv 3)).2 trivial) (cwV 0 S.2.2.2.2 (gV q7_9 q7_10 q7_11 q1_12 q7_12) rfl rfl rfl hX11_thrown ⟨Nat.le_of_ble_eq_true rfl, Nat.le_of_ble_eq_true rfl⟩) hA0 rfl rfl (Nat.le_of_ble_eq_true rfl) dL_law_745 ⟨show cells + 20 + 0 + 0 ≤ 603072 by omega, show slots + 200 + 0 + 0 ≤ 7182442 by omega⟩ ?_
  refine z_iload (j := 1) hx hb dL_law_748 rfl ?_
  refine z_icmp_eq (tgt := 755) hx hb dL_law_750 (by decide) (fun g0 => ?_) (fun g0 => absurd hr1.symm g0)
  refine z_iload (j := 1) hx hb dL_law_755 rfl ?_
  refine z_if_ne (tgt := 772) hx hb dL_law_757 (by decide) (fun g1 => ?_) (fun g1 => ?_)
  · refine z_goto (tgt := 2168) hx hb dL_law_772 (by decide) ?_
    refine z_widen (show cells + 20 + 0 + 0 ≤ cells + 300 by omega) (show slots + 200 + 0 + 0 ≤ slots + 5400 by omega) ?_
    refine z_sub [2, 3, 4, 5, 6, 7] rfl ?_
    exact next _ _ _ _ (hR.mono (by omega))
  have hv := hv g1
  refine z_aload_n (j := 5) hx hb dL_law_760 rfl rfl ?_
  refine z_iconst (v := 0) hx hb dL_law_761 (by decide) ?_
  refine zl_lald S C.hK dL_law_762 ?_
  refine z_iload (j := 0) hx hb dL_law_763 rfl ?_
  refine z_i2l hx hb dL_law_765 ?_
  refine z_lcmp hx hb dL_law_766 ?_
  refine z_if_eq (tgt := 772) hx hb dL_law_767 (by decide) (fun g2 => ?_) (fun g2 => absurd (by rw [hv]; exact lg_self _) g2)
  refine z_goto (tgt := 2168) hx hb dL_law_772 (by decide) ?_
  refine z_widen (show cells + 20 + 0 + 0 ≤ cells + 300 by omega) (show slots + 200 + 0 + 0 ≤ slots + 5400 by omega) ?_
  refine z_sub [2, 3, 4, 5, 6, 7] rfl ?_
  exact next _ _ _ _ (hR.mono (by omega))
theorem law_c7 {p : Program} {l : Launch} {e : Env} {s : State} {m : MethodId} {b : Nat} {below : List Frame} {meth : Method} {c : Code} {D : va_G} {kc : Nat → ClassId} {kd : ClassId} {ad am : Nat → Nat} {o1 o2 L : Nat} {xs : Nat → Int32} (C : LC p l s m b c D kc kd L xs) {Q : State → Prop} {cR : Int} {x mm : SS} (h : R cR x mm) (hc : 0 ≤ cR ∧ cR ≤ 1999990000) {i5 : Int32} {sv : Nat → Int32} (hsv : ∀ k, k < 9 → vp_in (i5 + Int32.ofNat k) L ∧ xs (i5 + Int32.ofNat k).toNatClampNeg = sv k) {cells slots : Nat} (hce : cells + 300 ≤ 603072) (hsl : slots + 5400 ≤ 7182442) (f : Nat → Int64) (g : Nat → UInt64) (next : ∀ (x2 m2 : SS) (f2 : Nat → Int64) (g2 : Nat → UInt64), R (cR + 2000) x2 m2 → LZ p l e s m b below meth c D kc kd ad am o1 o2 Q (cells + 300) (slots + 5400) f2 g2 x2 m2 2168 i5) : LZ p l e s m b below meth c D kc kd ad am o1 o2 Q cells slots f g x mm 775 i5 := by
  have S := C.S
  have hx := S.1
  have hb := S.2.1
  have hA0 : ∀ z, s.heap.size ≤ z → s.heap.size ≤ z := fun z hz => hz
  obtain ⟨kM, kX, hok⟩ := op_setCatch h ⟨hc.1, by omega⟩ (sv 1) (sv 2)
  refine z_aload_n (j := 1) hx hb dL_law_775 rfl rfl ?_
  refine zl_argI (k := 1) (j0 := 0) (j5 := 5) S C.hX C.hbl C.hbA (by decide) rfl rfl (hsv 1 (by decide)).1 (hsv 1 (by decide)).2 dL_law_776 dL_law_777 dL_law_779 dL_law_780 dL_law_781 ?_
  refine zl_argI (k := 2) (j0 := 0) (j5 := 5) S C.hX C.hbl C.hbA (by decide) rfl rfl (hsv 2 (by decide)).1 (hsv 2 (by decide)).2 dL_law_782 dL_law_783 dL_law_785 dL_law_786 dL_law_787 ?_
  refine z_aload_n (j := 3) hx hb dL_law_788 rfl rfl ?_
  refine zl_callW1 (As := [.ref (ad 0), .int (sv 1), .int (sv 2), .ref o1]) S C.hK C.hKd C.hE (ctL_setCatch l C.hl D kc kd ad o1 x f (sv 1) (sv 2) (gI (fX11_setCatch mm (sv 1) (sv 2)).2 0) kX (okG_l (okI_G hok))) (vx_cwSW 4 S.2.2.2.2 (gSW q4_172 q4_173 q1_0 q4_174) rfl rfl rfl hL_setCatch ⟨Nat.le_of_ble_eq_true rfl, Nat.le_of_ble_eq_true rfl⟩) hA0 rfl rfl (Nat.le_of_ble_eq_true rfl) dL_law_789 ⟨show cells + 20 ≤ 603072 by omega, show slots + 200 ≤ 7182442 by omega⟩ (fun r u hu => ?_)
  obtain ⟨x1, e1⟩ := u
  obtain ⟨f1, he, hr1, hR, hv⟩ := ok_use1 (fun a : Int32 => a.toInt64) (okI_G hok) hu (tb5 (by decide))
  have he : e1 = _ := he
  subst he
  refine z_istore (lv' := [(6, .int r), (0, .ref b), (1, .ref (ad 0)), (2, .ref (am 0)), (3, .ref o1), (4, .ref o2), (5, .int i5)]) hx hb dL_law_792 (by decide) rfl ?_
  refine z_aload_n (j := 3) hx hb dL_law_794 rfl rfl ?_
  refine zl_argI (k := 1) (j0 := 1) (j5 := 6) S C.hX C.hbl C.hbA (by decide) rfl rfl (hsv 1 (by decide)).1 (hsv 1 (by decide)).2 dL_law_795 dL_law_796 dL_law_798 dL_law_799 dL_law_800 ?_
  refine zl_argI (k := 2) (j0 := 1) (j5 := 6) S C.hX C.hbl C.hbA (by decide) rfl rfl (hsv 2 (by decide)).1 (hsv 2 (by decide)).2 dL_law_801 dL_law_802 dL_law_804 dL_law_805 dL_law_806 ?_
  refine zl_callMi (As := [.int (sv 1), .int (sv 2)]) S C.hK (ctX11_setCatch l D kc am mm (sv 1) (sv 2) kM) (cwV 2 S.2.2.2.2 (gV q7_69 q7_70 q7_71 q1_12 q7_72) rfl rfl rfl hX11_setCatch ⟨Nat.le_of_ble_eq_true rfl, Nat.le_of_ble_eq_true rfl⟩) hA0 rfl rfl (Nat.le_of_ble_eq_true rfl) dL_law_807 ⟨show cells + 20 + 0 ≤ 603072 by omega, show slots + 200 + 0 ≤ 7182442 by omega⟩ ?_
  refine z_istore (lv' := [(7, .int (fX11_setCatch mm (sv 1) (sv 2)).1), (6, .int r), (0, .ref b), (1, .ref (ad 0)), (2, .ref (am 0)), (3, .ref o1), (4, .ref o2), (5, .int i5)]) hx hb dL_law_810 (by decide) rfl ?_
  refine z_aload_n (j := 4) hx hb dL_law_812 rfl rfl ?_
  refine zl_callMi (F := (gI (fX11_setCatch mm (sv 1) (sv 2)).2 0, (fX11_setCatch mm (sv 1) (sv 2)).2)) (As := []) S C.hK (ctX11_thrown l D kc am (fX11_setCatch mm (sv 1) (sv 2)).2 trivial) (cwV 0 S.2.2.2.2 (gV q7_9 q7_10 q7_11 q1_12 q7_12) rfl rfl rfl hX11_thrown ⟨Nat.le_of_ble_eq_true rfl, Nat.le_of_ble_eq_true rfl⟩) hA0 rfl rfl (Nat.le_of_ble_eq_true rfl) dL_law_813 ⟨show cells + 20 + 0 + 0 ≤ 603072 by omega, show slots + 200 + 0 + 0 ≤ 7182442 by omega⟩ ?_
  refine z_iload (j := 1) hx hb dL_law_816 rfl ?_
  refine z_icmp_eq (tgt := 823) hx hb dL_law_818 (by decide) (fun g0 => ?_) (fun g0 => absurd hr1.symm g0)
  refine z_iload (j := 1) hx hb dL_law_823 rfl ?_
  refine z_if_ne (tgt := 840) hx hb dL_law_825 (by decide) (fun g1 => ?_) (fun g1 => ?_)
  · refine z_goto (tgt := 2168) hx hb dL_law_840 (by decide) ?_
    refine z_widen (show cells + 20 + 0 + 0 ≤ cells + 300 by omega) (show slots + 200 + 0 + 0 ≤ slots + 5400 by omega) ?_
    refine z_sub [2, 3, 4, 5, 6, 7] rfl ?_
    exact next _ _ _ _ (hR.mono (by omega))
  have hv := hv g1
  refine z_aload_n (j := 5) hx hb dL_law_828 rfl rfl ?_
  refine z_iconst (v := 0) hx hb dL_law_829 (by decide) ?_
  refine zl_lald S C.hK dL_law_830 ?_
  refine z_iload (j := 0) hx hb dL_law_831 rfl ?_
  refine z_i2l hx hb dL_law_833 ?_
  refine z_lcmp hx hb dL_law_834 ?_
  refine z_if_eq (tgt := 840) hx hb dL_law_835 (by decide) (fun g2 => ?_) (fun g2 => absurd (by rw [hv]; exact lg_self _) g2)
  refine z_goto (tgt := 2168) hx hb dL_law_840 (by decide) ?_
  refine z_widen (show cells + 20 + 0 + 0 ≤ cells + 300 by omega) (show slots + 200 + 0 + 0 ≤ slots + 5400 by omega) ?_
  refine z_sub [2, 3, 4, 5, 6, 7] rfl ?_
  exact next _ _ _ _ (hR.mono (by omega))
theorem law_c8 {p : Program} {l : Launch} {e : Env} {s : State} {m : MethodId} {b : Nat} {below : List Frame} {meth : Method} {c : Code} {D : va_G} {kc : Nat → ClassId} {kd : ClassId} {ad am : Nat → Nat} {o1 o2 L : Nat} {xs : Nat → Int32} (C : LC p l s m b c D kc kd L xs) {Q : State → Prop} {cR : Int} {x mm : SS} (h : R cR x mm) (hc : 0 ≤ cR ∧ cR ≤ 1999990000) {i5 : Int32} {sv : Nat → Int32} (hsv : ∀ k, k < 9 → vp_in (i5 + Int32.ofNat k) L ∧ xs (i5 + Int32.ofNat k).toNatClampNeg = sv k) {cells slots : Nat} (hce : cells + 300 ≤ 603072) (hsl : slots + 5400 ≤ 7182442) (f : Nat → Int64) (g : Nat → UInt64) (next : ∀ (x2 m2 : SS) (f2 : Nat → Int64) (g2 : Nat → UInt64), R (cR + 2000) x2 m2 → LZ p l e s m b below meth c D kc kd ad am o1 o2 Q (cells + 300) (slots + 5400) f2 g2 x2 m2 2168 i5) : LZ p l e s m b below meth c D kc kd ad am o1 o2 Q cells slots f g x mm 843 i5 := by
  have S := C.S
  have hx := S.1
  have hb := S.2.1
  have hA0 : ∀ z, s.heap.size ≤ z → s.heap.size ≤ z := fun z hz => hz
  obtain ⟨kM, kX, hok⟩ := op_setCell h (sv 1) (sv 2)
  refine z_aload_n (j := 1) hx hb dL_law_843 rfl rfl ?_
  refine zl_argI (k := 1) (j0 := 0) (j5 := 5) S C.hX C.hbl C.hbA (by decide) rfl rfl (hsv 1 (by decide)).1 (hsv 1 (by decide)).2 dL_law_844 dL_law_845 dL_law_847 dL_law_848 dL_law_849 ?_
  refine zl_argI (k := 2) (j0 := 0) (j5 := 5) S C.hX C.hbl C.hbA (by decide) rfl rfl (hsv 2 (by decide)).1 (hsv 2 (by decide)).2 dL_law_850 dL_law_851 dL_law_853 dL_law_854 dL_law_855 ?_
  refine z_aload_n (j := 3) hx hb dL_law_856 rfl rfl ?_
  refine zl_callW1 (As := [.ref (ad 0), .int (sv 1), .int (sv 2), .ref o1]) S C.hK C.hKd C.hE (ctL_setCell l C.hl D kc kd ad o1 x f (sv 1) (sv 2) (gI (fX11_setCell mm (sv 1) (sv 2)).2 0) kX (okG_l (okI_G hok))) (vx_cwSW 4 S.2.2.2.2 (gSW q4_190 q4_191 q1_0 q4_192) rfl rfl rfl hL_setCell ⟨Nat.le_of_ble_eq_true rfl, Nat.le_of_ble_eq_true rfl⟩) hA0 rfl rfl (Nat.le_of_ble_eq_true rfl) dL_law_857 ⟨show cells + 20 ≤ 603072 by omega, show slots + 200 ≤ 7182442 by omega⟩ (fun r u hu => ?_)
  obtain ⟨x1, e1⟩ := u
  obtain ⟨f1, he, hr1, hR, hv⟩ := ok_use1 (fun a : Int32 => a.toInt64) (okI_G hok) hu (tb5 (by decide))
  have he : e1 = _ := he
  subst he
  refine z_istore (lv' := [(6, .int r), (0, .ref b), (1, .ref (ad 0)), (2, .ref (am 0)), (3, .ref o1), (4, .ref o2), (5, .int i5)]) hx hb dL_law_860 (by decide) rfl ?_
  refine z_aload_n (j := 3) hx hb dL_law_862 rfl rfl ?_
  refine zl_argI (k := 1) (j0 := 1) (j5 := 6) S C.hX C.hbl C.hbA (by decide) rfl rfl (hsv 1 (by decide)).1 (hsv 1 (by decide)).2 dL_law_863 dL_law_864 dL_law_866 dL_law_867 dL_law_868 ?_
  refine zl_argI (k := 2) (j0 := 1) (j5 := 6) S C.hX C.hbl C.hbA (by decide) rfl rfl (hsv 2 (by decide)).1 (hsv 2 (by decide)).2 dL_law_869 dL_law_870 dL_law_872 dL_law_873 dL_law_874 ?_
  refine zl_callMi (As := [.int (sv 1), .int (sv 2)]) S C.hK (ctX11_setCell l D kc am mm (sv 1) (sv 2) kM) (cwV 2 S.2.2.2.2 (gV q7_73 q7_74 q7_75 q1_12 q7_76) rfl rfl rfl hX11_setCell ⟨Nat.le_of_ble_eq_true rfl, Nat.le_of_ble_eq_true rfl⟩) hA0 rfl rfl (Nat.le_of_ble_eq_true rfl) dL_law_875 ⟨show cells + 20 + 0 ≤ 603072 by omega, show slots + 200 + 0 ≤ 7182442 by omega⟩ ?_
  refine z_istore (lv' := [(7, .int (fX11_setCell mm (sv 1) (sv 2)).1), (6, .int r), (0, .ref b), (1, .ref (ad 0)), (2, .ref (am 0)), (3, .ref o1), (4, .ref o2), (5, .int i5)]) hx hb dL_law_878 (by decide) rfl ?_
  refine z_aload_n (j := 4) hx hb dL_law_880 rfl rfl ?_
  refine zl_callMi (F := (gI (fX11_setCell mm (sv 1) (sv 2)).2 0, (fX11_setCell mm (sv 1) (sv 2)).2)) (As := []) S C.hK (ctX11_thrown l D kc am (fX11_setCell mm (sv 1) (sv 2)).2 trivial) (cwV 0 S.2.2.2.2 (gV q7_9 q7_10 q7_11 q1_12 q7_12) rfl rfl rfl hX11_thrown ⟨Nat.le_of_ble_eq_true rfl, Nat.le_of_ble_eq_true rfl⟩) hA0 rfl rfl (Nat.le_of_ble_eq_true rfl) dL_law_881 ⟨show cells + 20 + 0 + 0 ≤ 603072 by omega, show slots + 200 + 0 + 0 ≤ 7182442 by omega⟩ ?_
  refine z_iload (j := 1) hx hb dL_law_884 rfl ?_
  refine z_icmp_eq (tgt := 891) hx hb dL_law_886 (by decide) (fun g0 => ?_) (fun g0 => absurd hr1.symm g0)
  refine z_iload (j := 1) hx hb dL_law_891 rfl ?_
  refine z_if_ne (tgt := 908) hx hb dL_law_893 (by decide) (fun g1 => ?_) (fun g1 => ?_)
  · refine z_goto (tgt := 2168) hx hb dL_law_908 (by decide) ?_
    refine z_widen (show cells + 20 + 0 + 0 ≤ cells + 300 by omega) (show slots + 200 + 0 + 0 ≤ slots + 5400 by omega) ?_
    refine z_sub [2, 3, 4, 5, 6, 7] rfl ?_
    exact next _ _ _ _ (hR.mono (by omega))
  have hv := hv g1
  refine z_aload_n (j := 5) hx hb dL_law_896 rfl rfl ?_
  refine z_iconst (v := 0) hx hb dL_law_897 (by decide) ?_
  refine zl_lald S C.hK dL_law_898 ?_
  refine z_iload (j := 0) hx hb dL_law_899 rfl ?_
  refine z_i2l hx hb dL_law_901 ?_
  refine z_lcmp hx hb dL_law_902 ?_
  refine z_if_eq (tgt := 908) hx hb dL_law_903 (by decide) (fun g2 => ?_) (fun g2 => absurd (by rw [hv]; exact lg_self _) g2)
  refine z_goto (tgt := 2168) hx hb dL_law_908 (by decide) ?_
  refine z_widen (show cells + 20 + 0 + 0 ≤ cells + 300 by omega) (show slots + 200 + 0 + 0 ≤ slots + 5400 by omega) ?_
  refine z_sub [2, 3, 4, 5, 6, 7] rfl ?_
  exact next _ _ _ _ (hR.mono (by omega))
theorem law_c9 {p : Program} {l : Launch} {e : Env} {s : State} {m : MethodId} {b : Nat} {below : List Frame} {meth : Method} {c : Code} {D : va_G} {kc : Nat → ClassId} {kd : ClassId} {ad am : Nat → Nat} {o1 o2 L : Nat} {xs : Nat → Int32} (C : LC p l s m b c D kc kd L xs) {Q : State → Prop} {cR : Int} {x mm : SS} (h : R cR x mm) (hc : 0 ≤ cR ∧ cR ≤ 1999990000) {i5 : Int32} {sv : Nat → Int32} (hsv : ∀ k, k < 9 → vp_in (i5 + Int32.ofNat k) L ∧ xs (i5 + Int32.ofNat k).toNatClampNeg = sv k) {cells slots : Nat} (hce : cells + 300 ≤ 603072) (hsl : slots + 5400 ≤ 7182442) (f : Nat → Int64) (g : Nat → UInt64) (next : ∀ (x2 m2 : SS) (f2 : Nat → Int64) (g2 : Nat → UInt64), R (cR + 2000) x2 m2 → LZ p l e s m b below meth c D kc kd ad am o1 o2 Q (cells + 300) (slots + 5400) f2 g2 x2 m2 2168 i5) : LZ p l e s m b below meth c D kc kd ad am o1 o2 Q cells slots f g x mm 911 i5 := by
  have S := C.S
  have hx := S.1
  have hb := S.2.1
  have hA0 : ∀ z, s.heap.size ≤ z → s.heap.size ≤ z := fun z hz => hz
  obtain ⟨kM, kX, hok⟩ := op_setRegister h (sv 1) (sv 2)
  refine z_aload_n (j := 1) hx hb dL_law_911 rfl rfl ?_
  refine zl_argI (k := 1) (j0 := 0) (j5 := 5) S C.hX C.hbl C.hbA (by decide) rfl rfl (hsv 1 (by decide)).1 (hsv 1 (by decide)).2 dL_law_912 dL_law_913 dL_law_915 dL_law_916 dL_law_917 ?_
  refine zl_argI (k := 2) (j0 := 0) (j5 := 5) S C.hX C.hbl C.hbA (by decide) rfl rfl (hsv 2 (by decide)).1 (hsv 2 (by decide)).2 dL_law_918 dL_law_919 dL_law_921 dL_law_922 dL_law_923 ?_
  refine z_aload_n (j := 3) hx hb dL_law_924 rfl rfl ?_
  refine zl_callW1 (As := [.ref (ad 0), .int (sv 1), .int (sv 2), .ref o1]) S C.hK C.hKd C.hE (ctL_setRegister l C.hl D kc kd ad o1 x f (sv 1) (sv 2) (gI (fX11_setRegister mm (sv 1) (sv 2)).2 0) kX (okG_l (okI_G hok))) (vx_cwSW 4 S.2.2.2.2 (gSW q4_206 q4_207 q1_0 q4_208) rfl rfl rfl hL_setRegister ⟨Nat.le_of_ble_eq_true rfl, Nat.le_of_ble_eq_true rfl⟩) hA0 rfl rfl (Nat.le_of_ble_eq_true rfl) dL_law_925 ⟨show cells + 20 ≤ 603072 by omega, show slots + 200 ≤ 7182442 by omega⟩ (fun r u hu => ?_)
  obtain ⟨x1, e1⟩ := u
  obtain ⟨f1, he, hr1, hR, hv⟩ := ok_use1 (fun a : Int32 => a.toInt64) (okI_G hok) hu (tb5 (by decide))
  have he : e1 = _ := he
  subst he
  refine z_istore (lv' := [(6, .int r), (0, .ref b), (1, .ref (ad 0)), (2, .ref (am 0)), (3, .ref o1), (4, .ref o2), (5, .int i5)]) hx hb dL_law_928 (by decide) rfl ?_
  refine z_aload_n (j := 3) hx hb dL_law_930 rfl rfl ?_
  refine zl_argI (k := 1) (j0 := 1) (j5 := 6) S C.hX C.hbl C.hbA (by decide) rfl rfl (hsv 1 (by decide)).1 (hsv 1 (by decide)).2 dL_law_931 dL_law_932 dL_law_934 dL_law_935 dL_law_936 ?_
  refine zl_argI (k := 2) (j0 := 1) (j5 := 6) S C.hX C.hbl C.hbA (by decide) rfl rfl (hsv 2 (by decide)).1 (hsv 2 (by decide)).2 dL_law_937 dL_law_938 dL_law_940 dL_law_941 dL_law_942 ?_
  refine zl_callMi (As := [.int (sv 1), .int (sv 2)]) S C.hK (ctX11_setRegister l D kc am mm (sv 1) (sv 2) kM) (cwV 2 S.2.2.2.2 (gV q7_77 q7_78 q7_79 q1_12 q7_80) rfl rfl rfl hX11_setRegister ⟨Nat.le_of_ble_eq_true rfl, Nat.le_of_ble_eq_true rfl⟩) hA0 rfl rfl (Nat.le_of_ble_eq_true rfl) dL_law_943 ⟨show cells + 20 + 0 ≤ 603072 by omega, show slots + 200 + 0 ≤ 7182442 by omega⟩ ?_
  refine z_istore (lv' := [(7, .int (fX11_setRegister mm (sv 1) (sv 2)).1), (6, .int r), (0, .ref b), (1, .ref (ad 0)), (2, .ref (am 0)), (3, .ref o1), (4, .ref o2), (5, .int i5)]) hx hb dL_law_946 (by decide) rfl ?_
  refine z_aload_n (j := 4) hx hb dL_law_948 rfl rfl ?_
  refine zl_callMi (F := (gI (fX11_setRegister mm (sv 1) (sv 2)).2 0, (fX11_setRegister mm (sv 1) (sv 2)).2)) (As := []) S C.hK (ctX11_thrown l D kc am (fX11_setRegister mm (sv 1) (sv 2)).2 trivial) (cwV 0 S.2.2.2.2 (gV q7_9 q7_10 q7_11 q1_12 q7_12) rfl rfl rfl hX11_thrown ⟨Nat.le_of_ble_eq_true rfl, Nat.le_of_ble_eq_true rfl⟩) hA0 rfl rfl (Nat.le_of_ble_eq_true rfl) dL_law_949 ⟨show cells + 20 + 0 + 0 ≤ 603072 by omega, show slots + 200 + 0 + 0 ≤ 7182442 by omega⟩ ?_
  refine z_iload (j := 1) hx hb dL_law_952 rfl ?_
  refine z_icmp_eq (tgt := 959) hx hb dL_law_954 (by decide) (fun g0 => ?_) (fun g0 => absurd hr1.symm g0)
  refine z_iload (j := 1) hx hb dL_law_959 rfl ?_
  refine z_if_ne (tgt := 976) hx hb dL_law_961 (by decide) (fun g1 => ?_) (fun g1 => ?_)
  · refine z_goto (tgt := 2168) hx hb dL_law_976 (by decide) ?_
    refine z_widen (show cells + 20 + 0 + 0 ≤ cells + 300 by omega) (show slots + 200 + 0 + 0 ≤ slots + 5400 by omega) ?_
    refine z_sub [2, 3, 4, 5, 6, 7] rfl ?_
    exact next _ _ _ _ (hR.mono (by omega))
  have hv := hv g1
  refine z_aload_n (j := 5) hx hb dL_law_964 rfl rfl ?_
  refine z_iconst (v := 0) hx hb dL_law_965 (by decide) ?_
  refine zl_lald S C.hK dL_law_966 ?_
  refine z_iload (j := 0) hx hb dL_law_967 rfl ?_
  refine z_i2l hx hb dL_law_969 ?_
  refine z_lcmp hx hb dL_law_970 ?_
  refine z_if_eq (tgt := 976) hx hb dL_law_971 (by decide) (fun g2 => ?_) (fun g2 => absurd (by rw [hv]; exact lg_self _) g2)
  refine z_goto (tgt := 2168) hx hb dL_law_976 (by decide) ?_
  refine z_widen (show cells + 20 + 0 + 0 ≤ cells + 300 by omega) (show slots + 200 + 0 + 0 ≤ slots + 5400 by omega) ?_
  refine z_sub [2, 3, 4, 5, 6, 7] rfl ?_
  exact next _ _ _ _ (hR.mono (by omega))
theorem law_c10 {p : Program} {l : Launch} {e : Env} {s : State} {m : MethodId} {b : Nat} {below : List Frame} {meth : Method} {c : Code} {D : va_G} {kc : Nat → ClassId} {kd : ClassId} {ad am : Nat → Nat} {o1 o2 L : Nat} {xs : Nat → Int32} (C : LC p l s m b c D kc kd L xs) {Q : State → Prop} {cR : Int} {x mm : SS} (h : R cR x mm) (hc : 0 ≤ cR ∧ cR ≤ 1999990000) {i5 : Int32} {sv : Nat → Int32} (hsv : ∀ k, k < 9 → vp_in (i5 + Int32.ofNat k) L ∧ xs (i5 + Int32.ofNat k).toNatClampNeg = sv k) {cells slots : Nat} (hce : cells + 300 ≤ 603072) (hsl : slots + 5400 ≤ 7182442) (f : Nat → Int64) (g : Nat → UInt64) (next : ∀ (x2 m2 : SS) (f2 : Nat → Int64) (g2 : Nat → UInt64), R (cR + 2000) x2 m2 → LZ p l e s m b below meth c D kc kd ad am o1 o2 Q (cells + 300) (slots + 5400) f2 g2 x2 m2 2168 i5) : LZ p l e s m b below meth c D kc kd ad am o1 o2 Q cells slots f g x mm 979 i5 := by
  have S := C.S
  have hx := S.1
  have hb := S.2.1
  have hA0 : ∀ z, s.heap.size ≤ z → s.heap.size ≤ z := fun z hz => hz
  obtain ⟨kM, kX, hok⟩ := op_start h (sv 1) (sv 2) (if (sv 3) = 0 then 0 else 1)
  refine z_aload_n (j := 1) hx hb dL_law_979 rfl rfl ?_
  refine zl_argI (k := 1) (j0 := 0) (j5 := 5) S C.hX C.hbl C.hbA (by decide) rfl rfl (hsv 1 (by decide)).1 (hsv 1 (by decide)).2 dL_law_980 dL_law_981 dL_law_983 dL_law_984 dL_law_985 ?_
  refine zl_argI (k := 2) (j0 := 0) (j5 := 5) S C.hX C.hbl C.hbA (by decide) rfl rfl (hsv 2 (by decide)).1 (hsv 2 (by decide)).2 dL_law_986 dL_law_987 dL_law_989 dL_law_990 dL_law_991 ?_
  refine zl_argI (k := 3) (j0 := 0) (j5 := 5) S C.hX C.hbl C.hbA (by decide) rfl rfl (hsv 3 (by decide)).1 (hsv 3 (by decide)).2 dL_law_992 dL_law_993 dL_law_995 dL_law_996 dL_law_997 ?_
  refine zl_bool hx hb dL_law_998 dL_law_1001 dL_law_1002 dL_law_1005 ?_
  refine z_aload_n (j := 3) hx hb dL_law_1006 rfl rfl ?_
  refine zl_callW1 (As := [.ref (ad 0), .int (sv 1), .int (sv 2), .int (if (sv 3) = 0 then 0 else 1), .ref o1]) S C.hK C.hKd C.hE (ctL_start l C.hl D kc kd ad o1 x f (sv 1) (sv 2) (if (sv 3) = 0 then 0 else 1) (gI (fX11_start mm (sv 1) (sv 2) (if (sv 3) = 0 then 0 else 1)).2 0) kX (okG_l (okI_G hok))) (vx_cwSW 5 S.2.2.2.2 (gSW q4_217 q4_218 q1_0 q4_219) rfl rfl rfl hL_start ⟨Nat.le_of_ble_eq_true rfl, Nat.le_of_ble_eq_true rfl⟩) hA0 rfl rfl (Nat.le_of_ble_eq_true rfl) dL_law_1007 ⟨show cells + 20 ≤ 603072 by omega, show slots + 200 ≤ 7182442 by omega⟩ (fun r u hu => ?_)
  obtain ⟨x1, e1⟩ := u
  obtain ⟨f1, he, hr1, hR, hv⟩ := ok_use1 (fun a : Int32 => a.toInt64) (okI_G hok) hu (tb5 (by decide))
  have he : e1 = _ := he
  subst he
  refine z_istore (lv' := [(6, .int r), (0, .ref b), (1, .ref (ad 0)), (2, .ref (am 0)), (3, .ref o1), (4, .ref o2), (5, .int i5)]) hx hb dL_law_1010 (by decide) rfl ?_
  refine z_aload_n (j := 3) hx hb dL_law_1012 rfl rfl ?_
  refine zl_argI (k := 1) (j0 := 1) (j5 := 6) S C.hX C.hbl C.hbA (by decide) rfl rfl (hsv 1 (by decide)).1 (hsv 1 (by decide)).2 dL_law_1013 dL_law_1014 dL_law_1016 dL_law_1017 dL_law_1018 ?_
  refine zl_argI (k := 2) (j0 := 1) (j5 := 6) S C.hX C.hbl C.hbA (by decide) rfl rfl (hsv 2 (by decide)).1 (hsv 2 (by decide)).2 dL_law_1019 dL_law_1020 dL_law_1022 dL_law_1023 dL_law_1024 ?_
  refine zl_argI (k := 3) (j0 := 1) (j5 := 6) S C.hX C.hbl C.hbA (by decide) rfl rfl (hsv 3 (by decide)).1 (hsv 3 (by decide)).2 dL_law_1025 dL_law_1026 dL_law_1028 dL_law_1029 dL_law_1030 ?_
  refine zl_bool hx hb dL_law_1031 dL_law_1034 dL_law_1035 dL_law_1038 ?_
  refine zl_callMi (As := [.int (sv 1), .int (sv 2), .int (if (sv 3) = 0 then 0 else 1)]) S C.hK (ctX11_start l D kc am mm (sv 1) (sv 2) (if (sv 3) = 0 then 0 else 1) kM) (cwV 3 S.2.2.2.2 (gV q7_81 q7_82 q7_83 q1_12 q7_84) rfl rfl rfl hX11_start ⟨Nat.le_of_ble_eq_true rfl, Nat.le_of_ble_eq_true rfl⟩) hA0 rfl rfl (Nat.le_of_ble_eq_true rfl) dL_law_1039 ⟨show cells + 20 + 0 ≤ 603072 by omega, show slots + 200 + 0 ≤ 7182442 by omega⟩ ?_
  refine z_istore (lv' := [(7, .int (fX11_start mm (sv 1) (sv 2) (if (sv 3) = 0 then 0 else 1)).1), (6, .int r), (0, .ref b), (1, .ref (ad 0)), (2, .ref (am 0)), (3, .ref o1), (4, .ref o2), (5, .int i5)]) hx hb dL_law_1042 (by decide) rfl ?_
  refine z_aload_n (j := 4) hx hb dL_law_1044 rfl rfl ?_
  refine zl_callMi (F := (gI (fX11_start mm (sv 1) (sv 2) (if (sv 3) = 0 then 0 else 1)).2 0, (fX11_start mm (sv 1) (sv 2) (if (sv 3) = 0 then 0 else 1)).2)) (As := []) S C.hK (ctX11_thrown l D kc am (fX11_start mm (sv 1) (sv 2) (if (sv 3) = 0 then 0 else 1)).2 trivial) (cwV 0 S.2.2.2.2 (gV q7_9 q7_10 q7_11 q1_12 q7_12) rfl rfl rfl hX11_thrown ⟨Nat.le_of_ble_eq_true rfl, Nat.le_of_ble_eq_true rfl⟩) hA0 rfl rfl (Nat.le_of_ble_eq_true rfl) dL_law_1045 ⟨show cells + 20 + 0 + 0 ≤ 603072 by omega, show slots + 200 + 0 + 0 ≤ 7182442 by omega⟩ ?_
  refine z_iload (j := 1) hx hb dL_law_1048 rfl ?_
  refine z_icmp_eq (tgt := 1055) hx hb dL_law_1050 (by decide) (fun g0 => ?_) (fun g0 => absurd hr1.symm g0)
  refine z_iload (j := 1) hx hb dL_law_1055 rfl ?_
  refine z_if_ne (tgt := 1072) hx hb dL_law_1057 (by decide) (fun g1 => ?_) (fun g1 => ?_)
  · refine z_goto (tgt := 2168) hx hb dL_law_1072 (by decide) ?_
    refine z_widen (show cells + 20 + 0 + 0 ≤ cells + 300 by omega) (show slots + 200 + 0 + 0 ≤ slots + 5400 by omega) ?_
    refine z_sub [2, 3, 4, 5, 6, 7] rfl ?_
    exact next _ _ _ _ (hR.mono (by omega))
  have hv := hv g1
  refine z_aload_n (j := 5) hx hb dL_law_1060 rfl rfl ?_
  refine z_iconst (v := 0) hx hb dL_law_1061 (by decide) ?_
  refine zl_lald S C.hK dL_law_1062 ?_
  refine z_iload (j := 0) hx hb dL_law_1063 rfl ?_
  refine z_i2l hx hb dL_law_1065 ?_
  refine z_lcmp hx hb dL_law_1066 ?_
  refine z_if_eq (tgt := 1072) hx hb dL_law_1067 (by decide) (fun g2 => ?_) (fun g2 => absurd (by rw [hv]; exact lg_self _) g2)
  refine z_goto (tgt := 2168) hx hb dL_law_1072 (by decide) ?_
  refine z_widen (show cells + 20 + 0 + 0 ≤ cells + 300 by omega) (show slots + 200 + 0 + 0 ≤ slots + 5400 by omega) ?_
  refine z_sub [2, 3, 4, 5, 6, 7] rfl ?_
  exact next _ _ _ _ (hR.mono (by omega))
theorem law_c11 {p : Program} {l : Launch} {e : Env} {s : State} {m : MethodId} {b : Nat} {below : List Frame} {meth : Method} {c : Code} {D : va_G} {kc : Nat → ClassId} {kd : ClassId} {ad am : Nat → Nat} {o1 o2 L : Nat} {xs : Nat → Int32} (C : LC p l s m b c D kc kd L xs) {Q : State → Prop} {cR : Int} {x mm : SS} (h : R cR x mm) (hc : 0 ≤ cR ∧ cR ≤ 1999990000) {i5 : Int32} {sv : Nat → Int32} (hsv : ∀ k, k < 9 → vp_in (i5 + Int32.ofNat k) L ∧ xs (i5 + Int32.ofNat k).toNatClampNeg = sv k) {cells slots : Nat} (hce : cells + 300 ≤ 603072) (hsl : slots + 5400 ≤ 7182442) (f : Nat → Int64) (g : Nat → UInt64) (next : ∀ (x2 m2 : SS) (f2 : Nat → Int64) (g2 : Nat → UInt64), R (cR + 2000) x2 m2 → LZ p l e s m b below meth c D kc kd ad am o1 o2 Q (cells + 300) (slots + 5400) f2 g2 x2 m2 2168 i5) : LZ p l e s m b below meth c D kc kd ad am o1 o2 Q cells slots f g x mm 1075 i5 := by
  have S := C.S
  have hx := S.1
  have hb := S.2.1
  have hA0 : ∀ z, s.heap.size ≤ z → s.heap.size ≤ z := fun z hz => hz
  obtain ⟨kM, kX, hok⟩ := op_setPage h (sv 1) (if (sv 2) = 0 then 0 else 1)
  refine z_aload_n (j := 1) hx hb dL_law_1075 rfl rfl ?_
  refine zl_argI (k := 1) (j0 := 0) (j5 := 5) S C.hX C.hbl C.hbA (by decide) rfl rfl (hsv 1 (by decide)).1 (hsv 1 (by decide)).2 dL_law_1076 dL_law_1077 dL_law_1079 dL_law_1080 dL_law_1081 ?_
  refine zl_argI (k := 2) (j0 := 0) (j5 := 5) S C.hX C.hbl C.hbA (by decide) rfl rfl (hsv 2 (by decide)).1 (hsv 2 (by decide)).2 dL_law_1082 dL_law_1083 dL_law_1085 dL_law_1086 dL_law_1087 ?_
  refine zl_bool hx hb dL_law_1088 dL_law_1091 dL_law_1092 dL_law_1095 ?_
  refine z_aload_n (j := 3) hx hb dL_law_1096 rfl rfl ?_
  refine zl_callW1 (As := [.ref (ad 0), .int (sv 1), .int (if (sv 2) = 0 then 0 else 1), .ref o1]) S C.hK C.hKd C.hE (ctL_setPage l C.hl D kc kd ad o1 x f (sv 1) (if (sv 2) = 0 then 0 else 1) (gI (fX11_setPage mm (sv 1) (if (sv 2) = 0 then 0 else 1)).2 0) kX (okG_l (okI_G hok))) (vx_cwSW 4 S.2.2.2.2 (gSW q4_228 q4_229 q1_0 q4_230) rfl rfl rfl hL_setPage ⟨Nat.le_of_ble_eq_true rfl, Nat.le_of_ble_eq_true rfl⟩) hA0 rfl rfl (Nat.le_of_ble_eq_true rfl) dL_law_1097 ⟨show cells + 20 ≤ 603072 by omega, show slots + 200 ≤ 7182442 by omega⟩ (fun r u hu => ?_)
  obtain ⟨x1, e1⟩ := u
  obtain ⟨f1, he, hr1, hR, hv⟩ := ok_use1 (fun a : Int32 => if a = 0 then 0 else 1) (okI_G hok) hu (tb5 (by decide))
  have he : e1 = _ := he
  subst he
  refine z_istore (lv' := [(6, .int r), (0, .ref b), (1, .ref (ad 0)), (2, .ref (am 0)), (3, .ref o1), (4, .ref o2), (5, .int i5)]) hx hb dL_law_1100 (by decide) rfl ?_
  refine z_aload_n (j := 3) hx hb dL_law_1102 rfl rfl ?_
  refine zl_argI (k := 1) (j0 := 1) (j5 := 6) S C.hX C.hbl C.hbA (by decide) rfl rfl (hsv 1 (by decide)).1 (hsv 1 (by decide)).2 dL_law_1103 dL_law_1104 dL_law_1106 dL_law_1107 dL_law_1108 ?_
  refine zl_argI (k := 2) (j0 := 1) (j5 := 6) S C.hX C.hbl C.hbA (by decide) rfl rfl (hsv 2 (by decide)).1 (hsv 2 (by decide)).2 dL_law_1109 dL_law_1110 dL_law_1112 dL_law_1113 dL_law_1114 ?_
  refine zl_bool hx hb dL_law_1115 dL_law_1118 dL_law_1119 dL_law_1122 ?_
  refine zl_callMi (As := [.int (sv 1), .int (if (sv 2) = 0 then 0 else 1)]) S C.hK (ctX11_setPage l D kc am mm (sv 1) (if (sv 2) = 0 then 0 else 1) kM) (cwV 2 S.2.2.2.2 (gV q7_85 q7_86 q7_87 q1_12 q7_88) rfl rfl rfl hX11_setPage ⟨Nat.le_of_ble_eq_true rfl, Nat.le_of_ble_eq_true rfl⟩) hA0 rfl rfl (Nat.le_of_ble_eq_true rfl) dL_law_1123 ⟨show cells + 20 + 0 ≤ 603072 by omega, show slots + 200 + 0 ≤ 7182442 by omega⟩ ?_
  refine z_istore (lv' := [(7, .int (fX11_setPage mm (sv 1) (if (sv 2) = 0 then 0 else 1)).1), (6, .int r), (0, .ref b), (1, .ref (ad 0)), (2, .ref (am 0)), (3, .ref o1), (4, .ref o2), (5, .int i5)]) hx hb dL_law_1126 (by decide) rfl ?_
  refine z_aload_n (j := 4) hx hb dL_law_1128 rfl rfl ?_
  refine zl_callMi (F := (gI (fX11_setPage mm (sv 1) (if (sv 2) = 0 then 0 else 1)).2 0, (fX11_setPage mm (sv 1) (if (sv 2) = 0 then 0 else 1)).2)) (As := []) S C.hK (ctX11_thrown l D kc am (fX11_setPage mm (sv 1) (if (sv 2) = 0 then 0 else 1)).2 trivial) (cwV 0 S.2.2.2.2 (gV q7_9 q7_10 q7_11 q1_12 q7_12) rfl rfl rfl hX11_thrown ⟨Nat.le_of_ble_eq_true rfl, Nat.le_of_ble_eq_true rfl⟩) hA0 rfl rfl (Nat.le_of_ble_eq_true rfl) dL_law_1129 ⟨show cells + 20 + 0 + 0 ≤ 603072 by omega, show slots + 200 + 0 + 0 ≤ 7182442 by omega⟩ ?_
  refine z_iload (j := 1) hx hb dL_law_1132 rfl ?_
  refine z_icmp_eq (tgt := 1139) hx hb dL_law_1134 (by decide) (fun g0 => ?_) (fun g0 => absurd hr1.symm g0)
  refine z_iload (j := 1) hx hb dL_law_1139 rfl ?_
  refine z_if_ne (tgt := 1163) hx hb dL_law_1141 (by decide) (fun g1 => ?_) (fun g1 => ?_)
  · refine z_goto (tgt := 2168) hx hb dL_law_1163 (by decide) ?_
    refine z_widen (show cells + 20 + 0 + 0 ≤ cells + 300 by omega) (show slots + 200 + 0 + 0 ≤ slots + 5400 by omega) ?_
    refine z_sub [2, 3, 4, 5, 6, 7] rfl ?_
    exact next _ _ _ _ (hR.mono (by omega))
  have hv := hv g1
  refine z_aload_n (j := 5) hx hb dL_law_1144 rfl rfl ?_
  refine z_iconst (v := 0) hx hb dL_law_1145 (by decide) ?_
  refine zl_lald S C.hK dL_law_1146 ?_
  refine z_iload (j := 0) hx hb dL_law_1147 rfl ?_
  refine zl_boolL hx hb dL_law_1149 dL_law_1152 dL_law_1153 dL_law_1156 ?_
  refine z_lcmp hx hb dL_law_1157 ?_
  refine z_if_eq (tgt := 1163) hx hb dL_law_1158 (by decide) (fun g2 => ?_) (fun g2 => absurd (by rw [hv]; exact lg_self _) g2)
  refine z_goto (tgt := 2168) hx hb dL_law_1163 (by decide) ?_
  refine z_widen (show cells + 20 + 0 + 0 ≤ cells + 300 by omega) (show slots + 200 + 0 + 0 ≤ slots + 5400 by omega) ?_
  refine z_sub [2, 3, 4, 5, 6, 7] rfl ?_
  exact next _ _ _ _ (hR.mono (by omega))
theorem law_c12 {p : Program} {l : Launch} {e : Env} {s : State} {m : MethodId} {b : Nat} {below : List Frame} {meth : Method} {c : Code} {D : va_G} {kc : Nat → ClassId} {kd : ClassId} {ad am : Nat → Nat} {o1 o2 L : Nat} {xs : Nat → Int32} (C : LC p l s m b c D kc kd L xs) {Q : State → Prop} {cR : Int} {x mm : SS} (h : R cR x mm) (hc : 0 ≤ cR ∧ cR ≤ 1999990000) {i5 : Int32} {sv : Nat → Int32} (hsv : ∀ k, k < 9 → vp_in (i5 + Int32.ofNat k) L ∧ xs (i5 + Int32.ofNat k).toNatClampNeg = sv k) {cells slots : Nat} (hce : cells + 300 ≤ 603072) (hsl : slots + 5400 ≤ 7182442) (f : Nat → Int64) (g : Nat → UInt64) (next : ∀ (x2 m2 : SS) (f2 : Nat → Int64) (g2 : Nat → UInt64), R (cR + 2000) x2 m2 → LZ p l e s m b below meth c D kc kd ad am o1 o2 Q (cells + 300) (slots + 5400) f2 g2 x2 m2 2168 i5) : LZ p l e s m b below meth c D kc kd ad am o1 o2 Q cells slots f g x mm 1166 i5 := by
  have S := C.S
  have hx := S.1
  have hb := S.2.1
  have hA0 : ∀ z, s.heap.size ≤ z → s.heap.size ≤ z := fun z hz => hz
  obtain ⟨kM, kX, hok⟩ := op_setWait h (sv 1)
  refine z_aload_n (j := 1) hx hb dL_law_1166 rfl rfl ?_
  refine zl_argI (k := 1) (j0 := 0) (j5 := 5) S C.hX C.hbl C.hbA (by decide) rfl rfl (hsv 1 (by decide)).1 (hsv 1 (by decide)).2 dL_law_1167 dL_law_1168 dL_law_1170 dL_law_1171 dL_law_1172 ?_
  refine z_aload_n (j := 3) hx hb dL_law_1173 rfl rfl ?_
  refine zl_callW1 (As := [.ref (ad 0), .int (sv 1), .ref o1]) S C.hK C.hKd C.hE (ctL_setWait l C.hl D kc kd ad o1 x f (sv 1) (gI (fX11_setWait mm (sv 1)).2 0) kX (okG_l (okI_G hok))) (vx_cwSW 3 S.2.2.2.2 (gSW q5_3 q5_4 q1_0 q5_5) rfl rfl rfl hL_setWait ⟨Nat.le_of_ble_eq_true rfl, Nat.le_of_ble_eq_true rfl⟩) hA0 rfl rfl (Nat.le_of_ble_eq_true rfl) dL_law_1174 ⟨show cells + 20 ≤ 603072 by omega, show slots + 200 ≤ 7182442 by omega⟩ (fun r u hu => ?_)
  obtain ⟨x1, e1⟩ := u
  obtain ⟨f1, he, hr1, hR, hv⟩ := ok_use1 (fun a : Int32 => a.toInt64) (okI_G hok) hu (tb5 (by decide))
  have he : e1 = _ := he
  subst he
  refine z_istore (lv' := [(6, .int r), (0, .ref b), (1, .ref (ad 0)), (2, .ref (am 0)), (3, .ref o1), (4, .ref o2), (5, .int i5)]) hx hb dL_law_1177 (by decide) rfl ?_
  refine z_aload_n (j := 3) hx hb dL_law_1179 rfl rfl ?_
  refine zl_argI (k := 1) (j0 := 1) (j5 := 6) S C.hX C.hbl C.hbA (by decide) rfl rfl (hsv 1 (by decide)).1 (hsv 1 (by decide)).2 dL_law_1180 dL_law_1181 dL_law_1183 dL_law_1184 dL_law_1185 ?_
  refine zl_callMi (As := [.int (sv 1)]) S C.hK (ctX11_setWait l D kc am mm (sv 1) kM) (cwV 1 S.2.2.2.2 (gV q7_89 q7_90 q7_91 q1_12 q7_92) rfl rfl rfl hX11_setWait ⟨Nat.le_of_ble_eq_true rfl, Nat.le_of_ble_eq_true rfl⟩) hA0 rfl rfl (Nat.le_of_ble_eq_true rfl) dL_law_1186 ⟨show cells + 20 + 0 ≤ 603072 by omega, show slots + 200 + 0 ≤ 7182442 by omega⟩ ?_
  refine z_istore (lv' := [(7, .int (fX11_setWait mm (sv 1)).1), (6, .int r), (0, .ref b), (1, .ref (ad 0)), (2, .ref (am 0)), (3, .ref o1), (4, .ref o2), (5, .int i5)]) hx hb dL_law_1189 (by decide) rfl ?_
  refine z_aload_n (j := 4) hx hb dL_law_1191 rfl rfl ?_
  refine zl_callMi (F := (gI (fX11_setWait mm (sv 1)).2 0, (fX11_setWait mm (sv 1)).2)) (As := []) S C.hK (ctX11_thrown l D kc am (fX11_setWait mm (sv 1)).2 trivial) (cwV 0 S.2.2.2.2 (gV q7_9 q7_10 q7_11 q1_12 q7_12) rfl rfl rfl hX11_thrown ⟨Nat.le_of_ble_eq_true rfl, Nat.le_of_ble_eq_true rfl⟩) hA0 rfl rfl (Nat.le_of_ble_eq_true rfl) dL_law_1192 ⟨show cells + 20 + 0 + 0 ≤ 603072 by omega, show slots + 200 + 0 + 0 ≤ 7182442 by omega⟩ ?_
  refine z_iload (j := 1) hx hb dL_law_1195 rfl ?_
  refine z_icmp_eq (tgt := 1202) hx hb dL_law_1197 (by decide) (fun g0 => ?_) (fun g0 => absurd hr1.symm g0)
  refine z_iload (j := 1) hx hb dL_law_1202 rfl ?_
  refine z_if_ne (tgt := 1219) hx hb dL_law_1204 (by decide) (fun g1 => ?_) (fun g1 => ?_)
  · refine z_goto (tgt := 2168) hx hb dL_law_1219 (by decide) ?_
    refine z_widen (show cells + 20 + 0 + 0 ≤ cells + 300 by omega) (show slots + 200 + 0 + 0 ≤ slots + 5400 by omega) ?_
    refine z_sub [2, 3, 4, 5, 6, 7] rfl ?_
    exact next _ _ _ _ (hR.mono (by omega))
  have hv := hv g1
  refine z_aload_n (j := 5) hx hb dL_law_1207 rfl rfl ?_
  refine z_iconst (v := 0) hx hb dL_law_1208 (by decide) ?_
  refine zl_lald S C.hK dL_law_1209 ?_
  refine z_iload (j := 0) hx hb dL_law_1210 rfl ?_
  refine z_i2l hx hb dL_law_1212 ?_
  refine z_lcmp hx hb dL_law_1213 ?_
  refine z_if_eq (tgt := 1219) hx hb dL_law_1214 (by decide) (fun g2 => ?_) (fun g2 => absurd (by rw [hv]; exact lg_self _) g2)
  refine z_goto (tgt := 2168) hx hb dL_law_1219 (by decide) ?_
  refine z_widen (show cells + 20 + 0 + 0 ≤ cells + 300 by omega) (show slots + 200 + 0 + 0 ≤ slots + 5400 by omega) ?_
  refine z_sub [2, 3, 4, 5, 6, 7] rfl ?_
  exact next _ _ _ _ (hR.mono (by omega))
theorem law_c13 {p : Program} {l : Launch} {e : Env} {s : State} {m : MethodId} {b : Nat} {below : List Frame} {meth : Method} {c : Code} {D : va_G} {kc : Nat → ClassId} {kd : ClassId} {ad am : Nat → Nat} {o1 o2 L : Nat} {xs : Nat → Int32} (C : LC p l s m b c D kc kd L xs) {Q : State → Prop} {cR : Int} {x mm : SS} (h : R cR x mm) (hc : 0 ≤ cR ∧ cR ≤ 1999990000) {i5 : Int32} {sv : Nat → Int32} (hsv : ∀ k, k < 9 → vp_in (i5 + Int32.ofNat k) L ∧ xs (i5 + Int32.ofNat k).toNatClampNeg = sv k) {cells slots : Nat} (hce : cells + 300 ≤ 603072) (hsl : slots + 5400 ≤ 7182442) (f : Nat → Int64) (g : Nat → UInt64) (next : ∀ (x2 m2 : SS) (f2 : Nat → Int64) (g2 : Nat → UInt64), R (cR + 2000) x2 m2 → LZ p l e s m b below meth c D kc kd ad am o1 o2 Q (cells + 300) (slots + 5400) f2 g2 x2 m2 2168 i5) : LZ p l e s m b below meth c D kc kd ad am o1 o2 Q cells slots f g x mm 1222 i5 := by
  have S := C.S
  have hx := S.1
  have hb := S.2.1
  have hA0 : ∀ z, s.heap.size ≤ z → s.heap.size ≤ z := fun z hz => hz
  obtain ⟨kM, kX, hok⟩ := op_setVector h (sv 1)
  refine z_aload_n (j := 1) hx hb dL_law_1222 rfl rfl ?_
  refine zl_argI (k := 1) (j0 := 0) (j5 := 5) S C.hX C.hbl C.hbA (by decide) rfl rfl (hsv 1 (by decide)).1 (hsv 1 (by decide)).2 dL_law_1223 dL_law_1224 dL_law_1226 dL_law_1227 dL_law_1228 ?_
  refine z_aload_n (j := 3) hx hb dL_law_1229 rfl rfl ?_
  refine zl_callW1 (As := [.ref (ad 0), .int (sv 1), .ref o1]) S C.hK C.hKd C.hE (ctL_setVector l C.hl D kc kd ad o1 x f (sv 1) (gI (fX11_setVector mm (sv 1)).2 0) kX (okG_l (okI_G hok))) (vx_cwSW 3 S.2.2.2.2 (gSW q5_10 q5_11 q1_0 q5_12) rfl rfl rfl hL_setVector ⟨Nat.le_of_ble_eq_true rfl, Nat.le_of_ble_eq_true rfl⟩) hA0 rfl rfl (Nat.le_of_ble_eq_true rfl) dL_law_1230 ⟨show cells + 20 ≤ 603072 by omega, show slots + 200 ≤ 7182442 by omega⟩ (fun r u hu => ?_)
  obtain ⟨x1, e1⟩ := u
  obtain ⟨f1, he, hr1, hR, hv⟩ := ok_use1 (fun a : Int32 => a.toInt64) (okI_G hok) hu (tb5 (by decide))
  have he : e1 = _ := he
  subst he
  refine z_istore (lv' := [(6, .int r), (0, .ref b), (1, .ref (ad 0)), (2, .ref (am 0)), (3, .ref o1), (4, .ref o2), (5, .int i5)]) hx hb dL_law_1233 (by decide) rfl ?_
  refine z_aload_n (j := 3) hx hb dL_law_1235 rfl rfl ?_
  refine zl_argI (k := 1) (j0 := 1) (j5 := 6) S C.hX C.hbl C.hbA (by decide) rfl rfl (hsv 1 (by decide)).1 (hsv 1 (by decide)).2 dL_law_1236 dL_law_1237 dL_law_1239 dL_law_1240 dL_law_1241 ?_
  refine zl_callMi (As := [.int (sv 1)]) S C.hK (ctX11_setVector l D kc am mm (sv 1) kM) (cwV 1 S.2.2.2.2 (gV q7_93 q7_94 q7_95 q1_12 q7_96) rfl rfl rfl hX11_setVector ⟨Nat.le_of_ble_eq_true rfl, Nat.le_of_ble_eq_true rfl⟩) hA0 rfl rfl (Nat.le_of_ble_eq_true rfl) dL_law_1242 ⟨show cells + 20 + 0 ≤ 603072 by omega, show slots + 200 + 0 ≤ 7182442 by omega⟩ ?_
  refine z_istore (lv' := [(7, .int (fX11_setVector mm (sv 1)).1), (6, .int r), (0, .ref b), (1, .ref (ad 0)), (2, .ref (am 0)), (3, .ref o1), (4, .ref o2), (5, .int i5)]) hx hb dL_law_1245 (by decide) rfl ?_
  refine z_aload_n (j := 4) hx hb dL_law_1247 rfl rfl ?_
  refine zl_callMi (F := (gI (fX11_setVector mm (sv 1)).2 0, (fX11_setVector mm (sv 1)).2)) (As := []) S C.hK (ctX11_thrown l D kc am (fX11_setVector mm (sv 1)).2 trivial) (cwV 0 S.2.2.2.2 (gV q7_9 q7_10 q7_11 q1_12 q7_12) rfl rfl rfl hX11_thrown ⟨Nat.le_of_ble_eq_true rfl, Nat.le_of_ble_eq_true rfl⟩) hA0 rfl rfl (Nat.le_of_ble_eq_true rfl) dL_law_1248 ⟨show cells + 20 + 0 + 0 ≤ 603072 by omega, show slots + 200 + 0 + 0 ≤ 7182442 by omega⟩ ?_
  refine z_iload (j := 1) hx hb dL_law_1251 rfl ?_
  refine z_icmp_eq (tgt := 1258) hx hb dL_law_1253 (by decide) (fun g0 => ?_) (fun g0 => absurd hr1.symm g0)
  refine z_iload (j := 1) hx hb dL_law_1258 rfl ?_
  refine z_if_ne (tgt := 1275) hx hb dL_law_1260 (by decide) (fun g1 => ?_) (fun g1 => ?_)
  · refine z_goto (tgt := 2168) hx hb dL_law_1275 (by decide) ?_
    refine z_widen (show cells + 20 + 0 + 0 ≤ cells + 300 by omega) (show slots + 200 + 0 + 0 ≤ slots + 5400 by omega) ?_
    refine z_sub [2, 3, 4, 5, 6, 7] rfl ?_
    exact next _ _ _ _ (hR.mono (by omega))
  have hv := hv g1
  refine z_aload_n (j := 5) hx hb dL_law_1263 rfl rfl ?_
  refine z_iconst (v := 0) hx hb dL_law_1264 (by decide) ?_
  refine zl_lald S C.hK dL_law_1265 ?_
  refine z_iload (j := 0) hx hb dL_law_1266 rfl ?_
  refine z_i2l hx hb dL_law_1268 ?_
  refine z_lcmp hx hb dL_law_1269 ?_
  refine z_if_eq (tgt := 1275) hx hb dL_law_1270 (by decide) (fun g2 => ?_) (fun g2 => absurd (by rw [hv]; exact lg_self _) g2)
  refine z_goto (tgt := 2168) hx hb dL_law_1275 (by decide) ?_
  refine z_widen (show cells + 20 + 0 + 0 ≤ cells + 300 by omega) (show slots + 200 + 0 + 0 ≤ slots + 5400 by omega) ?_
  refine z_sub [2, 3, 4, 5, 6, 7] rfl ?_
  exact next _ _ _ _ (hR.mono (by omega))
theorem law_c14 {p : Program} {l : Launch} {e : Env} {s : State} {m : MethodId} {b : Nat} {below : List Frame} {meth : Method} {c : Code} {D : va_G} {kc : Nat → ClassId} {kd : ClassId} {ad am : Nat → Nat} {o1 o2 L : Nat} {xs : Nat → Int32} (C : LC p l s m b c D kc kd L xs) {Q : State → Prop} {cR : Int} {x mm : SS} (h : R cR x mm) (hc : 0 ≤ cR ∧ cR ≤ 1999990000) {i5 : Int32} {sv : Nat → Int32} (hsv : ∀ k, k < 9 → vp_in (i5 + Int32.ofNat k) L ∧ xs (i5 + Int32.ofNat k).toNatClampNeg = sv k) {cells slots : Nat} (hce : cells + 300 ≤ 603072) (hsl : slots + 5400 ≤ 7182442) (f : Nat → Int64) (g : Nat → UInt64) (next : ∀ (x2 m2 : SS) (f2 : Nat → Int64) (g2 : Nat → UInt64), R (cR + 2000) x2 m2 → LZ p l e s m b below meth c D kc kd ad am o1 o2 Q (cells + 300) (slots + 5400) f2 g2 x2 m2 2168 i5) : LZ p l e s m b below meth c D kc kd ad am o1 o2 Q cells slots f g x mm 1278 i5 := by
  have S := C.S
  have hx := S.1
  have hb := S.2.1
  have hA0 : ∀ z, s.heap.size ≤ z → s.heap.size ≤ z := fun z hz => hz
  obtain ⟨kM, kX, heq, hR⟩ := op_interrupt h
  refine z_aload_n (j := 1) hx hb dL_law_1278 rfl rfl ?_
  refine zl_callXi (As := []) S C.hK C.hE (ctX10_interrupt l C.hl D kc ad x kX) (cwV 0 S.2.2.2.2 (gV q2_163 q2_164 q2_165 q1_1 q2_166) rfl rfl rfl hX10_interrupt ⟨Nat.le_of_ble_eq_true rfl, Nat.le_of_ble_eq_true rfl⟩) hA0 rfl rfl (Nat.le_of_ble_eq_true rfl) dL_law_1279 ⟨show cells + 20 ≤ 603072 by omega, show slots + 200 ≤ 7182442 by omega⟩ ?_
  refine z_aload_n (j := 2) hx hb dL_law_1282 rfl rfl ?_
  refine zl_callMi (As := []) S C.hK (ctX11_interrupt l D kc am mm kM) (cwV 0 S.2.2.2.2 (gV q7_97 q7_98 q7_99 q1_12 q7_100) rfl rfl rfl hX11_interrupt ⟨Nat.le_of_ble_eq_true rfl, Nat.le_of_ble_eq_true rfl⟩) hA0 rfl rfl (Nat.le_of_ble_eq_true rfl) dL_law_1283 ⟨show cells + 20 + 0 ≤ 603072 by omega, show slots + 200 + 0 ≤ 7182442 by omega⟩ ?_
  refine z_icmp_eq (tgt := 2168) hx hb dL_law_1286 (by decide) (fun g0 => ?_) (fun g0 => absurd heq g0)
  refine z_widen (show cells + 20 + 0 ≤ cells + 300 by omega) (show slots + 200 + 0 ≤ slots + 5400 by omega) ?_
  exact next _ _ _ _ (hR.mono (by omega))
theorem law_c15 {p : Program} {l : Launch} {e : Env} {s : State} {m : MethodId} {b : Nat} {below : List Frame} {meth : Method} {c : Code} {D : va_G} {kc : Nat → ClassId} {kd : ClassId} {ad am : Nat → Nat} {o1 o2 L : Nat} {xs : Nat → Int32} (C : LC p l s m b c D kc kd L xs) {Q : State → Prop} {cR : Int} {x mm : SS} (h : R cR x mm) (hc : 0 ≤ cR ∧ cR ≤ 1999990000) {i5 : Int32} {sv : Nat → Int32} (hsv : ∀ k, k < 9 → vp_in (i5 + Int32.ofNat k) L ∧ xs (i5 + Int32.ofNat k).toNatClampNeg = sv k) {cells slots : Nat} (hce : cells + 300 ≤ 603072) (hsl : slots + 5400 ≤ 7182442) (f : Nat → Int64) (g : Nat → UInt64) (next : ∀ (x2 m2 : SS) (f2 : Nat → Int64) (g2 : Nat → UInt64), R (cR + 2000) x2 m2 → LZ p l e s m b below meth c D kc kd ad am o1 o2 Q (cells + 300) (slots + 5400) f2 g2 x2 m2 2168 i5) : LZ p l e s m b below meth c D kc kd ad am o1 o2 Q cells slots f g x mm 1291 i5 := by
  have S := C.S
  have hx := S.1
  have hb := S.2.1
  have hA0 : ∀ z, s.heap.size ≤ z → s.heap.size ≤ z := fun z hz => hz
  obtain ⟨kM, kX, heq, hR⟩ := op_reset h
  refine z_aload_n (j := 1) hx hb dL_law_1291 rfl rfl ?_
  refine zl_callXi (As := []) S C.hK C.hE (ctX10_reset l C.hl D kc ad x kX) (cwV 0 S.2.2.2.2 (gV q2_167 q2_168 q2_169 q1_1 q2_170) rfl rfl rfl hX10_reset ⟨Nat.le_of_ble_eq_true rfl, Nat.le_of_ble_eq_true rfl⟩) hA0 rfl rfl (Nat.le_of_ble_eq_true rfl) dL_law_1292 ⟨show cells + 20 ≤ 603072 by omega, show slots + 200 ≤ 7182442 by omega⟩ ?_
  refine z_aload_n (j := 2) hx hb dL_law_1295 rfl rfl ?_
  refine zl_callMi (As := []) S C.hK (ctX11_reset l D kc am mm kM) (cwV 0 S.2.2.2.2 (gV q7_101 q7_102 q7_103 q1_12 q7_104) rfl rfl rfl hX11_reset ⟨Nat.le_of_ble_eq_true rfl, Nat.le_of_ble_eq_true rfl⟩) hA0 rfl rfl (Nat.le_of_ble_eq_true rfl) dL_law_1296 ⟨show cells + 20 + 0 ≤ 603072 by omega, show slots + 200 + 0 ≤ 7182442 by omega⟩ ?_
  refine z_icmp_eq (tgt := 2168) hx hb dL_law_1299 (by decide) (fun g0 => ?_) (fun g0 => absurd heq g0)
  refine z_widen (show cells + 20 + 0 ≤ cells + 300 by omega) (show slots + 200 + 0 ≤ slots + 5400 by omega) ?_
  exact next _ _ _ _ (hR.mono (by omega))
theorem law_c16 {p : Program} {l : Launch} {e : Env} {s : State} {m : MethodId} {b : Nat} {below : List Frame} {meth : Method} {c : Code} {D : va_G} {kc : Nat → ClassId} {kd : ClassId} {ad am : Nat → Nat} {o1 o2 L : Nat} {xs : Nat → Int32} (C : LC p l s m b c D kc kd L xs) {Q : State → Prop} {cR : Int} {x mm : SS} (h : R cR x mm) (hc : 0 ≤ cR ∧ cR ≤ 1999990000) {i5 : Int32} {sv : Nat → Int32} (hsv : ∀ k, k < 9 → vp_in (i5 + Int32.ofNat k) L ∧ xs (i5 + Int32.ofNat k).toNatClampNeg = sv k) {cells slots : Nat} (hce : cells + 300 ≤ 603072) (hsl : slots + 5400 ≤ 7182442) (f : Nat → Int64) (g : Nat → UInt64) (next : ∀ (x2 m2 : SS) (f2 : Nat → Int64) (g2 : Nat → UInt64), R (cR + 2000) x2 m2 → LZ p l e s m b below meth c D kc kd ad am o1 o2 Q (cells + 300) (slots + 5400) f2 g2 x2 m2 2168 i5) : LZ p l e s m b below meth c D kc kd ad am o1 o2 Q cells slots f g x mm 1304 i5 := by
  have S := C.S
  have hx := S.1
  have hb := S.2.1
  have hA0 : ∀ z, s.heap.size ≤ z → s.heap.size ≤ z := fun z hz => hz
  obtain ⟨kM, kX, hok⟩ := op_step h hc.2 (sv 1)
  refine z_aload_n (j := 1) hx hb dL_law_1304 rfl rfl ?_
  refine zl_argI (k := 1) (j0 := 0) (j5 := 5) S C.hX C.hbl C.hbA (by decide) rfl rfl (hsv 1 (by decide)).1 (hsv 1 (by decide)).2 dL_law_1305 dL_law_1306 dL_law_1308 dL_law_1309 dL_law_1310 ?_
  refine z_aload_n (j := 3) hx hb dL_law_1311 rfl rfl ?_
  refine zl_callW1 (As := [.ref (ad 0), .int (sv 1), .ref o1]) S C.hK C.hKd C.hE (ctL_step l C.hl D kc kd ad o1 x f (sv 1) (gI (fX11_step mm (sv 1)).2 0) kX (okG_l (okI_G hok))) (vx_cwSW 3 S.2.2.2.2 (gSW q5_17 q5_18 q1_0 q5_19) rfl rfl rfl hL_step ⟨Nat.le_of_ble_eq_true rfl, Nat.le_of_ble_eq_true rfl⟩) hA0 rfl rfl (Nat.le_of_ble_eq_true rfl) dL_law_1312 ⟨show cells + 20 ≤ 603072 by omega, show slots + 200 ≤ 7182442 by omega⟩ (fun r u hu => ?_)
  obtain ⟨x1, e1⟩ := u
  obtain ⟨f1, he, hr1, hR, hv⟩ := ok_use1 (fun a : Int32 => a.toInt64) (okI_G hok) hu (tb5 (by decide))
  have he : e1 = _ := he
  subst he
  refine z_istore (lv' := [(6, .int r), (0, .ref b), (1, .ref (ad 0)), (2, .ref (am 0)), (3, .ref o1), (4, .ref o2), (5, .int i5)]) hx hb dL_law_1315 (by decide) rfl ?_
  refine z_aload_n (j := 3) hx hb dL_law_1317 rfl rfl ?_
  refine zl_argI (k := 1) (j0 := 1) (j5 := 6) S C.hX C.hbl C.hbA (by decide) rfl rfl (hsv 1 (by decide)).1 (hsv 1 (by decide)).2 dL_law_1318 dL_law_1319 dL_law_1321 dL_law_1322 dL_law_1323 ?_
  refine zl_callMi (As := [.int (sv 1)]) S C.hK (ctX11_step l D kc am mm (sv 1) kM) (cwV 1 S.2.2.2.2 (gV q7_113 q7_114 q7_115 q1_12 q7_116) rfl rfl rfl hX11_step ⟨Nat.le_of_ble_eq_true rfl, Nat.le_of_ble_eq_true rfl⟩) hA0 rfl rfl (Nat.le_of_ble_eq_true rfl) dL_law_1324 ⟨show cells + 20 + 131 ≤ 603072 by omega, show slots + 200 + 917 ≤ 7182442 by omega⟩ ?_
  refine z_istore (lv' := [(7, .int (fX11_step mm (sv 1)).1), (6, .int r), (0, .ref b), (1, .ref (ad 0)), (2, .ref (am 0)), (3, .ref o1), (4, .ref o2), (5, .int i5)]) hx hb dL_law_1327 (by decide) rfl ?_
  refine z_aload_n (j := 4) hx hb dL_law_1329 rfl rfl ?_
  refine zl_callMi (F := (gI (fX11_step mm (sv 1)).2 0, (fX11_step mm (sv 1)).2)) (As := []) S C.hK (ctX11_thrown l D kc am (fX11_step mm (sv 1)).2 trivial) (cwV 0 S.2.2.2.2 (gV q7_9 q7_10 q7_11 q1_12 q7_12) rfl rfl rfl hX11_thrown ⟨Nat.le_of_ble_eq_true rfl, Nat.le_of_ble_eq_true rfl⟩) hA0 rfl rfl (Nat.le_of_ble_eq_true rfl) dL_law_1330 ⟨show cells + 20 + 131 + 0 ≤ 603072 by omega, show slots + 200 + 917 + 0 ≤ 7182442 by omega⟩ ?_
  refine z_iload (j := 1) hx hb dL_law_1333 rfl ?_
  refine z_icmp_eq (tgt := 1340) hx hb dL_law_1335 (by decide) (fun g0 => ?_) (fun g0 => absurd hr1.symm g0)
  refine z_iload (j := 1) hx hb dL_law_1340 rfl ?_
  refine z_if_ne (tgt := 1357) hx hb dL_law_1342 (by decide) (fun g1 => ?_) (fun g1 => ?_)
  · refine z_goto (tgt := 2168) hx hb dL_law_1357 (by decide) ?_
    refine z_widen (show cells + 20 + 131 + 0 ≤ cells + 300 by omega) (show slots + 200 + 917 + 0 ≤ slots + 5400 by omega) ?_
    refine z_sub [2, 3, 4, 5, 6, 7] rfl ?_
    exact next _ _ _ _ (hR.mono (by omega))
  have hv := hv g1
  refine z_aload_n (j := 5) hx hb dL_law_1345 rfl rfl ?_
  refine z_iconst (v := 0) hx hb dL_law_1346 (by decide) ?_
  refine zl_lald S C.hK dL_law_1347 ?_
  refine z_iload (j := 0) hx hb dL_law_1348 rfl ?_
  refine z_i2l hx hb dL_law_1350 ?_
  refine z_lcmp hx hb dL_law_1351 ?_
  refine z_if_eq (tgt := 1357) hx hb dL_law_1352 (by decide) (fun g2 => ?_) (fun g2 => absurd (by rw [hv]; exact lg_self _) g2)
  refine z_goto (tgt := 2168) hx hb dL_law_1357 (by decide) ?_
  refine z_widen (show cells + 20 + 131 + 0 ≤ cells + 300 by omega) (show slots + 200 + 917 + 0 ≤ slots + 5400 by omega) ?_
  refine z_sub [2, 3, 4, 5, 6, 7] rfl ?_
  exact next _ _ _ _ (hR.mono (by omega))
theorem law_c17 {p : Program} {l : Launch} {e : Env} {s : State} {m : MethodId} {b : Nat} {below : List Frame} {meth : Method} {c : Code} {D : va_G} {kc : Nat → ClassId} {kd : ClassId} {ad am : Nat → Nat} {o1 o2 L : Nat} {xs : Nat → Int32} (C : LC p l s m b c D kc kd L xs) {Q : State → Prop} {cR : Int} {x mm : SS} (h : R cR x mm) (hc : 0 ≤ cR ∧ cR ≤ 1999990000) {i5 : Int32} {sv : Nat → Int32} (hsv : ∀ k, k < 9 → vp_in (i5 + Int32.ofNat k) L ∧ xs (i5 + Int32.ofNat k).toNatClampNeg = sv k) {cells slots : Nat} (hce : cells + 300 ≤ 603072) (hsl : slots + 5400 ≤ 7182442) (f : Nat → Int64) (g : Nat → UInt64) (next : ∀ (x2 m2 : SS) (f2 : Nat → Int64) (g2 : Nat → UInt64), R (cR + 2000) x2 m2 → LZ p l e s m b below meth c D kc kd ad am o1 o2 Q (cells + 300) (slots + 5400) f2 g2 x2 m2 2168 i5) : LZ p l e s m b below meth c D kc kd ad am o1 o2 Q cells slots f g x mm 1360 i5 := by
  have S := C.S
  have hx := S.1
  have hb := S.2.1
  have hA0 : ∀ z, s.heap.size ≤ z → s.heap.size ≤ z := fun z hz => hz
  obtain ⟨kM, kX, hok⟩ := op_run h hc.2 (sv 1)
  refine z_aload_n (j := 1) hx hb dL_law_1360 rfl rfl ?_
  refine zl_argI (k := 1) (j0 := 0) (j5 := 5) S C.hX C.hbl C.hbA (by decide) rfl rfl (hsv 1 (by decide)).1 (hsv 1 (by decide)).2 dL_law_1361 dL_law_1362 dL_law_1364 dL_law_1365 dL_law_1366 ?_
  refine z_aload_n (j := 3) hx hb dL_law_1367 rfl rfl ?_
  refine zl_callW1 (As := [.ref (ad 0), .int (sv 1), .ref o1]) S C.hK C.hKd C.hE (ctL_run l C.hl D kc kd ad o1 x f (sv 1) (gI (fX11_run mm (sv 1)).2 0) kX (okG_l (okI_G hok))) (vx_cwSW 3 S.2.2.2.2 (gSW q5_192 q5_193 q1_0 q5_194) rfl rfl rfl hL_run ⟨Nat.le_of_ble_eq_true rfl, Nat.le_of_ble_eq_true rfl⟩) hA0 rfl rfl (Nat.le_of_ble_eq_true rfl) dL_law_1368 ⟨show cells + 20 ≤ 603072 by omega, show slots + 200 ≤ 7182442 by omega⟩ (fun r u hu => ?_)
  obtain ⟨x1, e1⟩ := u
  obtain ⟨f1, he, hr1, hR, hv⟩ := ok_use1 (fun a : Int32 => a.toInt64) (okI_G hok) hu (tb5 (by decide))
  have he : e1 = _ := he
  subst he
  refine z_istore (lv' := [(6, .int r), (0, .ref b), (1, .ref (ad 0)), (2, .ref (am 0)), (3, .ref o1), (4, .ref o2), (5, .int i5)]) hx hb dL_law_1371 (by decide) rfl ?_
  refine z_aload_n (j := 3) hx hb dL_law_1373 rfl rfl ?_
  refine zl_argI (k := 1) (j0 := 1) (j5 := 6) S C.hX C.hbl C.hbA (by decide) rfl rfl (hsv 1 (by decide)).1 (hsv 1 (by decide)).2 dL_law_1374 dL_law_1375 dL_law_1377 dL_law_1378 dL_law_1379 ?_
  refine zl_callMi (As := [.int (sv 1)]) S C.hK (ctX11_run l D kc am mm (sv 1) kM) (cwV 1 S.2.2.2.2 (gV q7_191 q7_192 q7_193 q1_12 q7_194) rfl rfl rfl hX11_run ⟨Nat.le_of_ble_eq_true rfl, Nat.le_of_ble_eq_true rfl⟩) hA0 rfl rfl (Nat.le_of_ble_eq_true rfl) dL_law_1380 ⟨show cells + 20 + 262 ≤ 603072 by omega, show slots + 200 + 1834 ≤ 7182442 by omega⟩ ?_
  refine z_istore (lv' := [(7, .int (fX11_run mm (sv 1)).1), (6, .int r), (0, .ref b), (1, .ref (ad 0)), (2, .ref (am 0)), (3, .ref o1), (4, .ref o2), (5, .int i5)]) hx hb dL_law_1383 (by decide) rfl ?_
  refine z_aload_n (j := 4) hx hb dL_law_1385 rfl rfl ?_
  refine zl_callMi (F := (gI (fX11_run mm (sv 1)).2 0, (fX11_run mm (sv 1)).2)) (As := []) S C.hK (ctX11_thrown l D kc am (fX11_run mm (sv 1)).2 trivial) (cwV 0 S.2.2.2.2 (gV q7_9 q7_10 q7_11 q1_12 q7_12) rfl rfl rfl hX11_thrown ⟨Nat.le_of_ble_eq_true rfl, Nat.le_of_ble_eq_true rfl⟩) hA0 rfl rfl (Nat.le_of_ble_eq_true rfl) dL_law_1386 ⟨show cells + 20 + 262 + 0 ≤ 603072 by omega, show slots + 200 + 1834 + 0 ≤ 7182442 by omega⟩ ?_
  refine z_iload (j := 1) hx hb dL_law_1389 rfl ?_
  refine z_icmp_eq (tgt := 1396) hx hb dL_law_1391 (by decide) (fun g0 => ?_) (fun g0 => absurd hr1.symm g0)
  refine z_iload (j := 1) hx hb dL_law_1396 rfl ?_
  refine z_if_ne (tgt := 1413) hx hb dL_law_1398 (by decide) (fun g1 => ?_) (fun g1 => ?_)
  · refine z_goto (tgt := 2168) hx hb dL_law_1413 (by decide) ?_
    refine z_widen (show cells + 20 + 262 + 0 ≤ cells + 300 by omega) (show slots + 200 + 1834 + 0 ≤ slots + 5400 by omega) ?_
    refine z_sub [2, 3, 4, 5, 6, 7] rfl ?_
    exact next _ _ _ _ (hR.mono (by omega))
  have hv := hv g1
  refine z_aload_n (j := 5) hx hb dL_law_1401 rfl rfl ?_
  refine z_iconst (v := 0) hx hb dL_law_1402 (by decide) ?_
  refine zl_lald S C.hK dL_law_1403 ?_
  refine z_iload (j := 0) hx hb dL_law_1404 rfl ?_
  refine z_i2l hx hb dL_law_1406 ?_
  refine z_lcmp hx hb dL_law_1407 ?_
  refine z_if_eq (tgt := 1413) hx hb dL_law_1408 (by decide) (fun g2 => ?_) (fun g2 => absurd (by rw [hv]; exact lg_self _) g2)
  refine z_goto (tgt := 2168) hx hb dL_law_1413 (by decide) ?_
  refine z_widen (show cells + 20 + 262 + 0 ≤ cells + 300 by omega) (show slots + 200 + 1834 + 0 ≤ slots + 5400 by omega) ?_
  refine z_sub [2, 3, 4, 5, 6, 7] rfl ?_
  exact next _ _ _ _ (hR.mono (by omega))
theorem law_c18 {p : Program} {l : Launch} {e : Env} {s : State} {m : MethodId} {b : Nat} {below : List Frame} {meth : Method} {c : Code} {D : va_G} {kc : Nat → ClassId} {kd : ClassId} {ad am : Nat → Nat} {o1 o2 L : Nat} {xs : Nat → Int32} (C : LC p l s m b c D kc kd L xs) {Q : State → Prop} {cR : Int} {x mm : SS} (h : R cR x mm) (hc : 0 ≤ cR ∧ cR ≤ 1999990000) {i5 : Int32} {sv : Nat → Int32} (hsv : ∀ k, k < 9 → vp_in (i5 + Int32.ofNat k) L ∧ xs (i5 + Int32.ofNat k).toNatClampNeg = sv k) {cells slots : Nat} (hce : cells + 300 ≤ 603072) (hsl : slots + 5400 ≤ 7182442) (f : Nat → Int64) (g : Nat → UInt64) (next : ∀ (x2 m2 : SS) (f2 : Nat → Int64) (g2 : Nat → UInt64), R (cR + 2000) x2 m2 → LZ p l e s m b below meth c D kc kd ad am o1 o2 Q (cells + 300) (slots + 5400) f2 g2 x2 m2 2168 i5) : LZ p l e s m b below meth c D kc kd ad am o1 o2 Q cells slots f g x mm 1416 i5 := by
  have S := C.S
  have hx := S.1
  have hb := S.2.1
  have hA0 : ∀ z, s.heap.size ≤ z → s.heap.size ≤ z := fun z hz => hz
  obtain ⟨kM, kX, heq, hR⟩ := op_state h
  refine z_aload_n (j := 1) hx hb dL_law_1416 rfl rfl ?_
  refine zl_callXi (As := []) S C.hK C.hE (ctX10_state l C.hl D kc ad x kX) (cwV 0 S.2.2.2.2 (gV q2_195 q2_196 q2_197 q1_1 q2_198) rfl rfl rfl hX10_state ⟨Nat.le_of_ble_eq_true rfl, Nat.le_of_ble_eq_true rfl⟩) hA0 rfl rfl (Nat.le_of_ble_eq_true rfl) dL_law_1417 ⟨show cells + 20 ≤ 603072 by omega, show slots + 200 ≤ 7182442 by omega⟩ ?_
  refine z_aload_n (j := 2) hx hb dL_law_1420 rfl rfl ?_
  refine zl_callMi (As := []) S C.hK (ctX11_state l D kc am mm kM) (cwV 0 S.2.2.2.2 (gV q7_195 q7_196 q7_197 q1_12 q7_198) rfl rfl rfl hX11_state ⟨Nat.le_of_ble_eq_true rfl, Nat.le_of_ble_eq_true rfl⟩) hA0 rfl rfl (Nat.le_of_ble_eq_true rfl) dL_law_1421 ⟨show cells + 20 + 0 ≤ 603072 by omega, show slots + 200 + 0 ≤ 7182442 by omega⟩ ?_
  refine z_icmp_eq (tgt := 2168) hx hb dL_law_1424 (by decide) (fun g0 => ?_) (fun g0 => absurd heq g0)
  refine z_widen (show cells + 20 + 0 ≤ cells + 300 by omega) (show slots + 200 + 0 ≤ slots + 5400 by omega) ?_
  exact next _ _ _ _ (hR.mono (by omega))
theorem law_c19 {p : Program} {l : Launch} {e : Env} {s : State} {m : MethodId} {b : Nat} {below : List Frame} {meth : Method} {c : Code} {D : va_G} {kc : Nat → ClassId} {kd : ClassId} {ad am : Nat → Nat} {o1 o2 L : Nat} {xs : Nat → Int32} (C : LC p l s m b c D kc kd L xs) {Q : State → Prop} {cR : Int} {x mm : SS} (h : R cR x mm) (hc : 0 ≤ cR ∧ cR ≤ 1999990000) {i5 : Int32} {sv : Nat → Int32} (hsv : ∀ k, k < 9 → vp_in (i5 + Int32.ofNat k) L ∧ xs (i5 + Int32.ofNat k).toNatClampNeg = sv k) {cells slots : Nat} (hce : cells + 300 ≤ 603072) (hsl : slots + 5400 ≤ 7182442) (f : Nat → Int64) (g : Nat → UInt64) (next : ∀ (x2 m2 : SS) (f2 : Nat → Int64) (g2 : Nat → UInt64), R (cR + 2000) x2 m2 → LZ p l e s m b below meth c D kc kd ad am o1 o2 Q (cells + 300) (slots + 5400) f2 g2 x2 m2 2168 i5) : LZ p l e s m b below meth c D kc kd ad am o1 o2 Q cells slots f g x mm 1429 i5 := by
  have S := C.S
  have hx := S.1
  have hb := S.2.1
  have hA0 : ∀ z, s.heap.size ≤ z → s.heap.size ≤ z := fun z hz => hz
  obtain ⟨kM, kX, hok⟩ := op_cell h (sv 1)
  refine z_aload_n (j := 1) hx hb dL_law_1429 rfl rfl ?_
  refine zl_argI (k := 1) (j0 := 0) (j5 := 5) S C.hX C.hbl C.hbA (by decide) rfl rfl (hsv 1 (by decide)).1 (hsv 1 (by decide)).2 dL_law_1430 dL_law_1431 dL_law_1433 dL_law_1434 dL_law_1435 ?_
  refine z_aload_n (j := 3) hx hb dL_law_1436 rfl rfl ?_
  refine zl_callW1 (As := [.ref (ad 0), .int (sv 1), .ref o1]) S C.hK C.hKd C.hE (ctL_cell l C.hl D kc kd ad o1 x f (sv 1) (gI (fX11_cell mm (sv 1)).2 0) kX (okG_l (okI_G hok))) (vx_cwSW 3 S.2.2.2.2 (gSW q5_199 q5_200 q1_0 q5_201) rfl rfl rfl hL_cell ⟨Nat.le_of_ble_eq_true rfl, Nat.le_of_ble_eq_true rfl⟩) hA0 rfl rfl (Nat.le_of_ble_eq_true rfl) dL_law_1437 ⟨show cells + 20 ≤ 603072 by omega, show slots + 200 ≤ 7182442 by omega⟩ (fun r u hu => ?_)
  obtain ⟨x1, e1⟩ := u
  obtain ⟨f1, he, hr1, hR, hv⟩ := ok_use1 (fun a : Int32 => a.toInt64) (okI_G hok) hu (tb5 (by decide))
  have he : e1 = _ := he
  subst he
  refine z_istore (lv' := [(6, .int r), (0, .ref b), (1, .ref (ad 0)), (2, .ref (am 0)), (3, .ref o1), (4, .ref o2), (5, .int i5)]) hx hb dL_law_1440 (by decide) rfl ?_
  refine z_aload_n (j := 3) hx hb dL_law_1442 rfl rfl ?_
  refine zl_argI (k := 1) (j0 := 1) (j5 := 6) S C.hX C.hbl C.hbA (by decide) rfl rfl (hsv 1 (by decide)).1 (hsv 1 (by decide)).2 dL_law_1443 dL_law_1444 dL_law_1446 dL_law_1447 dL_law_1448 ?_
  refine zl_callMi (As := [.int (sv 1)]) S C.hK (ctX11_cell l D kc am mm (sv 1) kM) (cwV 1 S.2.2.2.2 (gV q7_199 q7_200 q7_201 q1_12 q7_202) rfl rfl rfl hX11_cell ⟨Nat.le_of_ble_eq_true rfl, Nat.le_of_ble_eq_true rfl⟩) hA0 rfl rfl (Nat.le_of_ble_eq_true rfl) dL_law_1449 ⟨show cells + 20 + 0 ≤ 603072 by omega, show slots + 200 + 0 ≤ 7182442 by omega⟩ ?_
  refine z_istore (lv' := [(7, .int (fX11_cell mm (sv 1)).1), (6, .int r), (0, .ref b), (1, .ref (ad 0)), (2, .ref (am 0)), (3, .ref o1), (4, .ref o2), (5, .int i5)]) hx hb dL_law_1452 (by decide) rfl ?_
  refine z_aload_n (j := 4) hx hb dL_law_1454 rfl rfl ?_
  refine zl_callMi (F := (gI (fX11_cell mm (sv 1)).2 0, (fX11_cell mm (sv 1)).2)) (As := []) S C.hK (ctX11_thrown l D kc am (fX11_cell mm (sv 1)).2 trivial) (cwV 0 S.2.2.2.2 (gV q7_9 q7_10 q7_11 q1_12 q7_12) rfl rfl rfl hX11_thrown ⟨Nat.le_of_ble_eq_true rfl, Nat.le_of_ble_eq_true rfl⟩) hA0 rfl rfl (Nat.le_of_ble_eq_true rfl) dL_law_1455 ⟨show cells + 20 + 0 + 0 ≤ 603072 by omega, show slots + 200 + 0 + 0 ≤ 7182442 by omega⟩ ?_
  refine z_iload (j := 1) hx hb dL_law_1458 rfl ?_
  refine z_icmp_eq (tgt := 1465) hx hb dL_law_1460 (by decide) (fun g0 => ?_) (fun g0 => absurd hr1.symm g0)
  refine z_iload (j := 1) hx hb dL_law_1465 rfl ?_
  refine z_if_ne (tgt := 1482) hx hb dL_law_1467 (by decide) (fun g1 => ?_) (fun g1 => ?_)
  · refine z_goto (tgt := 2168) hx hb dL_law_1482 (by decide) ?_
    refine z_widen (show cells + 20 + 0 + 0 ≤ cells + 300 by omega) (show slots + 200 + 0 + 0 ≤ slots + 5400 by omega) ?_
    refine z_sub [2, 3, 4, 5, 6, 7] rfl ?_
    exact next _ _ _ _ (hR.mono (by omega))
  have hv := hv g1
  refine z_aload_n (j := 5) hx hb dL_law_1470 rfl rfl ?_
  refine z_iconst (v := 0) hx hb dL_law_1471 (by decide) ?_
  refine zl_lald S C.hK dL_law_1472 ?_
  refine z_iload (j := 0) hx hb dL_law_1473 rfl ?_
  refine z_i2l hx hb dL_law_1475 ?_
  refine z_lcmp hx hb dL_law_1476 ?_
  refine z_if_eq (tgt := 1482) hx hb dL_law_1477 (by decide) (fun g2 => ?_) (fun g2 => absurd (by rw [hv]; exact lg_self _) g2)
  refine z_goto (tgt := 2168) hx hb dL_law_1482 (by decide) ?_
  refine z_widen (show cells + 20 + 0 + 0 ≤ cells + 300 by omega) (show slots + 200 + 0 + 0 ≤ slots + 5400 by omega) ?_
  refine z_sub [2, 3, 4, 5, 6, 7] rfl ?_
  exact next _ _ _ _ (hR.mono (by omega))
theorem law_c20 {p : Program} {l : Launch} {e : Env} {s : State} {m : MethodId} {b : Nat} {below : List Frame} {meth : Method} {c : Code} {D : va_G} {kc : Nat → ClassId} {kd : ClassId} {ad am : Nat → Nat} {o1 o2 L : Nat} {xs : Nat → Int32} (C : LC p l s m b c D kc kd L xs) {Q : State → Prop} {cR : Int} {x mm : SS} (h : R cR x mm) (hc : 0 ≤ cR ∧ cR ≤ 1999990000) {i5 : Int32} {sv : Nat → Int32} (hsv : ∀ k, k < 9 → vp_in (i5 + Int32.ofNat k) L ∧ xs (i5 + Int32.ofNat k).toNatClampNeg = sv k) {cells slots : Nat} (hce : cells + 300 ≤ 603072) (hsl : slots + 5400 ≤ 7182442) (f : Nat → Int64) (g : Nat → UInt64) (next : ∀ (x2 m2 : SS) (f2 : Nat → Int64) (g2 : Nat → UInt64), R (cR + 2000) x2 m2 → LZ p l e s m b below meth c D kc kd ad am o1 o2 Q (cells + 300) (slots + 5400) f2 g2 x2 m2 2168 i5) : LZ p l e s m b below meth c D kc kd ad am o1 o2 Q cells slots f g x mm 1485 i5 := by
  have S := C.S
  have hx := S.1
  have hb := S.2.1
  have hA0 : ∀ z, s.heap.size ≤ z → s.heap.size ≤ z := fun z hz => hz
  obtain ⟨kM, kX, hok⟩ := op_register h (sv 1)
  refine z_aload_n (j := 1) hx hb dL_law_1485 rfl rfl ?_
  refine zl_argI (k := 1) (j0 := 0) (j5 := 5) S C.hX C.hbl C.hbA (by decide) rfl rfl (hsv 1 (by decide)).1 (hsv 1 (by decide)).2 dL_law_1486 dL_law_1487 dL_law_1489 dL_law_1490 dL_law_1491 ?_
  refine z_aload_n (j := 3) hx hb dL_law_1492 rfl rfl ?_
  refine zl_callW1 (As := [.ref (ad 0), .int (sv 1), .ref o1]) S C.hK C.hKd C.hE (ctL_register l C.hl D kc kd ad o1 x f (sv 1) (gI (fX11_register mm (sv 1)).2 0) kX (okG_l (okI_G hok))) (vx_cwSW 3 S.2.2.2.2 (gSW q5_207 q5_208 q1_0 q5_209) rfl rfl rfl hL_register ⟨Nat.le_of_ble_eq_true rfl, Nat.le_of_ble_eq_true rfl⟩) hA0 rfl rfl (Nat.le_of_ble_eq_true rfl) dL_law_1493 ⟨show cells + 20 ≤ 603072 by omega, show slots + 200 ≤ 7182442 by omega⟩ (fun r u hu => ?_)
  obtain ⟨x1, e1⟩ := u
  obtain ⟨f1, he, hr1, hR, hv⟩ := ok_use1 (fun a : Int32 => a.toInt64) (okI_G hok) hu (tb5 (by decide))
  have he : e1 = _ := he
  subst he
  refine z_istore (lv' := [(6, .int r), (0, .ref b), (1, .ref (ad 0)), (2, .ref (am 0)), (3, .ref o1), (4, .ref o2), (5, .int i5)]) hx hb dL_law_1496 (by decide) rfl ?_
  refine z_aload_n (j := 3) hx hb dL_law_1498 rfl rfl ?_
  refine zl_argI (k := 1) (j0 := 1) (j5 := 6) S C.hX C.hbl C.hbA (by decide) rfl rfl (hsv 1 (by decide)).1 (hsv 1 (by decide)).2 dL_law_1499 dL_law_1500 dL_law_1502 dL_law_1503 dL_law_1504 ?_
  refine zl_callMi (As := [.int (sv 1)]) S C.hK (ctX11_register l D kc am mm (sv 1) kM) (cwV 1 S.2.2.2.2 (gV q7_203 q7_204 q7_205 q1_12 q7_206) rfl rfl rfl hX11_register ⟨Nat.le_of_ble_eq_true rfl, Nat.le_of_ble_eq_true rfl⟩) hA0 rfl rfl (Nat.le_of_ble_eq_true rfl) dL_law_1505 ⟨show cells + 20 + 0 ≤ 603072 by omega, show slots + 200 + 0 ≤ 7182442 by omega⟩ ?_
  refine z_istore (lv' := [(7, .int (fX11_register mm (sv 1)).1), (6, .int r), (0, .ref b), (1, .ref (ad 0)), (2, .ref (am 0)), (3, .ref o1), (4, .ref o2), (5, .int i5)]) hx hb dL_law_1508 (by decide) rfl ?_
  refine z_aload_n (j := 4) hx hb dL_law_1510 rfl rfl ?_
  refine zl_callMi (F := (gI (fX11_register mm (sv 1)).2 0, (fX11_register mm (sv 1)).2)) (As := []) S C.hK (ctX11_thrown l D kc am (fX11_register mm (sv 1)).2 trivial) (cwV 0 S.2.2.2.2 (gV q7_9 q7_10 q7_11 q1_12 q7_12) rfl rfl rfl hX11_thrown ⟨Nat.le_of_ble_eq_true rfl, Nat.le_of_ble_eq_true rfl⟩) hA0 rfl rfl (Nat.le_of_ble_eq_true rfl) dL_law_1511 ⟨show cells + 20 + 0 + 0 ≤ 603072 by omega, show slots + 200 + 0 + 0 ≤ 7182442 by omega⟩ ?_
  refine z_iload (j := 1) hx hb dL_law_1514 rfl ?_
  refine z_icmp_eq (tgt := 1521) hx hb dL_law_1516 (by decide) (fun g0 => ?_) (fun g0 => absurd hr1.symm g0)
  refine z_iload (j := 1) hx hb dL_law_1521 rfl ?_
  refine z_if_ne (tgt := 1538) hx hb dL_law_1523 (by decide) (fun g1 => ?_) (fun g1 => ?_)
  · refine z_goto (tgt := 2168) hx hb dL_law_1538 (by decide) ?_
    refine z_widen (show cells + 20 + 0 + 0 ≤ cells + 300 by omega) (show slots + 200 + 0 + 0 ≤ slots + 5400 by omega) ?_
    refine z_sub [2, 3, 4, 5, 6, 7] rfl ?_
    exact next _ _ _ _ (hR.mono (by omega))
  have hv := hv g1
  refine z_aload_n (j := 5) hx hb dL_law_1526 rfl rfl ?_
  refine z_iconst (v := 0) hx hb dL_law_1527 (by decide) ?_
  refine zl_lald S C.hK dL_law_1528 ?_
  refine z_iload (j := 0) hx hb dL_law_1529 rfl ?_
  refine z_i2l hx hb dL_law_1531 ?_
  refine z_lcmp hx hb dL_law_1532 ?_
  refine z_if_eq (tgt := 1538) hx hb dL_law_1533 (by decide) (fun g2 => ?_) (fun g2 => absurd (by rw [hv]; exact lg_self _) g2)
  refine z_goto (tgt := 2168) hx hb dL_law_1538 (by decide) ?_
  refine z_widen (show cells + 20 + 0 + 0 ≤ cells + 300 by omega) (show slots + 200 + 0 + 0 ≤ slots + 5400 by omega) ?_
  refine z_sub [2, 3, 4, 5, 6, 7] rfl ?_
  exact next _ _ _ _ (hR.mono (by omega))
theorem law_c21 {p : Program} {l : Launch} {e : Env} {s : State} {m : MethodId} {b : Nat} {below : List Frame} {meth : Method} {c : Code} {D : va_G} {kc : Nat → ClassId} {kd : ClassId} {ad am : Nat → Nat} {o1 o2 L : Nat} {xs : Nat → Int32} (C : LC p l s m b c D kc kd L xs) {Q : State → Prop} {cR : Int} {x mm : SS} (h : R cR x mm) (hc : 0 ≤ cR ∧ cR ≤ 1999990000) {i5 : Int32} {sv : Nat → Int32} (hsv : ∀ k, k < 9 → vp_in (i5 + Int32.ofNat k) L ∧ xs (i5 + Int32.ofNat k).toNatClampNeg = sv k) {cells slots : Nat} (hce : cells + 300 ≤ 603072) (hsl : slots + 5400 ≤ 7182442) (f : Nat → Int64) (g : Nat → UInt64) (next : ∀ (x2 m2 : SS) (f2 : Nat → Int64) (g2 : Nat → UInt64), R (cR + 2000) x2 m2 → LZ p l e s m b below meth c D kc kd ad am o1 o2 Q (cells + 300) (slots + 5400) f2 g2 x2 m2 2168 i5) : LZ p l e s m b below meth c D kc kd ad am o1 o2 Q cells slots f g x mm 1541 i5 := by
  have S := C.S
  have hx := S.1
  have hb := S.2.1
  have hA0 : ∀ z, s.heap.size ≤ z → s.heap.size ≤ z := fun z hz => hz
  obtain ⟨kM, kX, hok⟩ := op_part h (((sv 1).toUInt32 % 65536).toInt32) (rg_i2c (sv 1))
  refine z_aload_n (j := 1) hx hb dL_law_1541 rfl rfl ?_
  refine zl_argI (k := 1) (j0 := 0) (j5 := 5) S C.hX C.hbl C.hbA (by decide) rfl rfl (hsv 1 (by decide)).1 (hsv 1 (by decide)).2 dL_law_1542 dL_law_1543 dL_law_1545 dL_law_1546 dL_law_1547 ?_
  refine z_i2c hx hb dL_law_1548 ?_
  refine z_aload_n (j := 3) hx hb dL_law_1549 rfl rfl ?_
  refine zl_callW1 (As := [.ref (ad 0), .int (((sv 1).toUInt32 % 65536).toInt32), .ref o1]) S C.hK C.hKd C.hE (ctL_part l C.hl D kc kd ad o1 x f (((sv 1).toUInt32 % 65536).toInt32) (gI (fX11_part mm (((sv 1).toUInt32 % 65536).toInt32)).2 0) kX (okG_l (okI_G hok))) (vx_cwSW 3 S.2.2.2.2 (gSW q5_214 q5_215 q1_0 q5_216) rfl rfl rfl hL_part ⟨Nat.le_of_ble_eq_true rfl, Nat.le_of_ble_eq_true rfl⟩) hA0 rfl rfl (Nat.le_of_ble_eq_true rfl) dL_law_1550 ⟨show cells + 20 ≤ 603072 by omega, show slots + 200 ≤ 7182442 by omega⟩ (fun r u hu => ?_)
  obtain ⟨x1, e1⟩ := u
  obtain ⟨f1, he, hr1, hR, hv⟩ := ok_use1 (fun a : Int32 => a.toInt64) (okI_G hok) hu (tb5 (by decide))
  have he : e1 = _ := he
  subst he
  refine z_istore (lv' := [(6, .int r), (0, .ref b), (1, .ref (ad 0)), (2, .ref (am 0)), (3, .ref o1), (4, .ref o2), (5, .int i5)]) hx hb dL_law_1553 (by decide) rfl ?_
  refine z_aload_n (j := 3) hx hb dL_law_1555 rfl rfl ?_
  refine zl_argI (k := 1) (j0 := 1) (j5 := 6) S C.hX C.hbl C.hbA (by decide) rfl rfl (hsv 1 (by decide)).1 (hsv 1 (by decide)).2 dL_law_1556 dL_law_1557 dL_law_1559 dL_law_1560 dL_law_1561 ?_
  refine z_i2c hx hb dL_law_1562 ?_
  refine zl_callMi (As := [.int (((sv 1).toUInt32 % 65536).toInt32)]) S C.hK (ctX11_part l D kc am mm (((sv 1).toUInt32 % 65536).toInt32) kM) (cwV 1 S.2.2.2.2 (gV q7_207 q7_208 q7_209 q1_12 q7_210) rfl rfl rfl hX11_part ⟨Nat.le_of_ble_eq_true rfl, Nat.le_of_ble_eq_true rfl⟩) hA0 rfl rfl (Nat.le_of_ble_eq_true rfl) dL_law_1563 ⟨show cells + 20 + 0 ≤ 603072 by omega, show slots + 200 + 0 ≤ 7182442 by omega⟩ ?_
  refine z_istore (lv' := [(7, .int (fX11_part mm (((sv 1).toUInt32 % 65536).toInt32)).1), (6, .int r), (0, .ref b), (1, .ref (ad 0)), (2, .ref (am 0)), (3, .ref o1), (4, .ref o2), (5, .int i5)]) hx hb dL_law_1566 (by decide) rfl ?_
  refine z_aload_n (j := 4) hx hb dL_law_1568 rfl rfl ?_
  refine zl_callMi (F := (gI (fX11_part mm (((sv 1).toUInt32 % 65536).toInt32)).2 0, (fX11_part mm (((sv 1).toUInt32 % 65536).toInt32)).2)) (As := []) S C.hK (ctX11_thrown l D kc am (fX11_part mm (((sv 1).toUInt32 % 65536).toInt32)).2 trivial) (cwV 0 S.2.2.2.2 (gV q7_9 q7_10 q7_11 q1_12 q7_12) rfl rfl rfl hX11_thrown ⟨Nat.le_of_ble_eq_true rfl, Nat.le_of_ble_eq_true rfl⟩) hA0 rfl rfl (Nat.le_of_ble_eq_true rfl) dL_law_1569 ⟨show cells + 20 + 0 + 0 ≤ 603072 by omega, show slots + 200 + 0 + 0 ≤ 7182442 by omega⟩ ?_
  refine z_iload (j := 1) hx hb dL_law_1572 rfl ?_
  refine z_icmp_eq (tgt := 1579) hx hb dL_law_1574 (by decide) (fun g0 => ?_) (fun g0 => absurd hr1.symm g0)
  refine z_iload (j := 1) hx hb dL_law_1579 rfl ?_
  refine z_if_ne (tgt := 1596) hx hb dL_law_1581 (by decide) (fun g1 => ?_) (fun g1 => ?_)
  · refine z_goto (tgt := 2168) hx hb dL_law_1596 (by decide) ?_
    refine z_widen (show cells + 20 + 0 + 0 ≤ cells + 300 by omega) (show slots + 200 + 0 + 0 ≤ slots + 5400 by omega) ?_
    refine z_sub [2, 3, 4, 5, 6, 7] rfl ?_
    exact next _ _ _ _ (hR.mono (by omega))
  have hv := hv g1
  refine z_aload_n (j := 5) hx hb dL_law_1584 rfl rfl ?_
  refine z_iconst (v := 0) hx hb dL_law_1585 (by decide) ?_
  refine zl_lald S C.hK dL_law_1586 ?_
  refine z_iload (j := 0) hx hb dL_law_1587 rfl ?_
  refine z_i2l hx hb dL_law_1589 ?_
  refine z_lcmp hx hb dL_law_1590 ?_
  refine z_if_eq (tgt := 1596) hx hb dL_law_1591 (by decide) (fun g2 => ?_) (fun g2 => absurd (by rw [hv]; exact lg_self _) g2)
  refine z_goto (tgt := 2168) hx hb dL_law_1596 (by decide) ?_
  refine z_widen (show cells + 20 + 0 + 0 ≤ cells + 300 by omega) (show slots + 200 + 0 + 0 ≤ slots + 5400 by omega) ?_
  refine z_sub [2, 3, 4, 5, 6, 7] rfl ?_
  exact next _ _ _ _ (hR.mono (by omega))
theorem law_c22 {p : Program} {l : Launch} {e : Env} {s : State} {m : MethodId} {b : Nat} {below : List Frame} {meth : Method} {c : Code} {D : va_G} {kc : Nat → ClassId} {kd : ClassId} {ad am : Nat → Nat} {o1 o2 L : Nat} {xs : Nat → Int32} (C : LC p l s m b c D kc kd L xs) {Q : State → Prop} {cR : Int} {x mm : SS} (h : R cR x mm) (hc : 0 ≤ cR ∧ cR ≤ 1999990000) {i5 : Int32} {sv : Nat → Int32} (hsv : ∀ k, k < 9 → vp_in (i5 + Int32.ofNat k) L ∧ xs (i5 + Int32.ofNat k).toNatClampNeg = sv k) {cells slots : Nat} (hce : cells + 300 ≤ 603072) (hsl : slots + 5400 ≤ 7182442) (f : Nat → Int64) (g : Nat → UInt64) (next : ∀ (x2 m2 : SS) (f2 : Nat → Int64) (g2 : Nat → UInt64), R (cR + 2000) x2 m2 → LZ p l e s m b below meth c D kc kd ad am o1 o2 Q (cells + 300) (slots + 5400) f2 g2 x2 m2 2168 i5) : LZ p l e s m b below meth c D kc kd ad am o1 o2 Q cells slots f g x mm 1599 i5 := by
  have S := C.S
  have hx := S.1
  have hb := S.2.1
  have hA0 : ∀ z, s.heap.size ≤ z → s.heap.size ≤ z := fun z hz => hz
  obtain ⟨kM, kX, heq, hR⟩ := op_next h
  refine z_aload_n (j := 1) hx hb dL_law_1599 rfl rfl ?_
  refine zl_callXi (As := []) S C.hK C.hE (ctX10_next l C.hl D kc ad x kX) (cwV 0 S.2.2.2.2 (gV q2_199 q2_200 q2_201 q1_1 q2_202) rfl rfl rfl hX10_next ⟨Nat.le_of_ble_eq_true rfl, Nat.le_of_ble_eq_true rfl⟩) hA0 rfl rfl (Nat.le_of_ble_eq_true rfl) dL_law_1600 ⟨show cells + 20 ≤ 603072 by omega, show slots + 200 ≤ 7182442 by omega⟩ ?_
  refine z_aload_n (j := 2) hx hb dL_law_1603 rfl rfl ?_
  refine zl_callMi (As := []) S C.hK (ctX11_next l D kc am mm kM) (cwV 0 S.2.2.2.2 (gV q7_214 q7_215 q7_216 q1_12 q7_217) rfl rfl rfl hX11_next ⟨Nat.le_of_ble_eq_true rfl, Nat.le_of_ble_eq_true rfl⟩) hA0 rfl rfl (Nat.le_of_ble_eq_true rfl) dL_law_1604 ⟨show cells + 20 + 0 ≤ 603072 by omega, show slots + 200 + 0 ≤ 7182442 by omega⟩ ?_
  refine z_icmp_eq (tgt := 2168) hx hb dL_law_1607 (by decide) (fun g0 => ?_) (fun g0 => absurd heq g0)
  refine z_widen (show cells + 20 + 0 ≤ cells + 300 by omega) (show slots + 200 + 0 ≤ slots + 5400 by omega) ?_
  exact next _ _ _ _ (hR.mono (by omega))
theorem law_c23 {p : Program} {l : Launch} {e : Env} {s : State} {m : MethodId} {b : Nat} {below : List Frame} {meth : Method} {c : Code} {D : va_G} {kc : Nat → ClassId} {kd : ClassId} {ad am : Nat → Nat} {o1 o2 L : Nat} {xs : Nat → Int32} (C : LC p l s m b c D kc kd L xs) {Q : State → Prop} {cR : Int} {x mm : SS} (h : R cR x mm) (hc : 0 ≤ cR ∧ cR ≤ 1999990000) {i5 : Int32} {sv : Nat → Int32} (hsv : ∀ k, k < 9 → vp_in (i5 + Int32.ofNat k) L ∧ xs (i5 + Int32.ofNat k).toNatClampNeg = sv k) {cells slots : Nat} (hce : cells + 300 ≤ 603072) (hsl : slots + 5400 ≤ 7182442) (f : Nat → Int64) (g : Nat → UInt64) (next : ∀ (x2 m2 : SS) (f2 : Nat → Int64) (g2 : Nat → UInt64), R (cR + 2000) x2 m2 → LZ p l e s m b below meth c D kc kd ad am o1 o2 Q (cells + 300) (slots + 5400) f2 g2 x2 m2 2168 i5) : LZ p l e s m b below meth c D kc kd ad am o1 o2 Q cells slots f g x mm 1612 i5 := by
  have S := C.S
  have hx := S.1
  have hb := S.2.1
  have hA0 : ∀ z, s.heap.size ≤ z → s.heap.size ≤ z := fun z hz => hz
  obtain ⟨kM, kX, heq, hR⟩ := op_returns h
  refine z_aload_n (j := 1) hx hb dL_law_1612 rfl rfl ?_
  refine zl_callXi (As := []) S C.hK C.hE (ctX10_returns l C.hl D kc ad x kX) (cwV 0 S.2.2.2.2 (gV q2_203 q2_204 q2_205 q1_1 q2_206) rfl rfl rfl hX10_returns ⟨Nat.le_of_ble_eq_true rfl, Nat.le_of_ble_eq_true rfl⟩) hA0 rfl rfl (Nat.le_of_ble_eq_true rfl) dL_law_1613 ⟨show cells + 20 ≤ 603072 by omega, show slots + 200 ≤ 7182442 by omega⟩ ?_
  refine z_aload_n (j := 2) hx hb dL_law_1616 rfl rfl ?_
  refine zl_callMi (As := []) S C.hK (ctX11_returns l D kc am mm kM) (cwV 0 S.2.2.2.2 (gV q7_218 q7_219 q7_220 q1_12 q7_221) rfl rfl rfl hX11_returns ⟨Nat.le_of_ble_eq_true rfl, Nat.le_of_ble_eq_true rfl⟩) hA0 rfl rfl (Nat.le_of_ble_eq_true rfl) dL_law_1617 ⟨show cells + 20 + 0 ≤ 603072 by omega, show slots + 200 + 0 ≤ 7182442 by omega⟩ ?_
  refine z_icmp_eq (tgt := 2168) hx hb dL_law_1620 (by decide) (fun g0 => ?_) (fun g0 => absurd heq g0)
  refine z_widen (show cells + 20 + 0 ≤ cells + 300 by omega) (show slots + 200 + 0 ≤ slots + 5400 by omega) ?_
  exact next _ _ _ _ (hR.mono (by omega))
theorem law_c24 {p : Program} {l : Launch} {e : Env} {s : State} {m : MethodId} {b : Nat} {below : List Frame} {meth : Method} {c : Code} {D : va_G} {kc : Nat → ClassId} {kd : ClassId} {ad am : Nat → Nat} {o1 o2 L : Nat} {xs : Nat → Int32} (C : LC p l s m b c D kc kd L xs) {Q : State → Prop} {cR : Int} {x mm : SS} (h : R cR x mm) (hc : 0 ≤ cR ∧ cR ≤ 1999990000) {i5 : Int32} {sv : Nat → Int32} (hsv : ∀ k, k < 9 → vp_in (i5 + Int32.ofNat k) L ∧ xs (i5 + Int32.ofNat k).toNatClampNeg = sv k) {cells slots : Nat} (hce : cells + 300 ≤ 603072) (hsl : slots + 5400 ≤ 7182442) (f : Nat → Int64) (g : Nat → UInt64) (next : ∀ (x2 m2 : SS) (f2 : Nat → Int64) (g2 : Nat → UInt64), R (cR + 2000) x2 m2 → LZ p l e s m b below meth c D kc kd ad am o1 o2 Q (cells + 300) (slots + 5400) f2 g2 x2 m2 2168 i5) : LZ p l e s m b below meth c D kc kd ad am o1 o2 Q cells slots f g x mm 1625 i5 := by
  have S := C.S
  have hx := S.1
  have hb := S.2.1
  have hA0 : ∀ z, s.heap.size ≤ z → s.heap.size ≤ z := fun z hz => hz
  obtain ⟨kM, kX, heq, hR⟩ := op_bus h
  refine z_aload_n (j := 1) hx hb dL_law_1625 rfl rfl ?_
  refine zl_callXi (As := []) S C.hK C.hE (ctX10_bus l C.hl D kc ad x kX) (cwV 0 S.2.2.2.2 (gV q2_207 q2_208 q2_209 q1_1 q2_210) rfl rfl rfl hX10_bus ⟨Nat.le_of_ble_eq_true rfl, Nat.le_of_ble_eq_true rfl⟩) hA0 rfl rfl (Nat.le_of_ble_eq_true rfl) dL_law_1626 ⟨show cells + 20 ≤ 603072 by omega, show slots + 200 ≤ 7182442 by omega⟩ ?_
  refine z_aload_n (j := 2) hx hb dL_law_1629 rfl rfl ?_
  refine zl_callMi (As := []) S C.hK (ctX11_bus l D kc am mm kM) (cwV 0 S.2.2.2.2 (gV q7_222 q7_223 q7_224 q1_12 q7_225) rfl rfl rfl hX11_bus ⟨Nat.le_of_ble_eq_true rfl, Nat.le_of_ble_eq_true rfl⟩) hA0 rfl rfl (Nat.le_of_ble_eq_true rfl) dL_law_1630 ⟨show cells + 20 + 0 ≤ 603072 by omega, show slots + 200 + 0 ≤ 7182442 by omega⟩ ?_
  refine z_icmp_eq (tgt := 2168) hx hb dL_law_1633 (by decide) (fun g0 => ?_) (fun g0 => absurd heq g0)
  refine z_widen (show cells + 20 + 0 ≤ cells + 300 by omega) (show slots + 200 + 0 ≤ slots + 5400 by omega) ?_
  exact next _ _ _ _ (hR.mono (by omega))
theorem law_c25 {p : Program} {l : Launch} {e : Env} {s : State} {m : MethodId} {b : Nat} {below : List Frame} {meth : Method} {c : Code} {D : va_G} {kc : Nat → ClassId} {kd : ClassId} {ad am : Nat → Nat} {o1 o2 L : Nat} {xs : Nat → Int32} (C : LC p l s m b c D kc kd L xs) {Q : State → Prop} {cR : Int} {x mm : SS} (h : R cR x mm) (hc : 0 ≤ cR ∧ cR ≤ 1999990000) {i5 : Int32} {sv : Nat → Int32} (hsv : ∀ k, k < 9 → vp_in (i5 + Int32.ofNat k) L ∧ xs (i5 + Int32.ofNat k).toNatClampNeg = sv k) {cells slots : Nat} (hce : cells + 300 ≤ 603072) (hsl : slots + 5400 ≤ 7182442) (f : Nat → Int64) (g : Nat → UInt64) (next : ∀ (x2 m2 : SS) (f2 : Nat → Int64) (g2 : Nat → UInt64), R (cR + 2000) x2 m2 → LZ p l e s m b below meth c D kc kd ad am o1 o2 Q (cells + 300) (slots + 5400) f2 g2 x2 m2 2168 i5) : LZ p l e s m b below meth c D kc kd ad am o1 o2 Q cells slots f g x mm 1638 i5 := by
  have S := C.S
  have hx := S.1
  have hb := S.2.1
  have hA0 : ∀ z, s.heap.size ≤ z → s.heap.size ≤ z := fun z hz => hz
  obtain ⟨kM, kX, heq, hR⟩ := op_drivers h
  refine z_aload_n (j := 1) hx hb dL_law_1638 rfl rfl ?_
  refine zl_callXi (As := []) S C.hK C.hE (ctX10_drivers l C.hl D kc ad x kX) (cwV 0 S.2.2.2.2 (gV q2_211 q2_212 q2_213 q1_1 q2_214) rfl rfl rfl hX10_drivers ⟨Nat.le_of_ble_eq_true rfl, Nat.le_of_ble_eq_true rfl⟩) hA0 rfl rfl (Nat.le_of_ble_eq_true rfl) dL_law_1639 ⟨show cells + 20 ≤ 603072 by omega, show slots + 200 ≤ 7182442 by omega⟩ ?_
  refine z_aload_n (j := 2) hx hb dL_law_1642 rfl rfl ?_
  refine zl_callMi (As := []) S C.hK (ctX11_drivers l D kc am mm kM) (cwV 0 S.2.2.2.2 (gV q7_226 q7_227 q7_228 q1_12 q7_229) rfl rfl rfl hX11_drivers ⟨Nat.le_of_ble_eq_true rfl, Nat.le_of_ble_eq_true rfl⟩) hA0 rfl rfl (Nat.le_of_ble_eq_true rfl) dL_law_1643 ⟨show cells + 20 + 0 ≤ 603072 by omega, show slots + 200 + 0 ≤ 7182442 by omega⟩ ?_
  refine z_icmp_eq (tgt := 2168) hx hb dL_law_1646 (by decide) (fun g0 => ?_) (fun g0 => absurd heq g0)
  refine z_widen (show cells + 20 + 0 ≤ cells + 300 by omega) (show slots + 200 + 0 ≤ slots + 5400 by omega) ?_
  exact next _ _ _ _ (hR.mono (by omega))
theorem law_c26 {p : Program} {l : Launch} {e : Env} {s : State} {m : MethodId} {b : Nat} {below : List Frame} {meth : Method} {c : Code} {D : va_G} {kc : Nat → ClassId} {kd : ClassId} {ad am : Nat → Nat} {o1 o2 L : Nat} {xs : Nat → Int32} (C : LC p l s m b c D kc kd L xs) {Q : State → Prop} {cR : Int} {x mm : SS} (h : R cR x mm) (hc : 0 ≤ cR ∧ cR ≤ 1999990000) {i5 : Int32} {sv : Nat → Int32} (hsv : ∀ k, k < 9 → vp_in (i5 + Int32.ofNat k) L ∧ xs (i5 + Int32.ofNat k).toNatClampNeg = sv k) {cells slots : Nat} (hce : cells + 300 ≤ 603072) (hsl : slots + 5400 ≤ 7182442) (f : Nat → Int64) (g : Nat → UInt64) (next : ∀ (x2 m2 : SS) (f2 : Nat → Int64) (g2 : Nat → UInt64), R (cR + 2000) x2 m2 → LZ p l e s m b below meth c D kc kd ad am o1 o2 Q (cells + 300) (slots + 5400) f2 g2 x2 m2 2168 i5) : LZ p l e s m b below meth c D kc kd ad am o1 o2 Q cells slots f g x mm 1651 i5 := by
  have S := C.S
  have hx := S.1
  have hb := S.2.1
  have hA0 : ∀ z, s.heap.size ≤ z → s.heap.size ≤ z := fun z hz => hz
  obtain ⟨kM, kX, hok⟩ := op_unset h (sv 1)
  refine z_aload_n (j := 1) hx hb dL_law_1651 rfl rfl ?_
  refine zl_argI (k := 1) (j0 := 0) (j5 := 5) S C.hX C.hbl C.hbA (by decide) rfl rfl (hsv 1 (by decide)).1 (hsv 1 (by decide)).2 dL_law_1652 dL_law_1653 dL_law_1655 dL_law_1656 dL_law_1657 ?_
  refine z_aload_n (j := 3) hx hb dL_law_1658 rfl rfl ?_
  refine zl_callW1 (As := [.ref (ad 0), .int (sv 1), .ref o1]) S C.hK C.hKd C.hE (ctL_unset l C.hl D kc kd ad o1 x f (sv 1) (gI (fX11_unset mm (sv 1)).2 0) kX (okG_l (okI_G hok))) (vx_cwSW 3 S.2.2.2.2 (gSW q5_231 q5_232 q1_0 q5_233) rfl rfl rfl hL_unset ⟨Nat.le_of_ble_eq_true rfl, Nat.le_of_ble_eq_true rfl⟩) hA0 rfl rfl (Nat.le_of_ble_eq_true rfl) dL_law_1659 ⟨show cells + 20 ≤ 603072 by omega, show slots + 200 ≤ 7182442 by omega⟩ (fun r u hu => ?_)
  obtain ⟨x1, e1⟩ := u
  obtain ⟨f1, he, hr1, hR, hv⟩ := ok_use1 (fun a : Int32 => a.toInt64) (okI_G hok) hu (tb5 (by decide))
  have he : e1 = _ := he
  subst he
  refine z_istore (lv' := [(6, .int r), (0, .ref b), (1, .ref (ad 0)), (2, .ref (am 0)), (3, .ref o1), (4, .ref o2), (5, .int i5)]) hx hb dL_law_1662 (by decide) rfl ?_
  refine z_aload_n (j := 3) hx hb dL_law_1664 rfl rfl ?_
  refine zl_argI (k := 1) (j0 := 1) (j5 := 6) S C.hX C.hbl C.hbA (by decide) rfl rfl (hsv 1 (by decide)).1 (hsv 1 (by decide)).2 dL_law_1665 dL_law_1666 dL_law_1668 dL_law_1669 dL_law_1670 ?_
  refine zl_callMi (As := [.int (sv 1)]) S C.hK (ctX11_unset l D kc am mm (sv 1) kM) (cwV 1 S.2.2.2.2 (gV q7_230 q7_231 q7_232 q1_12 q7_233) rfl rfl rfl hX11_unset ⟨Nat.le_of_ble_eq_true rfl, Nat.le_of_ble_eq_true rfl⟩) hA0 rfl rfl (Nat.le_of_ble_eq_true rfl) dL_law_1671 ⟨show cells + 20 + 2 ≤ 603072 by omega, show slots + 200 + 2596 ≤ 7182442 by omega⟩ ?_
  refine z_istore (lv' := [(7, .int (fX11_unset mm (sv 1)).1), (6, .int r), (0, .ref b), (1, .ref (ad 0)), (2, .ref (am 0)), (3, .ref o1), (4, .ref o2), (5, .int i5)]) hx hb dL_law_1674 (by decide) rfl ?_
  refine z_aload_n (j := 4) hx hb dL_law_1676 rfl rfl ?_
  refine zl_callMi (F := (gI (fX11_unset mm (sv 1)).2 0, (fX11_unset mm (sv 1)).2)) (As := []) S C.hK (ctX11_thrown l D kc am (fX11_unset mm (sv 1)).2 trivial) (cwV 0 S.2.2.2.2 (gV q7_9 q7_10 q7_11 q1_12 q7_12) rfl rfl rfl hX11_thrown ⟨Nat.le_of_ble_eq_true rfl, Nat.le_of_ble_eq_true rfl⟩) hA0 rfl rfl (Nat.le_of_ble_eq_true rfl) dL_law_1677 ⟨show cells + 20 + 2 + 0 ≤ 603072 by omega, show slots + 200 + 2596 + 0 ≤ 7182442 by omega⟩ ?_
  refine z_iload (j := 1) hx hb dL_law_1680 rfl ?_
  refine z_icmp_eq (tgt := 1687) hx hb dL_law_1682 (by decide) (fun g0 => ?_) (fun g0 => absurd hr1.symm g0)
  refine z_iload (j := 1) hx hb dL_law_1687 rfl ?_
  refine z_if_ne (tgt := 1704) hx hb dL_law_1689 (by decide) (fun g1 => ?_) (fun g1 => ?_)
  · refine z_goto (tgt := 2168) hx hb dL_law_1704 (by decide) ?_
    refine z_widen (show cells + 20 + 2 + 0 ≤ cells + 300 by omega) (show slots + 200 + 2596 + 0 ≤ slots + 5400 by omega) ?_
    refine z_sub [2, 3, 4, 5, 6, 7] rfl ?_
    exact next _ _ _ _ (hR.mono (by omega))
  have hv := hv g1
  refine z_aload_n (j := 5) hx hb dL_law_1692 rfl rfl ?_
  refine z_iconst (v := 0) hx hb dL_law_1693 (by decide) ?_
  refine zl_lald S C.hK dL_law_1694 ?_
  refine z_iload (j := 0) hx hb dL_law_1695 rfl ?_
  refine z_i2l hx hb dL_law_1697 ?_
  refine z_lcmp hx hb dL_law_1698 ?_
  refine z_if_eq (tgt := 1704) hx hb dL_law_1699 (by decide) (fun g2 => ?_) (fun g2 => absurd (by rw [hv]; exact lg_self _) g2)
  refine z_goto (tgt := 2168) hx hb dL_law_1704 (by decide) ?_
  refine z_widen (show cells + 20 + 2 + 0 ≤ cells + 300 by omega) (show slots + 200 + 2596 + 0 ≤ slots + 5400 by omega) ?_
  refine z_sub [2, 3, 4, 5, 6, 7] rfl ?_
  exact next _ _ _ _ (hR.mono (by omega))
theorem law_c27 {p : Program} {l : Launch} {e : Env} {s : State} {m : MethodId} {b : Nat} {below : List Frame} {meth : Method} {c : Code} {D : va_G} {kc : Nat → ClassId} {kd : ClassId} {ad am : Nat → Nat} {o1 o2 L : Nat} {xs : Nat → Int32} (C : LC p l s m b c D kc kd L xs) {Q : State → Prop} {cR : Int} {x mm : SS} (h : R cR x mm) (hc : 0 ≤ cR ∧ cR ≤ 1999990000) {i5 : Int32} {sv : Nat → Int32} (hsv : ∀ k, k < 9 → vp_in (i5 + Int32.ofNat k) L ∧ xs (i5 + Int32.ofNat k).toNatClampNeg = sv k) {cells slots : Nat} (hce : cells + 300 ≤ 603072) (hsl : slots + 5400 ≤ 7182442) (f : Nat → Int64) (g : Nat → UInt64) (next : ∀ (x2 m2 : SS) (f2 : Nat → Int64) (g2 : Nat → UInt64), R (cR + 2000) x2 m2 → LZ p l e s m b below meth c D kc kd ad am o1 o2 Q (cells + 300) (slots + 5400) f2 g2 x2 m2 2168 i5) : LZ p l e s m b below meth c D kc kd ad am o1 o2 Q cells slots f g x mm 1707 i5 := by
  have S := C.S
  have hx := S.1
  have hb := S.2.1
  have hA0 : ∀ z, s.heap.size ≤ z → s.heap.size ≤ z := fun z hz => hz
  obtain ⟨kM, kX, hok⟩ := op_reached h (sv 1)
  refine z_aload_n (j := 1) hx hb dL_law_1707 rfl rfl ?_
  refine zl_argI (k := 1) (j0 := 0) (j5 := 5) S C.hX C.hbl C.hbA (by decide) rfl rfl (hsv 1 (by decide)).1 (hsv 1 (by decide)).2 dL_law_1708 dL_law_1709 dL_law_1711 dL_law_1712 dL_law_1713 ?_
  refine z_aload_n (j := 3) hx hb dL_law_1714 rfl rfl ?_
  refine zl_callW1 (As := [.ref (ad 0), .int (sv 1), .ref o1]) S C.hK C.hKd C.hE (ctL_reached l C.hl D kc kd ad o1 x f (sv 1) (gI (fX11_reached mm (sv 1)).2 0) kX (okG_l (okI_G hok))) (vx_cwSW 3 S.2.2.2.2 (gSW q6_26 q6_27 q1_0 q6_28) rfl rfl rfl hL_reached ⟨Nat.le_of_ble_eq_true rfl, Nat.le_of_ble_eq_true rfl⟩) hA0 rfl rfl (Nat.le_of_ble_eq_true rfl) dL_law_1715 ⟨show cells + 20 ≤ 603072 by omega, show slots + 200 ≤ 7182442 by omega⟩ (fun r u hu => ?_)
  obtain ⟨x1, e1⟩ := u
  obtain ⟨f1, he, hr1, hR, hv⟩ := ok_use1 (fun a : Int32 => a.toInt64) (okI_G hok) hu (tb5 (by decide))
  have he : e1 = _ := he
  subst he
  refine z_istore (lv' := [(6, .int r), (0, .ref b), (1, .ref (ad 0)), (2, .ref (am 0)), (3, .ref o1), (4, .ref o2), (5, .int i5)]) hx hb dL_law_1718 (by decide) rfl ?_
  refine z_aload_n (j := 3) hx hb dL_law_1720 rfl rfl ?_
  refine zl_argI (k := 1) (j0 := 1) (j5 := 6) S C.hX C.hbl C.hbA (by decide) rfl rfl (hsv 1 (by decide)).1 (hsv 1 (by decide)).2 dL_law_1721 dL_law_1722 dL_law_1724 dL_law_1725 dL_law_1726 ?_
  refine zl_callMi (As := [.int (sv 1)]) S C.hK (ctX11_reached l D kc am mm (sv 1) kM) (cwV 1 S.2.2.2.2 (gV q8_6 q8_7 q8_8 q1_12 q8_9) rfl rfl rfl hX11_reached ⟨Nat.le_of_ble_eq_true rfl, Nat.le_of_ble_eq_true rfl⟩) hA0 rfl rfl (Nat.le_of_ble_eq_true rfl) dL_law_1727 ⟨show cells + 20 + 2 ≤ 603072 by omega, show slots + 200 + 2596 ≤ 7182442 by omega⟩ ?_
  refine z_istore (lv' := [(7, .int (fX11_reached mm (sv 1)).1), (6, .int r), (0, .ref b), (1, .ref (ad 0)), (2, .ref (am 0)), (3, .ref o1), (4, .ref o2), (5, .int i5)]) hx hb dL_law_1730 (by decide) rfl ?_
  refine z_aload_n (j := 4) hx hb dL_law_1732 rfl rfl ?_
  refine zl_callMi (F := (gI (fX11_reached mm (sv 1)).2 0, (fX11_reached mm (sv 1)).2)) (As := []) S C.hK (ctX11_thrown l D kc am (fX11_reached mm (sv 1)).2 trivial) (cwV 0 S.2.2.2.2 (gV q7_9 q7_10 q7_11 q1_12 q7_12) rfl rfl rfl hX11_thrown ⟨Nat.le_of_ble_eq_true rfl, Nat.le_of_ble_eq_true rfl⟩) hA0 rfl rfl (Nat.le_of_ble_eq_true rfl) dL_law_1733 ⟨show cells + 20 + 2 + 0 ≤ 603072 by omega, show slots + 200 + 2596 + 0 ≤ 7182442 by omega⟩ ?_
  refine z_iload (j := 1) hx hb dL_law_1736 rfl ?_
  refine z_icmp_eq (tgt := 1743) hx hb dL_law_1738 (by decide) (fun g0 => ?_) (fun g0 => absurd hr1.symm g0)
  refine z_iload (j := 1) hx hb dL_law_1743 rfl ?_
  refine z_if_ne (tgt := 1760) hx hb dL_law_1745 (by decide) (fun g1 => ?_) (fun g1 => ?_)
  · refine z_goto (tgt := 2168) hx hb dL_law_1760 (by decide) ?_
    refine z_widen (show cells + 20 + 2 + 0 ≤ cells + 300 by omega) (show slots + 200 + 2596 + 0 ≤ slots + 5400 by omega) ?_
    refine z_sub [2, 3, 4, 5, 6, 7] rfl ?_
    exact next _ _ _ _ (hR.mono (by omega))
  have hv := hv g1
  refine z_aload_n (j := 5) hx hb dL_law_1748 rfl rfl ?_
  refine z_iconst (v := 0) hx hb dL_law_1749 (by decide) ?_
  refine zl_lald S C.hK dL_law_1750 ?_
  refine z_iload (j := 0) hx hb dL_law_1751 rfl ?_
  refine z_i2l hx hb dL_law_1753 ?_
  refine z_lcmp hx hb dL_law_1754 ?_
  refine z_if_eq (tgt := 1760) hx hb dL_law_1755 (by decide) (fun g2 => ?_) (fun g2 => absurd (by rw [hv]; exact lg_self _) g2)
  refine z_goto (tgt := 2168) hx hb dL_law_1760 (by decide) ?_
  refine z_widen (show cells + 20 + 2 + 0 ≤ cells + 300 by omega) (show slots + 200 + 2596 + 0 ≤ slots + 5400 by omega) ?_
  refine z_sub [2, 3, 4, 5, 6, 7] rfl ?_
  exact next _ _ _ _ (hR.mono (by omega))
theorem law_c28 {p : Program} {l : Launch} {e : Env} {s : State} {m : MethodId} {b : Nat} {below : List Frame} {meth : Method} {c : Code} {D : va_G} {kc : Nat → ClassId} {kd : ClassId} {ad am : Nat → Nat} {o1 o2 L : Nat} {xs : Nat → Int32} (C : LC p l s m b c D kc kd L xs) {Q : State → Prop} {cR : Int} {x mm : SS} (h : R cR x mm) (hc : 0 ≤ cR ∧ cR ≤ 1999990000) {i5 : Int32} {sv : Nat → Int32} (hsv : ∀ k, k < 9 → vp_in (i5 + Int32.ofNat k) L ∧ xs (i5 + Int32.ofNat k).toNatClampNeg = sv k) {cells slots : Nat} (hce : cells + 300 ≤ 603072) (hsl : slots + 5400 ≤ 7182442) (f : Nat → Int64) (g : Nat → UInt64) (next : ∀ (x2 m2 : SS) (f2 : Nat → Int64) (g2 : Nat → UInt64), R (cR + 2000) x2 m2 → LZ p l e s m b below meth c D kc kd ad am o1 o2 Q (cells + 300) (slots + 5400) f2 g2 x2 m2 2168 i5) : LZ p l e s m b below meth c D kc kd ad am o1 o2 Q cells slots f g x mm 1763 i5 := by
  have S := C.S
  have hx := S.1
  have hb := S.2.1
  have hA0 : ∀ z, s.heap.size ≤ z → s.heap.size ≤ z := fun z hz => hz
  obtain ⟨kM, kX, hok⟩ := op_defined h (((sv 1).toUInt32 % 65536).toInt32) (rg_i2c (sv 1))
  refine z_aload_n (j := 1) hx hb dL_law_1763 rfl rfl ?_
  refine zl_argI (k := 1) (j0 := 0) (j5 := 5) S C.hX C.hbl C.hbA (by decide) rfl rfl (hsv 1 (by decide)).1 (hsv 1 (by decide)).2 dL_law_1764 dL_law_1765 dL_law_1767 dL_law_1768 dL_law_1769 ?_
  refine z_i2c hx hb dL_law_1770 ?_
  refine z_aload_n (j := 3) hx hb dL_law_1771 rfl rfl ?_
  refine zl_callW1 (As := [.ref (ad 0), .int (((sv 1).toUInt32 % 65536).toInt32), .ref o1]) S C.hK C.hKd C.hE (ctL_defined l C.hl D kc kd ad o1 x f (((sv 1).toUInt32 % 65536).toInt32) (gI (fX11_defined mm (((sv 1).toUInt32 % 65536).toInt32)).2 0) kX (okG_l (okI_G hok))) (vx_cwSW 3 S.2.2.2.2 (gSW q6_33 q6_34 q1_0 q6_35) rfl rfl rfl hL_defined ⟨Nat.le_of_ble_eq_true rfl, Nat.le_of_ble_eq_true rfl⟩) hA0 rfl rfl (Nat.le_of_ble_eq_true rfl) dL_law_1772 ⟨show cells + 20 ≤ 603072 by omega, show slots + 200 ≤ 7182442 by omega⟩ (fun r u hu => ?_)
  obtain ⟨x1, e1⟩ := u
  obtain ⟨f1, he, hr1, hR, hv⟩ := ok_use1 (fun a : Int32 => a.toInt64) (okI_G hok) hu (tb5 (by decide))
  have he : e1 = _ := he
  subst he
  refine z_istore (lv' := [(6, .int r), (0, .ref b), (1, .ref (ad 0)), (2, .ref (am 0)), (3, .ref o1), (4, .ref o2), (5, .int i5)]) hx hb dL_law_1775 (by decide) rfl ?_
  refine z_aload_n (j := 3) hx hb dL_law_1777 rfl rfl ?_
  refine zl_argI (k := 1) (j0 := 1) (j5 := 6) S C.hX C.hbl C.hbA (by decide) rfl rfl (hsv 1 (by decide)).1 (hsv 1 (by decide)).2 dL_law_1778 dL_law_1779 dL_law_1781 dL_law_1782 dL_law_1783 ?_
  refine z_i2c hx hb dL_law_1784 ?_
  refine zl_callMi (As := [.int (((sv 1).toUInt32 % 65536).toInt32)]) S C.hK (ctX11_defined l D kc am mm (((sv 1).toUInt32 % 65536).toInt32) kM) (cwV 1 S.2.2.2.2 (gV q8_10 q8_11 q8_12 q1_12 q8_13) rfl rfl rfl hX11_defined ⟨Nat.le_of_ble_eq_true rfl, Nat.le_of_ble_eq_true rfl⟩) hA0 rfl rfl (Nat.le_of_ble_eq_true rfl) dL_law_1785 ⟨show cells + 20 + 0 ≤ 603072 by omega, show slots + 200 + 0 ≤ 7182442 by omega⟩ ?_
  refine z_istore (lv' := [(7, .int (fX11_defined mm (((sv 1).toUInt32 % 65536).toInt32)).1), (6, .int r), (0, .ref b), (1, .ref (ad 0)), (2, .ref (am 0)), (3, .ref o1), (4, .ref o2), (5, .int i5)]) hx hb dL_law_1788 (by decide) rfl ?_
  refine z_aload_n (j := 4) hx hb dL_law_1790 rfl rfl ?_
  refine zl_callMi (F := (gI (fX11_defined mm (((sv 1).toUInt32 % 65536).toInt32)).2 0, (fX11_defined mm (((sv 1).toUInt32 % 65536).toInt32)).2)) (As := []) S C.hK (ctX11_thrown l D kc am (fX11_defined mm (((sv 1).toUInt32 % 65536).toInt32)).2 trivial) (cwV 0 S.2.2.2.2 (gV q7_9 q7_10 q7_11 q1_12 q7_12) rfl rfl rfl hX11_thrown ⟨Nat.le_of_ble_eq_true rfl, Nat.le_of_ble_eq_true rfl⟩) hA0 rfl rfl (Nat.le_of_ble_eq_true rfl) dL_law_1791 ⟨show cells + 20 + 0 + 0 ≤ 603072 by omega, show slots + 200 + 0 + 0 ≤ 7182442 by omega⟩ ?_
  refine z_iload (j := 1) hx hb dL_law_1794 rfl ?_
  refine z_icmp_eq (tgt := 1801) hx hb dL_law_1796 (by decide) (fun g0 => ?_) (fun g0 => absurd hr1.symm g0)
  refine z_iload (j := 1) hx hb dL_law_1801 rfl ?_
  refine z_if_ne (tgt := 1818) hx hb dL_law_1803 (by decide) (fun g1 => ?_) (fun g1 => ?_)
  · refine z_goto (tgt := 2168) hx hb dL_law_1818 (by decide) ?_
    refine z_widen (show cells + 20 + 0 + 0 ≤ cells + 300 by omega) (show slots + 200 + 0 + 0 ≤ slots + 5400 by omega) ?_
    refine z_sub [2, 3, 4, 5, 6, 7] rfl ?_
    exact next _ _ _ _ (hR.mono (by omega))
  have hv := hv g1
  refine z_aload_n (j := 5) hx hb dL_law_1806 rfl rfl ?_
  refine z_iconst (v := 0) hx hb dL_law_1807 (by decide) ?_
  refine zl_lald S C.hK dL_law_1808 ?_
  refine z_iload (j := 0) hx hb dL_law_1809 rfl ?_
  refine z_i2l hx hb dL_law_1811 ?_
  refine z_lcmp hx hb dL_law_1812 ?_
  refine z_if_eq (tgt := 1818) hx hb dL_law_1813 (by decide) (fun g2 => ?_) (fun g2 => absurd (by rw [hv]; exact lg_self _) g2)
  refine z_goto (tgt := 2168) hx hb dL_law_1818 (by decide) ?_
  refine z_widen (show cells + 20 + 0 + 0 ≤ cells + 300 by omega) (show slots + 200 + 0 + 0 ≤ slots + 5400 by omega) ?_
  refine z_sub [2, 3, 4, 5, 6, 7] rfl ?_
  exact next _ _ _ _ (hR.mono (by omega))
theorem law_c29 {p : Program} {l : Launch} {e : Env} {s : State} {m : MethodId} {b : Nat} {below : List Frame} {meth : Method} {c : Code} {D : va_G} {kc : Nat → ClassId} {kd : ClassId} {ad am : Nat → Nat} {o1 o2 L : Nat} {xs : Nat → Int32} (C : LC p l s m b c D kc kd L xs) {Q : State → Prop} {cR : Int} {x mm : SS} (h : R cR x mm) (hc : 0 ≤ cR ∧ cR ≤ 1999990000) {i5 : Int32} {sv : Nat → Int32} (hsv : ∀ k, k < 9 → vp_in (i5 + Int32.ofNat k) L ∧ xs (i5 + Int32.ofNat k).toNatClampNeg = sv k) {cells slots : Nat} (hce : cells + 300 ≤ 603072) (hsl : slots + 5400 ≤ 7182442) (f : Nat → Int64) (g : Nat → UInt64) (next : ∀ (x2 m2 : SS) (f2 : Nat → Int64) (g2 : Nat → UInt64), R (cR + 2000) x2 m2 → LZ p l e s m b below meth c D kc kd ad am o1 o2 Q (cells + 300) (slots + 5400) f2 g2 x2 m2 2168 i5) : LZ p l e s m b below meth c D kc kd ad am o1 o2 Q cells slots f g x mm 1821 i5 := by
  have S := C.S
  have hx := S.1
  have hb := S.2.1
  have hA0 : ∀ z, s.heap.size ≤ z → s.heap.size ≤ z := fun z hz => hz
  obtain ⟨kM, kX, heq, hR⟩ := op_ended h
  refine z_aload_n (j := 1) hx hb dL_law_1821 rfl rfl ?_
  refine zl_callXi (As := []) S C.hK C.hE (ctX10_ended l C.hl D kc ad x kX) (cwV 0 S.2.2.2.2 (gV q2_215 q2_216 q2_217 q1_1 q2_218) rfl rfl rfl hX10_ended ⟨Nat.le_of_ble_eq_true rfl, Nat.le_of_ble_eq_true rfl⟩) hA0 rfl rfl (Nat.le_of_ble_eq_true rfl) dL_law_1822 ⟨show cells + 20 ≤ 603072 by omega, show slots + 200 ≤ 7182442 by omega⟩ ?_
  refine z_aload_n (j := 2) hx hb dL_law_1825 rfl rfl ?_
  refine zl_callMi (As := []) S C.hK (ctX11_ended l D kc am mm kM) (cwV 0 S.2.2.2.2 (gV q8_14 q8_15 q8_16 q1_12 q8_17) rfl rfl rfl hX11_ended ⟨Nat.le_of_ble_eq_true rfl, Nat.le_of_ble_eq_true rfl⟩) hA0 rfl rfl (Nat.le_of_ble_eq_true rfl) dL_law_1826 ⟨show cells + 20 + 0 ≤ 603072 by omega, show slots + 200 + 0 ≤ 7182442 by omega⟩ ?_
  refine z_icmp_eq (tgt := 2168) hx hb dL_law_1829 (by decide) (fun g0 => ?_) (fun g0 => absurd heq g0)
  refine z_widen (show cells + 20 + 0 ≤ cells + 300 by omega) (show slots + 200 + 0 ≤ slots + 5400 by omega) ?_
  exact next _ _ _ _ (hR.mono (by omega))
theorem law_c30 {p : Program} {l : Launch} {e : Env} {s : State} {m : MethodId} {b : Nat} {below : List Frame} {meth : Method} {c : Code} {D : va_G} {kc : Nat → ClassId} {kd : ClassId} {ad am : Nat → Nat} {o1 o2 L : Nat} {xs : Nat → Int32} (C : LC p l s m b c D kc kd L xs) {Q : State → Prop} {cR : Int} {x mm : SS} (h : R cR x mm) (hc : 0 ≤ cR ∧ cR ≤ 1999990000) {i5 : Int32} {sv : Nat → Int32} (hsv : ∀ k, k < 9 → vp_in (i5 + Int32.ofNat k) L ∧ xs (i5 + Int32.ofNat k).toNatClampNeg = sv k) {cells slots : Nat} (hce : cells + 300 ≤ 603072) (hsl : slots + 5400 ≤ 7182442) (f : Nat → Int64) (g : Nat → UInt64) (next : ∀ (x2 m2 : SS) (f2 : Nat → Int64) (g2 : Nat → UInt64), R (cR + 2000) x2 m2 → LZ p l e s m b below meth c D kc kd ad am o1 o2 Q (cells + 300) (slots + 5400) f2 g2 x2 m2 2168 i5) : LZ p l e s m b below meth c D kc kd ad am o1 o2 Q cells slots f g x mm 1834 i5 := by
  have S := C.S
  have hx := S.1
  have hb := S.2.1
  have hA0 : ∀ z, s.heap.size ≤ z → s.heap.size ≤ z := fun z hz => hz
  obtain ⟨kM, kX, heq, hR⟩ := op_wrong h
  refine z_aload_n (j := 1) hx hb dL_law_1834 rfl rfl ?_
  refine zl_callXi (As := []) S C.hK C.hE (ctX10_wrong l C.hl D kc ad x kX) (cwV 0 S.2.2.2.2 (gV q2_219 q2_220 q2_221 q1_1 q2_222) rfl rfl rfl hX10_wrong ⟨Nat.le_of_ble_eq_true rfl, Nat.le_of_ble_eq_true rfl⟩) hA0 rfl rfl (Nat.le_of_ble_eq_true rfl) dL_law_1835 ⟨show cells + 20 ≤ 603072 by omega, show slots + 200 ≤ 7182442 by omega⟩ ?_
  refine z_aload_n (j := 2) hx hb dL_law_1838 rfl rfl ?_
  refine zl_callMi (As := []) S C.hK (ctX11_wrong l D kc am mm kM) (cwV 0 S.2.2.2.2 (gV q8_18 q8_19 q8_20 q1_12 q8_21) rfl rfl rfl hX11_wrong ⟨Nat.le_of_ble_eq_true rfl, Nat.le_of_ble_eq_true rfl⟩) hA0 rfl rfl (Nat.le_of_ble_eq_true rfl) dL_law_1839 ⟨show cells + 20 + 0 ≤ 603072 by omega, show slots + 200 + 0 ≤ 7182442 by omega⟩ ?_
  refine z_icmp_eq (tgt := 2168) hx hb dL_law_1842 (by decide) (fun g0 => ?_) (fun g0 => absurd heq g0)
  refine z_widen (show cells + 20 + 0 ≤ cells + 300 by omega) (show slots + 200 + 0 ≤ slots + 5400 by omega) ?_
  exact next _ _ _ _ (hR.mono (by omega))
theorem law_c31 {p : Program} {l : Launch} {e : Env} {s : State} {m : MethodId} {b : Nat} {below : List Frame} {meth : Method} {c : Code} {D : va_G} {kc : Nat → ClassId} {kd : ClassId} {ad am : Nat → Nat} {o1 o2 L : Nat} {xs : Nat → Int32} (C : LC p l s m b c D kc kd L xs) {Q : State → Prop} {cR : Int} {x mm : SS} (h : R cR x mm) (hc : 0 ≤ cR ∧ cR ≤ 1999990000) {i5 : Int32} {sv : Nat → Int32} (hsv : ∀ k, k < 9 → vp_in (i5 + Int32.ofNat k) L ∧ xs (i5 + Int32.ofNat k).toNatClampNeg = sv k) {cells slots : Nat} (hce : cells + 300 ≤ 603072) (hsl : slots + 5400 ≤ 7182442) (f : Nat → Int64) (g : Nat → UInt64) (next : ∀ (x2 m2 : SS) (f2 : Nat → Int64) (g2 : Nat → UInt64), R (cR + 2000) x2 m2 → LZ p l e s m b below meth c D kc kd ad am o1 o2 Q (cells + 300) (slots + 5400) f2 g2 x2 m2 2168 i5) : LZ p l e s m b below meth c D kc kd ad am o1 o2 Q cells slots f g x mm 1847 i5 := by
  have S := C.S
  have hx := S.1
  have hb := S.2.1
  have hA0 : ∀ z, s.heap.size ≤ z → s.heap.size ≤ z := fun z hz => hz
  obtain ⟨kM, kX, hok⟩ := op_firstWrong h
  refine z_aload_n (j := 1) hx hb dL_law_1847 rfl rfl ?_
  refine z_aload_n (j := 3) hx hb dL_law_1848 rfl rfl ?_
  refine zl_callW1 (As := [.ref (ad 0), .ref o1]) S C.hK C.hKd C.hE (ctL_firstWrong l C.hl D kc kd ad o1 x f (gI (fX11_firstWrong mm).2 0) kX (okG_l (okI_G hok))) (vx_cwSW 2 S.2.2.2.2 (gSW q6_44 q6_45 q1_0 q6_46) rfl rfl rfl hL_firstWrong ⟨Nat.le_of_ble_eq_true rfl, Nat.le_of_ble_eq_true rfl⟩) hA0 rfl rfl (Nat.le_of_ble_eq_true rfl) dL_law_1849 ⟨show cells + 20 ≤ 603072 by omega, show slots + 200 ≤ 7182442 by omega⟩ (fun r u hu => ?_)
  obtain ⟨x1, e1⟩ := u
  obtain ⟨f1, he, hr1, hR, hv⟩ := ok_use1 (fun a : Int32 => a.toInt64) (okI_G hok) hu (tb5 (by decide))
  have he : e1 = _ := he
  subst he
  refine z_istore (lv' := [(6, .int r), (0, .ref b), (1, .ref (ad 0)), (2, .ref (am 0)), (3, .ref o1), (4, .ref o2), (5, .int i5)]) hx hb dL_law_1852 (by decide) rfl ?_
  refine z_aload_n (j := 3) hx hb dL_law_1854 rfl rfl ?_
  refine zl_callMi (As := []) S C.hK (ctX11_firstWrong l D kc am mm kM) (cwV 0 S.2.2.2.2 (gV q8_22 q8_23 q8_24 q1_12 q8_25) rfl rfl rfl hX11_firstWrong ⟨Nat.le_of_ble_eq_true rfl, Nat.le_of_ble_eq_true rfl⟩) hA0 rfl rfl (Nat.le_of_ble_eq_true rfl) dL_law_1855 ⟨show cells + 20 + 0 ≤ 603072 by omega, show slots + 200 + 0 ≤ 7182442 by omega⟩ ?_
  refine z_istore (lv' := [(7, .int (fX11_firstWrong mm).1), (6, .int r), (0, .ref b), (1, .ref (ad 0)), (2, .ref (am 0)), (3, .ref o1), (4, .ref o2), (5, .int i5)]) hx hb dL_law_1858 (by decide) rfl ?_
  refine z_aload_n (j := 4) hx hb dL_law_1860 rfl rfl ?_
  refine zl_callMi (F := (gI (fX11_firstWrong mm).2 0, (fX11_firstWrong mm).2)) (As := []) S C.hK (ctX11_thrown l D kc am (fX11_firstWrong mm).2 trivial) (cwV 0 S.2.2.2.2 (gV q7_9 q7_10 q7_11 q1_12 q7_12) rfl rfl rfl hX11_thrown ⟨Nat.le_of_ble_eq_true rfl, Nat.le_of_ble_eq_true rfl⟩) hA0 rfl rfl (Nat.le_of_ble_eq_true rfl) dL_law_1861 ⟨show cells + 20 + 0 + 0 ≤ 603072 by omega, show slots + 200 + 0 + 0 ≤ 7182442 by omega⟩ ?_
  refine z_iload (j := 1) hx hb dL_law_1864 rfl ?_
  refine z_icmp_eq (tgt := 1871) hx hb dL_law_1866 (by decide) (fun g0 => ?_) (fun g0 => absurd hr1.symm g0)
  refine z_iload (j := 1) hx hb dL_law_1871 rfl ?_
  refine z_if_ne (tgt := 1888) hx hb dL_law_1873 (by decide) (fun g1 => ?_) (fun g1 => ?_)
  · refine z_goto (tgt := 2168) hx hb dL_law_1888 (by decide) ?_
    refine z_widen (show cells + 20 + 0 + 0 ≤ cells + 300 by omega) (show slots + 200 + 0 + 0 ≤ slots + 5400 by omega) ?_
    refine z_sub [2, 3, 4, 5, 6, 7] rfl ?_
    exact next _ _ _ _ (hR.mono (by omega))
  have hv := hv g1
  refine z_aload_n (j := 5) hx hb dL_law_1876 rfl rfl ?_
  refine z_iconst (v := 0) hx hb dL_law_1877 (by decide) ?_
  refine zl_lald S C.hK dL_law_1878 ?_
  refine z_iload (j := 0) hx hb dL_law_1879 rfl ?_
  refine z_i2l hx hb dL_law_1881 ?_
  refine z_lcmp hx hb dL_law_1882 ?_
  refine z_if_eq (tgt := 1888) hx hb dL_law_1883 (by decide) (fun g2 => ?_) (fun g2 => absurd (by rw [hv]; exact lg_self _) g2)
  refine z_goto (tgt := 2168) hx hb dL_law_1888 (by decide) ?_
  refine z_widen (show cells + 20 + 0 + 0 ≤ cells + 300 by omega) (show slots + 200 + 0 + 0 ≤ slots + 5400 by omega) ?_
  refine z_sub [2, 3, 4, 5, 6, 7] rfl ?_
  exact next _ _ _ _ (hR.mono (by omega))
theorem law_c32 {p : Program} {l : Launch} {e : Env} {s : State} {m : MethodId} {b : Nat} {below : List Frame} {meth : Method} {c : Code} {D : va_G} {kc : Nat → ClassId} {kd : ClassId} {ad am : Nat → Nat} {o1 o2 L : Nat} {xs : Nat → Int32} (C : LC p l s m b c D kc kd L xs) {Q : State → Prop} {cR : Int} {x mm : SS} (h : R cR x mm) (hc : 0 ≤ cR ∧ cR ≤ 1999990000) {i5 : Int32} {sv : Nat → Int32} (hsv : ∀ k, k < 9 → vp_in (i5 + Int32.ofNat k) L ∧ xs (i5 + Int32.ofNat k).toNatClampNeg = sv k) {cells slots : Nat} (hce : cells + 300 ≤ 603072) (hsl : slots + 5400 ≤ 7182442) (f : Nat → Int64) (g : Nat → UInt64) (next : ∀ (x2 m2 : SS) (f2 : Nat → Int64) (g2 : Nat → UInt64), R (cR + 2000) x2 m2 → LZ p l e s m b below meth c D kc kd ad am o1 o2 Q (cells + 300) (slots + 5400) f2 g2 x2 m2 2168 i5) : LZ p l e s m b below meth c D kc kd ad am o1 o2 Q cells slots f g x mm 1891 i5 := by
  have S := C.S
  have hx := S.1
  have hb := S.2.1
  have hA0 : ∀ z, s.heap.size ≤ z → s.heap.size ≤ z := fun z hz => hz
  obtain ⟨kM, kX, heq, hR⟩ := op_fights h
  refine z_aload_n (j := 1) hx hb dL_law_1891 rfl rfl ?_
  refine zl_callXi (As := []) S C.hK C.hE (ctX10_fights l C.hl D kc ad x kX) (cwV 0 S.2.2.2.2 (gV q2_223 q2_224 q2_225 q1_1 q2_226) rfl rfl rfl hX10_fights ⟨Nat.le_of_ble_eq_true rfl, Nat.le_of_ble_eq_true rfl⟩) hA0 rfl rfl (Nat.le_of_ble_eq_true rfl) dL_law_1892 ⟨show cells + 20 ≤ 603072 by omega, show slots + 200 ≤ 7182442 by omega⟩ ?_
  refine z_aload_n (j := 2) hx hb dL_law_1895 rfl rfl ?_
  refine zl_callMi (As := []) S C.hK (ctX11_fights l D kc am mm kM) (cwV 0 S.2.2.2.2 (gV q8_26 q8_27 q8_28 q1_12 q8_29) rfl rfl rfl hX11_fights ⟨Nat.le_of_ble_eq_true rfl, Nat.le_of_ble_eq_true rfl⟩) hA0 rfl rfl (Nat.le_of_ble_eq_true rfl) dL_law_1896 ⟨show cells + 20 + 0 ≤ 603072 by omega, show slots + 200 + 0 ≤ 7182442 by omega⟩ ?_
  refine z_icmp_eq (tgt := 2168) hx hb dL_law_1899 (by decide) (fun g0 => ?_) (fun g0 => absurd heq g0)
  refine z_widen (show cells + 20 + 0 ≤ cells + 300 by omega) (show slots + 200 + 0 ≤ slots + 5400 by omega) ?_
  exact next _ _ _ _ (hR.mono (by omega))
theorem law_c33 {p : Program} {l : Launch} {e : Env} {s : State} {m : MethodId} {b : Nat} {below : List Frame} {meth : Method} {c : Code} {D : va_G} {kc : Nat → ClassId} {kd : ClassId} {ad am : Nat → Nat} {o1 o2 L : Nat} {xs : Nat → Int32} (C : LC p l s m b c D kc kd L xs) {Q : State → Prop} {cR : Int} {x mm : SS} (h : R cR x mm) (hc : 0 ≤ cR ∧ cR ≤ 1999990000) {i5 : Int32} {sv : Nat → Int32} (hsv : ∀ k, k < 9 → vp_in (i5 + Int32.ofNat k) L ∧ xs (i5 + Int32.ofNat k).toNatClampNeg = sv k) {cells slots : Nat} (hce : cells + 300 ≤ 603072) (hsl : slots + 5400 ≤ 7182442) (f : Nat → Int64) (g : Nat → UInt64) (next : ∀ (x2 m2 : SS) (f2 : Nat → Int64) (g2 : Nat → UInt64), R (cR + 2000) x2 m2 → LZ p l e s m b below meth c D kc kd ad am o1 o2 Q (cells + 300) (slots + 5400) f2 g2 x2 m2 2168 i5) : LZ p l e s m b below meth c D kc kd ad am o1 o2 Q cells slots f g x mm 1904 i5 := by
  have S := C.S
  have hx := S.1
  have hb := S.2.1
  have hA0 : ∀ z, s.heap.size ≤ z → s.heap.size ≤ z := fun z hz => hz
  obtain ⟨kM, kX, heq, hR⟩ := op_faults h
  refine z_aload_n (j := 1) hx hb dL_law_1904 rfl rfl ?_
  refine zl_callXi (As := []) S C.hK C.hE (ctX10_faults l C.hl D kc ad x kX) (cwV 0 S.2.2.2.2 (gV q2_227 q2_228 q2_229 q1_1 q2_230) rfl rfl rfl hX10_faults ⟨Nat.le_of_ble_eq_true rfl, Nat.le_of_ble_eq_true rfl⟩) hA0 rfl rfl (Nat.le_of_ble_eq_true rfl) dL_law_1905 ⟨show cells + 20 ≤ 603072 by omega, show slots + 200 ≤ 7182442 by omega⟩ ?_
  refine z_aload_n (j := 2) hx hb dL_law_1908 rfl rfl ?_
  refine zl_callMi (As := []) S C.hK (ctX11_faults l D kc am mm kM) (cwV 0 S.2.2.2.2 (gV q8_30 q8_31 q8_32 q1_12 q8_33) rfl rfl rfl hX11_faults ⟨Nat.le_of_ble_eq_true rfl, Nat.le_of_ble_eq_true rfl⟩) hA0 rfl rfl (Nat.le_of_ble_eq_true rfl) dL_law_1909 ⟨show cells + 20 + 0 ≤ 603072 by omega, show slots + 200 + 0 ≤ 7182442 by omega⟩ ?_
  refine z_icmp_eq (tgt := 2168) hx hb dL_law_1912 (by decide) (fun g0 => ?_) (fun g0 => absurd heq g0)
  refine z_widen (show cells + 20 + 0 ≤ cells + 300 by omega) (show slots + 200 + 0 ≤ slots + 5400 by omega) ?_
  exact next _ _ _ _ (hR.mono (by omega))
theorem law_c34 {p : Program} {l : Launch} {e : Env} {s : State} {m : MethodId} {b : Nat} {below : List Frame} {meth : Method} {c : Code} {D : va_G} {kc : Nat → ClassId} {kd : ClassId} {ad am : Nat → Nat} {o1 o2 L : Nat} {xs : Nat → Int32} (C : LC p l s m b c D kc kd L xs) {Q : State → Prop} {cR : Int} {x mm : SS} (h : R cR x mm) (hc : 0 ≤ cR ∧ cR ≤ 1999990000) {i5 : Int32} {sv : Nat → Int32} (hsv : ∀ k, k < 9 → vp_in (i5 + Int32.ofNat k) L ∧ xs (i5 + Int32.ofNat k).toNatClampNeg = sv k) {cells slots : Nat} (hce : cells + 300 ≤ 603072) (hsl : slots + 5400 ≤ 7182442) (f : Nat → Int64) (g : Nat → UInt64) (next : ∀ (x2 m2 : SS) (f2 : Nat → Int64) (g2 : Nat → UInt64), R (cR + 2000) x2 m2 → LZ p l e s m b below meth c D kc kd ad am o1 o2 Q (cells + 300) (slots + 5400) f2 g2 x2 m2 2168 i5) : LZ p l e s m b below meth c D kc kd ad am o1 o2 Q cells slots f g x mm 1917 i5 := by
  have S := C.S
  have hx := S.1
  have hb := S.2.1
  have hA0 : ∀ z, s.heap.size ≤ z → s.heap.size ≤ z := fun z hz => hz
  obtain ⟨kM, kX, heq, hR⟩ := op_taken h
  refine z_aload_n (j := 1) hx hb dL_law_1917 rfl rfl ?_
  refine zl_callXi (As := []) S C.hK C.hE (ctX10_taken l C.hl D kc ad x kX) (cwV 0 S.2.2.2.2 (gV q2_231 q2_232 q2_233 q1_1 q2_234) rfl rfl rfl hX10_taken ⟨Nat.le_of_ble_eq_true rfl, Nat.le_of_ble_eq_true rfl⟩) hA0 rfl rfl (Nat.le_of_ble_eq_true rfl) dL_law_1918 ⟨show cells + 20 ≤ 603072 by omega, show slots + 200 ≤ 7182442 by omega⟩ ?_
  refine z_aload_n (j := 2) hx hb dL_law_1921 rfl rfl ?_
  refine zl_callMi (As := []) S C.hK (ctX11_taken l D kc am mm kM) (cwV 0 S.2.2.2.2 (gV q8_34 q8_35 q8_36 q1_12 q8_37) rfl rfl rfl hX11_taken ⟨Nat.le_of_ble_eq_true rfl, Nat.le_of_ble_eq_true rfl⟩) hA0 rfl rfl (Nat.le_of_ble_eq_true rfl) dL_law_1922 ⟨show cells + 20 + 0 ≤ 603072 by omega, show slots + 200 + 0 ≤ 7182442 by omega⟩ ?_
  refine z_icmp_eq (tgt := 2168) hx hb dL_law_1925 (by decide) (fun g0 => ?_) (fun g0 => absurd heq g0)
  refine z_widen (show cells + 20 + 0 ≤ cells + 300 by omega) (show slots + 200 + 0 ≤ slots + 5400 by omega) ?_
  exact next _ _ _ _ (hR.mono (by omega))
theorem law_c35 {p : Program} {l : Launch} {e : Env} {s : State} {m : MethodId} {b : Nat} {below : List Frame} {meth : Method} {c : Code} {D : va_G} {kc : Nat → ClassId} {kd : ClassId} {ad am : Nat → Nat} {o1 o2 L : Nat} {xs : Nat → Int32} (C : LC p l s m b c D kc kd L xs) {Q : State → Prop} {cR : Int} {x mm : SS} (h : R cR x mm) (hc : 0 ≤ cR ∧ cR ≤ 1999990000) {i5 : Int32} {sv : Nat → Int32} (hsv : ∀ k, k < 9 → vp_in (i5 + Int32.ofNat k) L ∧ xs (i5 + Int32.ofNat k).toNatClampNeg = sv k) {cells slots : Nat} (hce : cells + 300 ≤ 603072) (hsl : slots + 5400 ≤ 7182442) (f : Nat → Int64) (g : Nat → UInt64) (next : ∀ (x2 m2 : SS) (f2 : Nat → Int64) (g2 : Nat → UInt64), R (cR + 2000) x2 m2 → LZ p l e s m b below meth c D kc kd ad am o1 o2 Q (cells + 300) (slots + 5400) f2 g2 x2 m2 2168 i5) : LZ p l e s m b below meth c D kc kd ad am o1 o2 Q cells slots f g x mm 1930 i5 := by
  have S := C.S
  have hx := S.1
  have hb := S.2.1
  have hA0 : ∀ z, s.heap.size ≤ z → s.heap.size ≤ z := fun z hz => hz
  obtain ⟨kM, kX, heq, hR⟩ := op_found h
  refine z_aload_n (j := 1) hx hb dL_law_1930 rfl rfl ?_
  refine zl_callXi (As := []) S C.hK C.hE (ctX10_found l C.hl D kc ad x kX) (cwV 0 S.2.2.2.2 (gV q2_235 q2_236 q2_237 q1_1 q2_238) rfl rfl rfl hX10_found ⟨Nat.le_of_ble_eq_true rfl, Nat.le_of_ble_eq_true rfl⟩) hA0 rfl rfl (Nat.le_of_ble_eq_true rfl) dL_law_1931 ⟨show cells + 20 ≤ 603072 by omega, show slots + 200 ≤ 7182442 by omega⟩ ?_
  refine z_aload_n (j := 2) hx hb dL_law_1934 rfl rfl ?_
  refine zl_callMi (As := []) S C.hK (ctX11_found l D kc am mm kM) (cwV 0 S.2.2.2.2 (gV q8_38 q8_39 q8_40 q1_12 q8_41) rfl rfl rfl hX11_found ⟨Nat.le_of_ble_eq_true rfl, Nat.le_of_ble_eq_true rfl⟩) hA0 rfl rfl (Nat.le_of_ble_eq_true rfl) dL_law_1935 ⟨show cells + 20 + 0 ≤ 603072 by omega, show slots + 200 + 0 ≤ 7182442 by omega⟩ ?_
  refine z_icmp_eq (tgt := 2168) hx hb dL_law_1938 (by decide) (fun g0 => ?_) (fun g0 => absurd heq g0)
  refine z_widen (show cells + 20 + 0 ≤ cells + 300 by omega) (show slots + 200 + 0 ≤ slots + 5400 by omega) ?_
  exact next _ _ _ _ (hR.mono (by omega))
theorem law_c36 {p : Program} {l : Launch} {e : Env} {s : State} {m : MethodId} {b : Nat} {below : List Frame} {meth : Method} {c : Code} {D : va_G} {kc : Nat → ClassId} {kd : ClassId} {ad am : Nat → Nat} {o1 o2 L : Nat} {xs : Nat → Int32} (C : LC p l s m b c D kc kd L xs) {Q : State → Prop} {cR : Int} {x mm : SS} (h : R cR x mm) (hc : 0 ≤ cR ∧ cR ≤ 1999990000) {i5 : Int32} {sv : Nat → Int32} (hsv : ∀ k, k < 9 → vp_in (i5 + Int32.ofNat k) L ∧ xs (i5 + Int32.ofNat k).toNatClampNeg = sv k) {cells slots : Nat} (hce : cells + 300 ≤ 603072) (hsl : slots + 5400 ≤ 7182442) (f : Nat → Int64) (g : Nat → UInt64) (next : ∀ (x2 m2 : SS) (f2 : Nat → Int64) (g2 : Nat → UInt64), R (cR + 2000) x2 m2 → LZ p l e s m b below meth c D kc kd ad am o1 o2 Q (cells + 300) (slots + 5400) f2 g2 x2 m2 2168 i5) : LZ p l e s m b below meth c D kc kd ad am o1 o2 Q cells slots f g x mm 1943 i5 := by
  have S := C.S
  have hx := S.1
  have hb := S.2.1
  have hA0 : ∀ z, s.heap.size ≤ z → s.heap.size ≤ z := fun z hz => hz
  obtain ⟨kM, kX, heq, hR⟩ := op_cycles h
  refine z_aload_n (j := 1) hx hb dL_law_1943 rfl rfl ?_
  refine zl_callXl (As := []) S C.hK C.hE (ctX10_cycles l C.hl D kc ad x kX) (cwV 0 S.2.2.2.2 (gV q2_239 q3_0 q3_1 q1_1 q3_2) rfl rfl rfl hX10_cycles ⟨Nat.le_of_ble_eq_true rfl, Nat.le_of_ble_eq_true rfl⟩) hA0 rfl rfl (Nat.le_of_ble_eq_true rfl) dL_law_1944 ⟨show cells + 20 ≤ 603072 by omega, show slots + 200 ≤ 7182442 by omega⟩ ?_
  refine z_aload_n (j := 2) hx hb dL_law_1947 rfl rfl ?_
  refine zl_callMl (As := []) S C.hK (ctX11_cycles l D kc am mm kM) (cwV 0 S.2.2.2.2 (gV q8_42 q8_43 q8_44 q1_12 q8_45) rfl rfl rfl hX11_cycles ⟨Nat.le_of_ble_eq_true rfl, Nat.le_of_ble_eq_true rfl⟩) hA0 rfl rfl (Nat.le_of_ble_eq_true rfl) dL_law_1948 ⟨show cells + 20 + 0 ≤ 603072 by omega, show slots + 200 + 0 ≤ 7182442 by omega⟩ ?_
  refine z_lcmp hx hb dL_law_1951 ?_
  refine z_if_eq (tgt := 2168) hx hb dL_law_1952 (by decide) (fun g2 => ?_) (fun g2 => absurd (by rw [heq]; exact lg_self _) g2)
  refine z_widen (show cells + 20 + 0 ≤ cells + 300 by omega) (show slots + 200 + 0 ≤ slots + 5400 by omega) ?_
  exact next _ _ _ _ (hR.mono (by omega))
theorem law_c37 {p : Program} {l : Launch} {e : Env} {s : State} {m : MethodId} {b : Nat} {below : List Frame} {meth : Method} {c : Code} {D : va_G} {kc : Nat → ClassId} {kd : ClassId} {ad am : Nat → Nat} {o1 o2 L : Nat} {xs : Nat → Int32} (C : LC p l s m b c D kc kd L xs) {Q : State → Prop} {cR : Int} {x mm : SS} (h : R cR x mm) (hc : 0 ≤ cR ∧ cR ≤ 1999990000) {i5 : Int32} {sv : Nat → Int32} (hsv : ∀ k, k < 9 → vp_in (i5 + Int32.ofNat k) L ∧ xs (i5 + Int32.ofNat k).toNatClampNeg = sv k) {cells slots : Nat} (hce : cells + 300 ≤ 603072) (hsl : slots + 5400 ≤ 7182442) (f : Nat → Int64) (g : Nat → UInt64) (next : ∀ (x2 m2 : SS) (f2 : Nat → Int64) (g2 : Nat → UInt64), R (cR + 2000) x2 m2 → LZ p l e s m b below meth c D kc kd ad am o1 o2 Q (cells + 300) (slots + 5400) f2 g2 x2 m2 2168 i5) : LZ p l e s m b below meth c D kc kd ad am o1 o2 Q cells slots f g x mm 1957 i5 := by
  have S := C.S
  have hx := S.1
  have hb := S.2.1
  have hA0 : ∀ z, s.heap.size ≤ z → s.heap.size ≤ z := fun z hz => hz
  obtain ⟨kM, kX, hok⟩ := op_cyclesOf h (sv 1) (sv 2)
  refine z_aload_n (j := 1) hx hb dL_law_1957 rfl rfl ?_
  refine zl_argI (k := 1) (j0 := 0) (j5 := 5) S C.hX C.hbl C.hbA (by decide) rfl rfl (hsv 1 (by decide)).1 (hsv 1 (by decide)).2 dL_law_1958 dL_law_1959 dL_law_1961 dL_law_1962 dL_law_1963 ?_
  refine zl_argI (k := 2) (j0 := 0) (j5 := 5) S C.hX C.hbl C.hbA (by decide) rfl rfl (hsv 2 (by decide)).1 (hsv 2 (by decide)).2 dL_law_1964 dL_law_1965 dL_law_1967 dL_law_1968 dL_law_1969 ?_
  refine z_aload_n (j := 3) hx hb dL_law_1970 rfl rfl ?_
  refine zl_callW1 (As := [.ref (ad 0), .int (sv 1), .int (sv 2), .ref o1]) S C.hK C.hKd C.hE (ctL_cyclesOf l C.hl D kc kd ad o1 x f (sv 1) (sv 2) (gI (fX11_cyclesOf mm (sv 1) (sv 2)).2 0) kX (okG_l (okL_G hok))) (vx_cwSW 4 S.2.2.2.2 (gSW q6_52 q6_53 q1_0 q6_54) rfl rfl rfl hL_cyclesOf ⟨Nat.le_of_ble_eq_true rfl, Nat.le_of_ble_eq_true rfl⟩) hA0 rfl rfl (Nat.le_of_ble_eq_true rfl) dL_law_1971 ⟨show cells + 20 ≤ 603072 by omega, show slots + 200 ≤ 7182442 by omega⟩ (fun r u hu => ?_)
  obtain ⟨x1, e1⟩ := u
  obtain ⟨f1, he, hr1, hR, hv⟩ := ok_use1 (fun a : Int64 => a) (okL_G hok) hu (tb5 (by decide))
  have he : e1 = _ := he
  subst he
  refine z_istore (lv' := [(6, .int r), (0, .ref b), (1, .ref (ad 0)), (2, .ref (am 0)), (3, .ref o1), (4, .ref o2), (5, .int i5)]) hx hb dL_law_1974 (by decide) rfl ?_
  refine z_aload_n (j := 3) hx hb dL_law_1976 rfl rfl ?_
  refine zl_argI (k := 1) (j0 := 1) (j5 := 6) S C.hX C.hbl C.hbA (by decide) rfl rfl (hsv 1 (by decide)).1 (hsv 1 (by decide)).2 dL_law_1977 dL_law_1978 dL_law_1980 dL_law_1981 dL_law_1982 ?_
  refine zl_argI (k := 2) (j0 := 1) (j5 := 6) S C.hX C.hbl C.hbA (by decide) rfl rfl (hsv 2 (by decide)).1 (hsv 2 (by decide)).2 dL_law_1983 dL_law_1984 dL_law_1986 dL_law_1987 dL_law_1988 ?_
  refine zl_callMl (As := [.int (sv 1), .int (sv 2)]) S C.hK (ctX11_cyclesOf l D kc am mm (sv 1) (sv 2) kM) (cwV 2 S.2.2.2.2 (gV q8_46 q8_47 q8_48 q1_12 q8_49) rfl rfl rfl hX11_cyclesOf ⟨Nat.le_of_ble_eq_true rfl, Nat.le_of_ble_eq_true rfl⟩) hA0 rfl rfl (Nat.le_of_ble_eq_true rfl) dL_law_1989 ⟨show cells + 20 + 0 ≤ 603072 by omega, show slots + 200 + 0 ≤ 7182442 by omega⟩ ?_
  refine z_lstore (lv' := [(7, .long (fX11_cyclesOf mm (sv 1) (sv 2)).1), (6, .int r), (0, .ref b), (1, .ref (ad 0)), (2, .ref (am 0)), (3, .ref o1), (4, .ref o2), (5, .int i5)]) hx hb dL_law_1992 (by decide) rfl ?_
  refine z_aload_n (j := 4) hx hb dL_law_1994 rfl rfl ?_
  refine zl_callMi (F := (gI (fX11_cyclesOf mm (sv 1) (sv 2)).2 0, (fX11_cyclesOf mm (sv 1) (sv 2)).2)) (As := []) S C.hK (ctX11_thrown l D kc am (fX11_cyclesOf mm (sv 1) (sv 2)).2 trivial) (cwV 0 S.2.2.2.2 (gV q7_9 q7_10 q7_11 q1_12 q7_12) rfl rfl rfl hX11_thrown ⟨Nat.le_of_ble_eq_true rfl, Nat.le_of_ble_eq_true rfl⟩) hA0 rfl rfl (Nat.le_of_ble_eq_true rfl) dL_law_1995 ⟨show cells + 20 + 0 + 0 ≤ 603072 by omega, show slots + 200 + 0 + 0 ≤ 7182442 by omega⟩ ?_
  refine z_iload (j := 1) hx hb dL_law_1998 rfl ?_
  refine z_icmp_eq (tgt := 2005) hx hb dL_law_2000 (by decide) (fun g0 => ?_) (fun g0 => absurd hr1.symm g0)
  refine z_iload (j := 1) hx hb dL_law_2005 rfl ?_
  refine z_if_ne (tgt := 2021) hx hb dL_law_2007 (by decide) (fun g1 => ?_) (fun g1 => ?_)
  · refine z_goto (tgt := 2168) hx hb dL_law_2021 (by decide) ?_
    refine z_widen (show cells + 20 + 0 + 0 ≤ cells + 300 by omega) (show slots + 200 + 0 + 0 ≤ slots + 5400 by omega) ?_
    refine z_sub [2, 3, 4, 5, 6, 7] rfl ?_
    exact next _ _ _ _ (hR.mono (by omega))
  have hv := hv g1
  refine z_aload_n (j := 5) hx hb dL_law_2010 rfl rfl ?_
  refine z_iconst (v := 0) hx hb dL_law_2011 (by decide) ?_
  refine zl_lald S C.hK dL_law_2012 ?_
  refine z_lload (j := 0) hx hb dL_law_2013 rfl ?_
  refine z_lcmp hx hb dL_law_2015 ?_
  refine z_if_eq (tgt := 2021) hx hb dL_law_2016 (by decide) (fun g2 => ?_) (fun g2 => absurd (by rw [hv]; exact lg_self _) g2)
  refine z_goto (tgt := 2168) hx hb dL_law_2021 (by decide) ?_
  refine z_widen (show cells + 20 + 0 + 0 ≤ cells + 300 by omega) (show slots + 200 + 0 + 0 ≤ slots + 5400 by omega) ?_
  refine z_sub [2, 3, 4, 5, 6, 7] rfl ?_
  exact next _ _ _ _ (hR.mono (by omega))
theorem law_c38 {p : Program} {l : Launch} {e : Env} {s : State} {m : MethodId} {b : Nat} {below : List Frame} {meth : Method} {c : Code} {D : va_G} {kc : Nat → ClassId} {kd : ClassId} {ad am : Nat → Nat} {o1 o2 L : Nat} {xs : Nat → Int32} (C : LC p l s m b c D kc kd L xs) {Q : State → Prop} {cR : Int} {x mm : SS} (h : R cR x mm) (hc : 0 ≤ cR ∧ cR ≤ 1999990000) {i5 : Int32} {sv : Nat → Int32} (hsv : ∀ k, k < 9 → vp_in (i5 + Int32.ofNat k) L ∧ xs (i5 + Int32.ofNat k).toNatClampNeg = sv k) {cells slots : Nat} (hce : cells + 300 ≤ 603072) (hsl : slots + 5400 ≤ 7182442) (f : Nat → Int64) (g : Nat → UInt64) (next : ∀ (x2 m2 : SS) (f2 : Nat → Int64) (g2 : Nat → UInt64), R (cR + 2000) x2 m2 → LZ p l e s m b below meth c D kc kd ad am o1 o2 Q (cells + 300) (slots + 5400) f2 g2 x2 m2 2168 i5) : LZ p l e s m b below meth c D kc kd ad am o1 o2 Q cells slots f g x mm 2024 i5 := by
  have S := C.S
  have hx := S.1
  have hb := S.2.1
  have hA0 : ∀ z, s.heap.size ≤ z → s.heap.size ≤ z := fun z hz => hz
  obtain ⟨kM, kX, hok⟩ := op_usedShare h
  refine z_aload_n (j := 1) hx hb dL_law_2024 rfl rfl ?_
  refine z_aload (j := 4) hx hb dL_law_2025 rfl ?_
  refine zl_callW2 (As := [.ref (ad 0), .ref o2]) S C.hK C.hKd C.hE (ctL_usedShare l C.hl D kc kd ad o2 x g (gI (fX11_usedShare mm).2 0) kX (fun v u hv => n64_of (f2d_not (us_fin hv))) (okG_l (hok))) (vx_cwSW 2 S.2.2.2.2 (gSW q6_59 q6_60 q1_0 q6_61) rfl rfl rfl hL_usedShare ⟨Nat.le_of_ble_eq_true rfl, Nat.le_of_ble_eq_true rfl⟩) hA0 rfl rfl (Nat.le_of_ble_eq_true rfl) dL_law_2027 ⟨show cells + 20 ≤ 603072 by omega, show slots + 200 ≤ 7182442 by omega⟩ (fun r u hu => ?_)
  obtain ⟨x1, e1⟩ := u
  obtain ⟨f1, he, hr1, hR, hv⟩ := ok_use2 (fun a : UInt32 => FP.f2d a) (hok) hu (tb5 (by decide))
  have he : e1 = _ := he
  subst he
  refine z_istore (lv' := [(6, .int r), (0, .ref b), (1, .ref (ad 0)), (2, .ref (am 0)), (3, .ref o1), (4, .ref o2), (5, .int i5)]) hx hb dL_law_2030 (by decide) rfl ?_
  refine z_aload_n (j := 3) hx hb dL_law_2032 rfl rfl ?_
  refine zl_callMf (As := []) S C.hK (ctX11_usedShare l D kc am mm kM) (cwV 0 S.2.2.2.2 (gV q8_50 q8_51 q8_52 q1_12 q8_53) rfl rfl rfl hX11_usedShare ⟨Nat.le_of_ble_eq_true rfl, Nat.le_of_ble_eq_true rfl⟩) hA0 rfl rfl (Nat.le_of_ble_eq_true rfl) dL_law_2033 ⟨show cells + 20 + 0 ≤ 603072 by omega, show slots + 200 + 0 ≤ 7182442 by omega⟩ ?_
  refine z_fstore (lv' := [(7, .float (fX11_usedShare mm).1), (6, .int r), (0, .ref b), (1, .ref (ad 0)), (2, .ref (am 0)), (3, .ref o1), (4, .ref o2), (5, .int i5)]) hx hb dL_law_2036 (by decide) rfl ?_
  refine z_aload_n (j := 4) hx hb dL_law_2038 rfl rfl ?_
  refine zl_callMi (F := (gI (fX11_usedShare mm).2 0, (fX11_usedShare mm).2)) (As := []) S C.hK (ctX11_thrown l D kc am (fX11_usedShare mm).2 trivial) (cwV 0 S.2.2.2.2 (gV q7_9 q7_10 q7_11 q1_12 q7_12) rfl rfl rfl hX11_thrown ⟨Nat.le_of_ble_eq_true rfl, Nat.le_of_ble_eq_true rfl⟩) hA0 rfl rfl (Nat.le_of_ble_eq_true rfl) dL_law_2039 ⟨show cells + 20 + 0 + 0 ≤ 603072 by omega, show slots + 200 + 0 + 0 ≤ 7182442 by omega⟩ ?_
  refine z_iload (j := 1) hx hb dL_law_2042 rfl ?_
  refine z_icmp_eq (tgt := 2049) hx hb dL_law_2044 (by decide) (fun g0 => ?_) (fun g0 => absurd hr1.symm g0)
  refine z_iload (j := 1) hx hb dL_law_2049 rfl ?_
  refine z_if_ne (tgt := 2087) hx hb dL_law_2051 (by decide) (fun g1 => ?_) (fun g1 => ?_)
  · refine z_goto (tgt := 2168) hx hb dL_law_2087 (by decide) ?_
    refine z_widen (show cells + 20 + 0 + 0 ≤ cells + 300 by omega) (show slots + 200 + 0 + 0 ≤ slots + 5400 by omega) ?_
    refine z_sub [2, 3, 4, 5, 6, 7] rfl ?_
    exact next _ _ _ _ (hR.mono (by omega))
  obtain ⟨hv, x3, hF3⟩ := hv g1
  have hnan := us_fin hF3
  refine z_aload (j := 6) hx hb dL_law_2054 rfl ?_
  refine z_iconst (v := 0) hx hb dL_law_2056 (by decide) ?_
  refine zl_dald S C.hKd dL_law_2057 ?_
  refine z_fload (j := 0) hx hb dL_law_2058 rfl ?_
  refine z_f2d hx hb dL_law_2060 (n64_of (f2d_not hnan)) ?_
  refine z_dcmp hx hb dL_law_2061 ?_
  refine z_if_eq (tgt := 2087) hx hb dL_law_2062 (by decide) (fun g2 => ?_) (fun g2 => absurd (by rw [hv]; exact dc_self (f2d_not hnan) _) g2)
  refine z_goto (tgt := 2168) hx hb dL_law_2087 (by decide) ?_
  refine z_widen (show cells + 20 + 0 + 0 ≤ cells + 300 by omega) (show slots + 200 + 0 + 0 ≤ slots + 5400 by omega) ?_
  refine z_sub [2, 3, 4, 5, 6, 7] rfl ?_
  exact next _ _ _ _ (hR.mono (by omega))
theorem law_c39 {p : Program} {l : Launch} {e : Env} {s : State} {m : MethodId} {b : Nat} {below : List Frame} {meth : Method} {c : Code} {D : va_G} {kc : Nat → ClassId} {kd : ClassId} {ad am : Nat → Nat} {o1 o2 L : Nat} {xs : Nat → Int32} (C : LC p l s m b c D kc kd L xs) {Q : State → Prop} {cR : Int} {x mm : SS} (h : R cR x mm) (hc : 0 ≤ cR ∧ cR ≤ 1999990000) {i5 : Int32} {sv : Nat → Int32} (hsv : ∀ k, k < 9 → vp_in (i5 + Int32.ofNat k) L ∧ xs (i5 + Int32.ofNat k).toNatClampNeg = sv k) {cells slots : Nat} (hce : cells + 300 ≤ 603072) (hsl : slots + 5400 ≤ 7182442) (f : Nat → Int64) (g : Nat → UInt64) (next : ∀ (x2 m2 : SS) (f2 : Nat → Int64) (g2 : Nat → UInt64), R (cR + 2000) x2 m2 → LZ p l e s m b below meth c D kc kd ad am o1 o2 Q (cells + 300) (slots + 5400) f2 g2 x2 m2 2168 i5) : LZ p l e s m b below meth c D kc kd ad am o1 o2 Q cells slots f g x mm 2090 i5 := by
  have S := C.S
  have hx := S.1
  have hb := S.2.1
  have hA0 : ∀ z, s.heap.size ≤ z → s.heap.size ≤ z := fun z hz => hz
  obtain ⟨kM, kX, hok⟩ := op_meanCycles h
  refine z_aload_n (j := 1) hx hb dL_law_2090 rfl rfl ?_
  refine z_aload (j := 4) hx hb dL_law_2091 rfl ?_
  refine zl_callW2 (As := [.ref (ad 0), .ref o2]) S C.hK C.hKd C.hE (ctL_meanCycles l C.hl D kc kd ad o2 x g (gI (fX11_meanCycles mm).2 0) kX (okG_l (hok))) (vx_cwSW 2 S.2.2.2.2 (gSW q6_83 q6_84 q1_0 q6_85) rfl rfl rfl hL_meanCycles ⟨Nat.le_of_ble_eq_true rfl, Nat.le_of_ble_eq_true rfl⟩) hA0 rfl rfl (Nat.le_of_ble_eq_true rfl) dL_law_2093 ⟨show cells + 20 ≤ 603072 by omega, show slots + 200 ≤ 7182442 by omega⟩ (fun r u hu => ?_)
  obtain ⟨x1, e1⟩ := u
  obtain ⟨f1, he, hr1, hR, hv⟩ := ok_use2 (fun a : UInt64 => a) (hok) hu (tb5 (by decide))
  have he : e1 = _ := he
  subst he
  refine z_istore (lv' := [(6, .int r), (0, .ref b), (1, .ref (ad 0)), (2, .ref (am 0)), (3, .ref o1), (4, .ref o2), (5, .int i5)]) hx hb dL_law_2096 (by decide) rfl ?_
  refine z_aload_n (j := 3) hx hb dL_law_2098 rfl rfl ?_
  refine zl_callMd (As := []) S C.hK (ctX11_meanCycles l D kc am mm kM) (cwV 0 S.2.2.2.2 (gV q8_54 q8_55 q8_56 q1_12 q8_57) rfl rfl rfl hX11_meanCycles ⟨Nat.le_of_ble_eq_true rfl, Nat.le_of_ble_eq_true rfl⟩) hA0 rfl rfl (Nat.le_of_ble_eq_true rfl) dL_law_2099 ⟨show cells + 20 + 0 ≤ 603072 by omega, show slots + 200 + 0 ≤ 7182442 by omega⟩ ?_
  refine z_dstore (lv' := [(7, .double (fX11_meanCycles mm).1), (6, .int r), (0, .ref b), (1, .ref (ad 0)), (2, .ref (am 0)), (3, .ref o1), (4, .ref o2), (5, .int i5)]) hx hb dL_law_2102 (by decide) rfl ?_
  refine z_aload_n (j := 4) hx hb dL_law_2104 rfl rfl ?_
  refine zl_callMi (F := (gI (fX11_meanCycles mm).2 0, (fX11_meanCycles mm).2)) (As := []) S C.hK (ctX11_thrown l D kc am (fX11_meanCycles mm).2 trivial) (cwV 0 S.2.2.2.2 (gV q7_9 q7_10 q7_11 q1_12 q7_12) rfl rfl rfl hX11_thrown ⟨Nat.le_of_ble_eq_true rfl, Nat.le_of_ble_eq_true rfl⟩) hA0 rfl rfl (Nat.le_of_ble_eq_true rfl) dL_law_2105 ⟨show cells + 20 + 0 + 0 ≤ 603072 by omega, show slots + 200 + 0 + 0 ≤ 7182442 by omega⟩ ?_
  refine z_iload (j := 1) hx hb dL_law_2108 rfl ?_
  refine z_icmp_eq (tgt := 2115) hx hb dL_law_2110 (by decide) (fun g0 => ?_) (fun g0 => absurd hr1.symm g0)
  refine z_iload (j := 1) hx hb dL_law_2115 rfl ?_
  refine z_if_ne (tgt := 2152) hx hb dL_law_2117 (by decide) (fun g1 => ?_) (fun g1 => ?_)
  · refine z_goto (tgt := 2168) hx hb dL_law_2152 (by decide) ?_
    refine z_widen (show cells + 20 + 0 + 0 ≤ cells + 300 by omega) (show slots + 200 + 0 + 0 ≤ slots + 5400 by omega) ?_
    refine z_sub [2, 3, 4, 5, 6, 7] rfl ?_
    exact next _ _ _ _ (hR.mono (by omega))
  obtain ⟨hv, x3, hF3⟩ := hv g1
  have hnan := mc_fin hF3
  refine z_aload (j := 6) hx hb dL_law_2120 rfl ?_
  refine z_iconst (v := 0) hx hb dL_law_2122 (by decide) ?_
  refine zl_dald S C.hKd dL_law_2123 ?_
  refine z_dload (j := 0) hx hb dL_law_2124 rfl ?_
  refine z_dcmp hx hb dL_law_2126 ?_
  refine z_if_eq (tgt := 2152) hx hb dL_law_2127 (by decide) (fun g2 => ?_) (fun g2 => absurd (by rw [hv]; exact dc_self hnan _) g2)
  refine z_goto (tgt := 2168) hx hb dL_law_2152 (by decide) ?_
  refine z_widen (show cells + 20 + 0 + 0 ≤ cells + 300 by omega) (show slots + 200 + 0 + 0 ≤ slots + 5400 by omega) ?_
  refine z_sub [2, 3, 4, 5, 6, 7] rfl ?_
  exact next _ _ _ _ (hR.mono (by omega))
theorem law_c40 {p : Program} {l : Launch} {e : Env} {s : State} {m : MethodId} {b : Nat} {below : List Frame} {meth : Method} {c : Code} {D : va_G} {kc : Nat → ClassId} {kd : ClassId} {ad am : Nat → Nat} {o1 o2 L : Nat} {xs : Nat → Int32} (C : LC p l s m b c D kc kd L xs) {Q : State → Prop} {cR : Int} {x mm : SS} (h : R cR x mm) (hc : 0 ≤ cR ∧ cR ≤ 1999990000) {i5 : Int32} {sv : Nat → Int32} (hsv : ∀ k, k < 9 → vp_in (i5 + Int32.ofNat k) L ∧ xs (i5 + Int32.ofNat k).toNatClampNeg = sv k) {cells slots : Nat} (hce : cells + 300 ≤ 603072) (hsl : slots + 5400 ≤ 7182442) (f : Nat → Int64) (g : Nat → UInt64) (next : ∀ (x2 m2 : SS) (f2 : Nat → Int64) (g2 : Nat → UInt64), R (cR + 2000) x2 m2 → LZ p l e s m b below meth c D kc kd ad am o1 o2 Q (cells + 300) (slots + 5400) f2 g2 x2 m2 2168 i5) : LZ p l e s m b below meth c D kc kd ad am o1 o2 Q cells slots f g x mm 2155 i5 := by
  have S := C.S
  have hx := S.1
  have hb := S.2.1
  have hA0 : ∀ z, s.heap.size ≤ z → s.heap.size ≤ z := fun z hz => hz
  obtain ⟨kM, kX, heq, hR⟩ := op_isSound h
  refine z_aload_n (j := 1) hx hb dL_law_2155 rfl rfl ?_
  refine zl_callXi (As := []) S C.hK C.hE (ctX10_isSound l C.hl D kc ad x kX) (cwV 0 S.2.2.2.2 (gV q3_3 q3_4 q3_5 q1_1 q3_6) rfl rfl rfl hX10_isSound ⟨Nat.le_of_ble_eq_true rfl, Nat.le_of_ble_eq_true rfl⟩) hA0 rfl rfl (Nat.le_of_ble_eq_true rfl) dL_law_2156 ⟨show cells + 20 ≤ 603072 by omega, show slots + 200 ≤ 7182442 by omega⟩ ?_
  refine z_aload_n (j := 2) hx hb dL_law_2159 rfl rfl ?_
  refine zl_callMi (As := []) S C.hK (ctX11_isSound l D kc am mm kM) (cwV 0 S.2.2.2.2 (gV q8_58 q8_59 q8_60 q1_12 q8_61) rfl rfl rfl hX11_isSound ⟨Nat.le_of_ble_eq_true rfl, Nat.le_of_ble_eq_true rfl⟩) hA0 rfl rfl (Nat.le_of_ble_eq_true rfl) dL_law_2160 ⟨show cells + 20 + 0 ≤ 603072 by omega, show slots + 200 + 0 ≤ 7182442 by omega⟩ ?_
  refine z_icmp_eq (tgt := 2168) hx hb dL_law_2163 (by decide) (fun g0 => ?_) (fun g0 => absurd heq g0)
  refine z_widen (show cells + 20 + 0 ≤ cells + 300 by omega) (show slots + 200 + 0 ≤ slots + 5400 by omega) ?_
  exact next _ _ _ _ (hR.mono (by omega))
