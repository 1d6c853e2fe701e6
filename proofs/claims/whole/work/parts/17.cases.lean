abbrev gl_ls (sb h : Nat) (i : Int32) : List (Option Value) := [some (.ref sb), some (.ref h), some (.ref (h + 63)), some (.int i)]
section GC
variable {p : Program} {l : Launch} {e : Env} {s : State} {m : MethodId} {below : List Frame} {meth : Method} {c : Code} {sb L : Nat} {xs : Nat → Int32} {H : Heap} {cells slots k : Nat} {D : va_G} {cA : Nat → ClassId} {i : Int32} {μX μM : g_M}
/-- where a case goes on -/
def gl_K2 (p : Program) (l : Launch) (e : Env) (s : State) (m : MethodId) (below : List Frame) (meth : Method) (c : Code) (sb : Nat) (D : va_G) (cA : Nat → ClassId) (i : Int32) (cells slots : Nat) : Prop := ∀ (k2 : Nat) (H2 : Heap) (μX2 μM2 : g_M) (c2 s2 : Nat), gl_I D cA s k2 μX2 μM2 H2 → c2 ≤ cells + 5 → s2 ≤ slots + 630 → gl_W p l e s m below meth c sb H2 c2 s2 1668 (gl_ls sb s.heap.size i) []
def gl_in (i : Int32) (L : Nat) : Prop := vp_in i L ∧ vp_in (i + 1) L ∧ vp_in (i + 2) L ∧ vp_in (i + 3) L ∧ vp_in (i + 4) L
theorem gl_case_oven (C0 : lw_At p s m meth c sb L xs) (hF0 : gl_F D cA s) (hI : gl_I D cA s k μX μM H) (hb : cells + 5 ≤ 600000 ∧ slots + 630 ≤ 7302250) (hi : gl_in i L) (hkk : gl_K2 p l e s m below meth c sb D cA i cells slots) : gl_W p l e s m below meth c sb H cells slots 248 (gl_ls sb s.heap.size i) [] := by
  obtain ⟨dyn, t, Lt, u, Lu, hS, hk5, hRel, hRt, hRu, ht, hu⟩ := hI
  obtain ⟨v, μX1, μM1, q1, q2, hRel1⟩ := pp_c_oven (N := 1000) (a1 := xs (i + 1).toNatClampNeg) (a2 := xs (i + 2).toNatClampNeg) (a3 := xs (i + 3).toNatClampNeg) (a4 := xs (i + 4).toNatClampNeg) (Nat.le_refl _) hRel
  refine gl_aload C0 dL_248 rfl ?_
  refine gl_aload C0 dL_249 rfl ?_
  refine gl_iload C0 dL_250 rfl ?_
  refine gl_ic1 C0 dL_251 ?_
  refine gl_iadd C0 dL_252 ?_
  refine gl_sld C0 hS.2.2.2 hi.2.1 dL_253 ?_
  refine gl_aload C0 dL_254 rfl ?_
  refine gl_iload C0 dL_255 rfl ?_
  refine gl_ic2 C0 dL_256 ?_
  refine gl_iadd C0 dL_257 ?_
  refine gl_sld C0 hS.2.2.2 hi.2.2.1 dL_258 ?_
  refine gl_aload C0 dL_259 rfl ?_
  refine gl_iload C0 dL_260 rfl ?_
  refine gl_ic3 C0 dL_261 ?_
  refine gl_iadd C0 dL_262 ?_
  refine gl_sld C0 hS.2.2.2 hi.2.2.2.1 dL_263 ?_
  refine gl_aload C0 dL_264 rfl ?_
  refine gl_iload C0 dL_265 rfl ?_
  refine gl_ic4 C0 dL_266 ?_
  refine gl_iadd C0 dL_267 ?_
  refine gl_sld C0 hS.2.2.2 hi.2.2.2.2 dL_268 ?_
  refine gl_callX C0 hF0 hS mt_X11_oven ml_L_13 mv_X11_oven dL_269 (k_X11_oven hRt q1) rfl rfl (by decide) ⟨by omega, by omega⟩ (Nat.le_of_ble_eq_true rfl) (fun H1 hS1 => ?_)
  refine gl_aload C0 dL_272 rfl ?_
  refine gl_aload C0 dL_273 rfl ?_
  refine gl_iload C0 dL_274 rfl ?_
  refine gl_ic1 C0 dL_275 ?_
  refine gl_iadd C0 dL_276 ?_
  refine gl_sld C0 hS1.2.2.2 hi.2.1 dL_277 ?_
  refine gl_aload C0 dL_278 rfl ?_
  refine gl_iload C0 dL_279 rfl ?_
  refine gl_ic2 C0 dL_280 ?_
  refine gl_iadd C0 dL_281 ?_
  refine gl_sld C0 hS1.2.2.2 hi.2.2.1 dL_282 ?_
  refine gl_aload C0 dL_283 rfl ?_
  refine gl_iload C0 dL_284 rfl ?_
  refine gl_ic3 C0 dL_285 ?_
  refine gl_iadd C0 dL_286 ?_
  refine gl_sld C0 hS1.2.2.2 hi.2.2.2.1 dL_287 ?_
  refine gl_aload C0 dL_288 rfl ?_
  refine gl_iload C0 dL_289 rfl ?_
  refine gl_ic4 C0 dL_290 ?_
  refine gl_iadd C0 dL_291 ?_
  refine gl_sld C0 hS1.2.2.2 hi.2.2.2.2 dL_292 ?_
  refine gl_callM C0 hF0 hS1 mt_X12_oven ml_L_17 mv_X12_oven dL_293 (k_X12_oven q2) rfl rfl (by decide) ⟨by omega, by omega⟩ (Nat.le_of_ble_eq_true rfl) (fun H2 hS2 => ?_)
  refine gl_same 1668 C0 (by decide) dL_296 ?_
  exact hkk _ H2 _ _ _ _ ⟨dyn, t, Lt, u, Lu, hS2, hk5, hRel1, hRt, hRu, ht, hu⟩ (by omega) (by omega)
theorem gl_case_ovenOf (C0 : lw_At p s m meth c sb L xs) (hF0 : gl_F D cA s) (hI : gl_I D cA s k μX μM H) (hb : cells + 5 ≤ 600000 ∧ slots + 630 ≤ 7302250) (hi : gl_in i L) (hkk : gl_K2 p l e s m below meth c sb D cA i cells slots) : gl_W p l e s m below meth c sb H cells slots 301 (gl_ls sb s.heap.size i) [] := by
  obtain ⟨dyn, t, Lt, u, Lu, hS, hk5, hRel, hRt, hRu, ht, hu⟩ := hI
  obtain ⟨v, μM1, q1, q2, hRel1⟩ := pp_c_ovenOf (N := 1000) (a := xs (i + 1).toNatClampNeg) (a2 := xs (i + 2).toNatClampNeg) (Nat.le_refl _) hRel
  refine gl_aload C0 dL_301 rfl ?_
  refine gl_aload C0 dL_302 rfl ?_
  refine gl_iload C0 dL_303 rfl ?_
  refine gl_ic1 C0 dL_304 ?_
  refine gl_iadd C0 dL_305 ?_
  refine gl_sld C0 hS.2.2.2 hi.2.1 dL_306 ?_
  refine gl_aload C0 dL_307 rfl ?_
  refine gl_iload C0 dL_308 rfl ?_
  refine gl_ic2 C0 dL_309 ?_
  refine gl_iadd C0 dL_310 ?_
  refine gl_sld C0 hS.2.2.2 hi.2.2.1 dL_311 ?_
  refine gl_callX C0 hF0 hS mt_X11_ovenOf ml_L_18 mv_X11_ovenOf dL_312 (k_X11_ovenOf q1) rfl rfl (by decide) ⟨by omega, by omega⟩ (Nat.le_of_ble_eq_true rfl) (fun H1 hS1 => ?_)
  refine gl_aload C0 dL_315 rfl ?_
  refine gl_aload C0 dL_316 rfl ?_
  refine gl_iload C0 dL_317 rfl ?_
  refine gl_ic1 C0 dL_318 ?_
  refine gl_iadd C0 dL_319 ?_
  refine gl_sld C0 hS1.2.2.2 hi.2.1 dL_320 ?_
  refine gl_aload C0 dL_321 rfl ?_
  refine gl_iload C0 dL_322 rfl ?_
  refine gl_ic2 C0 dL_323 ?_
  refine gl_iadd C0 dL_324 ?_
  refine gl_sld C0 hS1.2.2.2 hi.2.2.1 dL_325 ?_
  refine gl_callM C0 hF0 hS1 mt_X12_ovenOf ml_L_22 mv_X12_ovenOf dL_326 (k_X12_ovenOf q2) rfl rfl (by decide) ⟨by omega, by omega⟩ (Nat.le_of_ble_eq_true rfl) (fun H2 hS2 => ?_)
  refine gl_same 1668 C0 (by decide) dL_329 ?_
  exact hkk _ H2 _ _ _ _ ⟨dyn, t, Lt, u, Lu, hS2, hk5, hRel1, hRt, hRu, ht, hu⟩ (by omega) (by omega)
theorem gl_case_change (C0 : lw_At p s m meth c sb L xs) (hF0 : gl_F D cA s) (hI : gl_I D cA s k μX μM H) (hb : cells + 5 ≤ 600000 ∧ slots + 630 ≤ 7302250) (hi : gl_in i L) (hkk : gl_K2 p l e s m below meth c sb D cA i cells slots) : gl_W p l e s m below meth c sb H cells slots 334 (gl_ls sb s.heap.size i) [] := by
  obtain ⟨dyn, t, Lt, u, Lu, hS, hk5, hRel, hRt, hRu, ht, hu⟩ := hI
  obtain ⟨v, μX1, μM1, q1, q2, hRel1⟩ := pp_c_change (N := 1000) (a := xs (i + 1).toNatClampNeg) (a2 := xs (i + 2).toNatClampNeg) (a3 := xs (i + 3).toNatClampNeg) (Nat.le_refl _) hRel
  refine gl_aload C0 dL_334 rfl ?_
  refine gl_aload C0 dL_335 rfl ?_
  refine gl_iload C0 dL_336 rfl ?_
  refine gl_ic1 C0 dL_337 ?_
  refine gl_iadd C0 dL_338 ?_
  refine gl_sld C0 hS.2.2.2 hi.2.1 dL_339 ?_
  refine gl_aload C0 dL_340 rfl ?_
  refine gl_iload C0 dL_341 rfl ?_
  refine gl_ic2 C0 dL_342 ?_
  refine gl_iadd C0 dL_343 ?_
  refine gl_sld C0 hS.2.2.2 hi.2.2.1 dL_344 ?_
  refine gl_aload C0 dL_345 rfl ?_
  refine gl_iload C0 dL_346 rfl ?_
  refine gl_ic3 C0 dL_347 ?_
  refine gl_iadd C0 dL_348 ?_
  refine gl_sld C0 hS.2.2.2 hi.2.2.2.1 dL_349 ?_
  refine gl_callX C0 hF0 hS mt_X11_change ml_L_23 mv_X11_change dL_350 (k_X11_change hRt q1) rfl rfl (by decide) ⟨by omega, by omega⟩ (Nat.le_of_ble_eq_true rfl) (fun H1 hS1 => ?_)
  refine gl_aload C0 dL_353 rfl ?_
  refine gl_aload C0 dL_354 rfl ?_
  refine gl_iload C0 dL_355 rfl ?_
  refine gl_ic1 C0 dL_356 ?_
  refine gl_iadd C0 dL_357 ?_
  refine gl_sld C0 hS1.2.2.2 hi.2.1 dL_358 ?_
  refine gl_aload C0 dL_359 rfl ?_
  refine gl_iload C0 dL_360 rfl ?_
  refine gl_ic2 C0 dL_361 ?_
  refine gl_iadd C0 dL_362 ?_
  refine gl_sld C0 hS1.2.2.2 hi.2.2.1 dL_363 ?_
  refine gl_aload C0 dL_364 rfl ?_
  refine gl_iload C0 dL_365 rfl ?_
  refine gl_ic3 C0 dL_366 ?_
  refine gl_iadd C0 dL_367 ?_
  refine gl_sld C0 hS1.2.2.2 hi.2.2.2.1 dL_368 ?_
  refine gl_callM C0 hF0 hS1 mt_X12_change ml_L_27 mv_X12_change dL_369 (k_X12_change q2) rfl rfl (by decide) ⟨by omega, by omega⟩ (Nat.le_of_ble_eq_true rfl) (fun H2 hS2 => ?_)
  refine gl_same 1668 C0 (by decide) dL_372 ?_
  exact hkk _ H2 _ _ _ _ ⟨dyn, t, Lt, u, Lu, hS2, hk5, hRel1, hRt, hRu, ht, hu⟩ (by omega) (by omega)
theorem gl_case_remake (C0 : lw_At p s m meth c sb L xs) (hF0 : gl_F D cA s) (hI : gl_I D cA s k μX μM H) (hb : cells + 5 ≤ 600000 ∧ slots + 630 ≤ 7302250) (hi : gl_in i L) (hkk : gl_K2 p l e s m below meth c sb D cA i cells slots) : gl_W p l e s m below meth c sb H cells slots 377 (gl_ls sb s.heap.size i) [] := by
  obtain ⟨dyn, t, Lt, u, Lu, hS, hk5, hRel, hRt, hRu, ht, hu⟩ := hI
  obtain ⟨v, μX1, μM1, q1, q2, hRel1⟩ := pp_c_remake (N := 1000) (a := xs (i + 1).toNatClampNeg) (a2 := xs (i + 2).toNatClampNeg) (Nat.le_refl _) hRel
  refine gl_aload C0 dL_377 rfl ?_
  refine gl_aload C0 dL_378 rfl ?_
  refine gl_iload C0 dL_379 rfl ?_
  refine gl_ic1 C0 dL_380 ?_
  refine gl_iadd C0 dL_381 ?_
  refine gl_sld C0 hS.2.2.2 hi.2.1 dL_382 ?_
  refine gl_aload C0 dL_383 rfl ?_
  refine gl_iload C0 dL_384 rfl ?_
  refine gl_ic2 C0 dL_385 ?_
  refine gl_iadd C0 dL_386 ?_
  refine gl_sld C0 hS.2.2.2 hi.2.2.1 dL_387 ?_
  refine gl_callX C0 hF0 hS mt_X11_remake ml_L_28 mv_X11_remake dL_388 (k_X11_remake hRt q1) rfl rfl (by decide) ⟨by omega, by omega⟩ (Nat.le_of_ble_eq_true rfl) (fun H1 hS1 => ?_)
  refine gl_aload C0 dL_391 rfl ?_
  refine gl_aload C0 dL_392 rfl ?_
  refine gl_iload C0 dL_393 rfl ?_
  refine gl_ic1 C0 dL_394 ?_
  refine gl_iadd C0 dL_395 ?_
  refine gl_sld C0 hS1.2.2.2 hi.2.1 dL_396 ?_
  refine gl_aload C0 dL_397 rfl ?_
  refine gl_iload C0 dL_398 rfl ?_
  refine gl_ic2 C0 dL_399 ?_
  refine gl_iadd C0 dL_400 ?_
  refine gl_sld C0 hS1.2.2.2 hi.2.2.1 dL_401 ?_
  refine gl_callM C0 hF0 hS1 mt_X12_remake ml_L_31 mv_X12_remake dL_402 (k_X12_remake q2) rfl rfl (by decide) ⟨by omega, by omega⟩ (Nat.le_of_ble_eq_true rfl) (fun H2 hS2 => ?_)
  refine gl_same 1668 C0 (by decide) dL_405 ?_
  exact hkk _ H2 _ _ _ _ ⟨dyn, t, Lt, u, Lu, hS2, hk5, hRel1, hRt, hRu, ht, hu⟩ (by omega) (by omega)
theorem gl_case_longing (C0 : lw_At p s m meth c sb L xs) (hF0 : gl_F D cA s) (hI : gl_I D cA s k μX μM H) (hb : cells + 5 ≤ 600000 ∧ slots + 630 ≤ 7302250) (hi : gl_in i L) (hkk : gl_K2 p l e s m below meth c sb D cA i cells slots) : gl_W p l e s m below meth c sb H cells slots 410 (gl_ls sb s.heap.size i) [] := by
  obtain ⟨dyn, t, Lt, u, Lu, hS, hk5, hRel, hRt, hRu, ht, hu⟩ := hI
  obtain ⟨v, q1, q2, hRel1⟩ := pp_c_longing (a := xs (i + 1).toNatClampNeg) (a2 := xs (i + 2).toNatClampNeg) hRel
  refine gl_aload C0 dL_410 rfl ?_
  refine gl_aload C0 dL_411 rfl ?_
  refine gl_iload C0 dL_412 rfl ?_
  refine gl_ic1 C0 dL_413 ?_
  refine gl_iadd C0 dL_414 ?_
  refine gl_sld C0 hS.2.2.2 hi.2.1 dL_415 ?_
  refine gl_aload C0 dL_416 rfl ?_
  refine gl_iload C0 dL_417 rfl ?_
  refine gl_ic2 C0 dL_418 ?_
  refine gl_iadd C0 dL_419 ?_
  refine gl_sld C0 hS.2.2.2 hi.2.2.1 dL_420 ?_
  refine gl_callX C0 hF0 hS mt_X11_longing ml_L_32 mv_X11_longing dL_421 (k_X11_longing q1) rfl rfl (by decide) ⟨by omega, by omega⟩ (Nat.le_of_ble_eq_true rfl) (fun H1 hS1 => ?_)
  refine gl_aload C0 dL_424 rfl ?_
  refine gl_aload C0 dL_425 rfl ?_
  refine gl_iload C0 dL_426 rfl ?_
  refine gl_ic1 C0 dL_427 ?_
  refine gl_iadd C0 dL_428 ?_
  refine gl_sld C0 hS1.2.2.2 hi.2.1 dL_429 ?_
  refine gl_aload C0 dL_430 rfl ?_
  refine gl_iload C0 dL_431 rfl ?_
  refine gl_ic2 C0 dL_432 ?_
  refine gl_iadd C0 dL_433 ?_
  refine gl_sld C0 hS1.2.2.2 hi.2.2.1 dL_434 ?_
  refine gl_callM C0 hF0 hS1 mt_X12_longing ml_L_35 mv_X12_longing dL_435 (k_X12_longing q2) rfl rfl (by decide) ⟨by omega, by omega⟩ (Nat.le_of_ble_eq_true rfl) (fun H2 hS2 => ?_)
  refine gl_same 1668 C0 (by decide) dL_438 ?_
  exact hkk _ H2 _ _ _ _ ⟨dyn, t, Lt, u, Lu, hS2, hk5, hRel1, hRt, hRu, ht, hu⟩ (by omega) (by omega)
theorem gl_case_ends (C0 : lw_At p s m meth c sb L xs) (hF0 : gl_F D cA s) (hI : gl_I D cA s k μX μM H) (hb : cells + 5 ≤ 600000 ∧ slots + 630 ≤ 7302250) (hi : gl_in i L) (hkk : gl_K2 p l e s m below meth c sb D cA i cells slots) : gl_W p l e s m below meth c sb H cells slots 443 (gl_ls sb s.heap.size i) [] := by
  obtain ⟨dyn, t, Lt, u, Lu, hS, hk5, hRel, hRt, hRu, ht, hu⟩ := hI
  obtain ⟨v, μX1, μM1, q1, q2, hRel1⟩ := pp_c_ends (a := xs (i + 1).toNatClampNeg) hRel
  refine gl_aload C0 dL_443 rfl ?_
  refine gl_aload C0 dL_444 rfl ?_
  refine gl_iload C0 dL_445 rfl ?_
  refine gl_ic1 C0 dL_446 ?_
  refine gl_iadd C0 dL_447 ?_
  refine gl_sld C0 hS.2.2.2 hi.2.1 dL_448 ?_
  refine gl_callX C0 hF0 hS mt_X11_ends ml_L_36 mv_X11_ends dL_449 (k_X11_ends q1) rfl rfl (by decide) ⟨by omega, by omega⟩ (Nat.le_of_ble_eq_true rfl) (fun H1 hS1 => ?_)
  refine gl_aload C0 dL_452 rfl ?_
  refine gl_aload C0 dL_453 rfl ?_
  refine gl_iload C0 dL_454 rfl ?_
  refine gl_ic1 C0 dL_455 ?_
  refine gl_iadd C0 dL_456 ?_
  refine gl_sld C0 hS1.2.2.2 hi.2.1 dL_457 ?_
  refine gl_callM C0 hF0 hS1 mt_X12_ends ml_L_40 mv_X12_ends dL_458 (k_X12_ends q2) rfl rfl (by decide) ⟨by omega, by omega⟩ (Nat.le_of_ble_eq_true rfl) (fun H2 hS2 => ?_)
  refine gl_same 1668 C0 (by decide) dL_461 ?_
  exact hkk _ H2 _ _ _ _ ⟨dyn, t, Lt, u, Lu, hS2, hk5, hRel1, hRt, hRu, ht, hu⟩ (by omega) (by omega)
theorem gl_case_anew (C0 : lw_At p s m meth c sb L xs) (hF0 : gl_F D cA s) (hI : gl_I D cA s k μX μM H) (hb : cells + 5 ≤ 600000 ∧ slots + 630 ≤ 7302250) (hi : gl_in i L) (hkk : gl_K2 p l e s m below meth c sb D cA i cells slots) : gl_W p l e s m below meth c sb H cells slots 466 (gl_ls sb s.heap.size i) [] := by
  obtain ⟨dyn, t, Lt, u, Lu, hS, hk5, hRel, hRt, hRu, ht, hu⟩ := hI
  obtain ⟨v, μX1, μM1, q1, q2, hRel1⟩ := pp_c_anew (N := 1000)  (Nat.le_refl _) hRel
  refine gl_aload C0 dL_466 rfl ?_
  refine gl_callX C0 hF0 hS mt_X11_anew ml_L_41 mv_X11_anew dL_467 (k_X11_anew q1) rfl rfl (by decide) ⟨by omega, by omega⟩ (Nat.le_of_ble_eq_true rfl) (fun H1 hS1 => ?_)
  refine gl_aload C0 dL_470 rfl ?_
  refine gl_callM C0 hF0 hS1 mt_X12_anew ml_L_45 mv_X12_anew dL_471 (k_X12_anew q2) rfl rfl (by decide) ⟨by omega, by omega⟩ (Nat.le_of_ble_eq_true rfl) (fun H2 hS2 => ?_)
  refine gl_same 1668 C0 (by decide) dL_474 ?_
  exact hkk _ H2 _ _ _ _ ⟨dyn, t, Lt, u, Lu, hS2, hk5, hRel1, hRt, hRu, ht, hu⟩ (by omega) (by omega)
theorem gl_case_state (C0 : lw_At p s m meth c sb L xs) (hF0 : gl_F D cA s) (hI : gl_I D cA s k μX μM H) (hb : cells + 5 ≤ 600000 ∧ slots + 630 ≤ 7302250) (hi : gl_in i L) (hkk : gl_K2 p l e s m below meth c sb D cA i cells slots) : gl_W p l e s m below meth c sb H cells slots 479 (gl_ls sb s.heap.size i) [] := by
  obtain ⟨dyn, t, Lt, u, Lu, hS, hk5, hRel, hRt, hRu, ht, hu⟩ := hI
  obtain ⟨v, q1, q2, hRel1⟩ := pp_c_state (N := 1000) (a := xs (i + 1).toNatClampNeg) (Nat.le_refl _) hRel
  refine gl_aload C0 dL_479 rfl ?_
  refine gl_aload C0 dL_480 rfl ?_
  refine gl_iload C0 dL_481 rfl ?_
  refine gl_ic1 C0 dL_482 ?_
  refine gl_iadd C0 dL_483 ?_
  refine gl_sld C0 hS.2.2.2 hi.2.1 dL_484 ?_
  refine gl_callX C0 hF0 hS mt_X11_state ml_L_46 mv_X11_state dL_485 (k_X11_state q1) rfl rfl (by decide) ⟨by omega, by omega⟩ (Nat.le_of_ble_eq_true rfl) (fun H1 hS1 => ?_)
  refine gl_aload C0 dL_488 rfl ?_
  refine gl_aload C0 dL_489 rfl ?_
  refine gl_iload C0 dL_490 rfl ?_
  refine gl_ic1 C0 dL_491 ?_
  refine gl_iadd C0 dL_492 ?_
  refine gl_sld C0 hS1.2.2.2 hi.2.1 dL_493 ?_
  refine gl_callM C0 hF0 hS1 mt_X12_state ml_L_49 mv_X12_state dL_494 (k_X12_state q2) rfl rfl (by decide) ⟨by omega, by omega⟩ (Nat.le_of_ble_eq_true rfl) (fun H2 hS2 => ?_)
  refine gl_same 1668 C0 (by decide) dL_497 ?_
  exact hkk _ H2 _ _ _ _ ⟨dyn, t, Lt, u, Lu, hS2, hk5, hRel1, hRt, hRu, ht, hu⟩ (by omega) (by omega)
theorem gl_case_feed (C0 : lw_At p s m meth c sb L xs) (hF0 : gl_F D cA s) (hI : gl_I D cA s k μX μM H) (hb : cells + 5 ≤ 600000 ∧ slots + 630 ≤ 7302250) (hi : gl_in i L) (hkk : gl_K2 p l e s m below meth c sb D cA i cells slots) : gl_W p l e s m below meth c sb H cells slots 502 (gl_ls sb s.heap.size i) [] := by
  obtain ⟨dyn, t, Lt, u, Lu, hS, hk5, hRel, hRt, hRu, ht, hu⟩ := hI
  obtain ⟨v, μX1, μM1, q1, q2, hRel1⟩ := pp_c_feed (N := 1000) (x := ((xs (i + 1).toNatClampNeg).toInt64 <<< ((32 : Int32).toInt64 &&& 63)) ||| ((xs (i + 2).toNatClampNeg).toInt64 &&& 4294967295)) (a := xs (i + 3).toNatClampNeg) (Nat.le_refl _) hRel
  refine gl_aload C0 dL_502 rfl ?_
  refine gl_aload C0 dL_503 rfl ?_
  refine gl_iload C0 dL_504 rfl ?_
  refine gl_ic1 C0 dL_505 ?_
  refine gl_iadd C0 dL_506 ?_
  refine gl_sld C0 hS.2.2.2 hi.2.1 dL_507 ?_
  refine gl_i2l C0 dL_508 ?_
  refine gl_bipush (v := 32) C0 dL_509 (by decide) ?_
  refine gl_lshl C0 dL_511 ?_
  refine gl_aload C0 dL_512 rfl ?_
  refine gl_iload C0 dL_513 rfl ?_
  refine gl_ic2 C0 dL_514 ?_
  refine gl_iadd C0 dL_515 ?_
  refine gl_sld C0 hS.2.2.2 hi.2.2.1 dL_516 ?_
  refine gl_i2l C0 dL_517 ?_
  refine gl_ldc2 C0 kc_L_50 dL_518 ?_
  refine gl_land C0 dL_521 ?_
  refine gl_lor C0 dL_522 ?_
  refine gl_aload C0 dL_523 rfl ?_
  refine gl_iload C0 dL_524 rfl ?_
  refine gl_ic3 C0 dL_525 ?_
  refine gl_iadd C0 dL_526 ?_
  refine gl_sld C0 hS.2.2.2 hi.2.2.2.1 dL_527 ?_
  refine gl_callX C0 hF0 hS mt_X11_feed ml_L_52 mv_X11_feed dL_528 (k_X11_feed q1) rfl rfl (by decide) ⟨by omega, by omega⟩ (Nat.le_of_ble_eq_true rfl) (fun H1 hS1 => ?_)
  refine gl_aload C0 dL_531 rfl ?_
  refine gl_aload C0 dL_532 rfl ?_
  refine gl_iload C0 dL_533 rfl ?_
  refine gl_ic1 C0 dL_534 ?_
  refine gl_iadd C0 dL_535 ?_
  refine gl_sld C0 hS1.2.2.2 hi.2.1 dL_536 ?_
  refine gl_i2l C0 dL_537 ?_
  refine gl_bipush (v := 32) C0 dL_538 (by decide) ?_
  refine gl_lshl C0 dL_540 ?_
  refine gl_aload C0 dL_541 rfl ?_
  refine gl_iload C0 dL_542 rfl ?_
  refine gl_ic2 C0 dL_543 ?_
  refine gl_iadd C0 dL_544 ?_
  refine gl_sld C0 hS1.2.2.2 hi.2.2.1 dL_545 ?_
  refine gl_i2l C0 dL_546 ?_
  refine gl_ldc2 C0 kc_L_50 dL_547 ?_
  refine gl_land C0 dL_550 ?_
  refine gl_lor C0 dL_551 ?_
  refine gl_aload C0 dL_552 rfl ?_
  refine gl_iload C0 dL_553 rfl ?_
  refine gl_ic3 C0 dL_554 ?_
  refine gl_iadd C0 dL_555 ?_
  refine gl_sld C0 hS1.2.2.2 hi.2.2.2.1 dL_556 ?_
  refine gl_callM C0 hF0 hS1 mt_X12_feed ml_L_56 mv_X12_feed dL_557 (k_X12_feed q2) rfl rfl (by decide) ⟨by omega, by omega⟩ (Nat.le_of_ble_eq_true rfl) (fun H2 hS2 => ?_)
  refine gl_same 1668 C0 (by decide) dL_560 ?_
  exact hkk _ H2 _ _ _ _ ⟨dyn, t, Lt, u, Lu, hS2, hk5, hRel1, hRt, hRu, ht, hu⟩ (by omega) (by omega)
theorem gl_case_rules (C0 : lw_At p s m meth c sb L xs) (hF0 : gl_F D cA s) (hI : gl_I D cA s k μX μM H) (hb : cells + 5 ≤ 600000 ∧ slots + 630 ≤ 7302250) (hi : gl_in i L) (hkk : gl_K2 p l e s m below meth c sb D cA i cells slots) : gl_W p l e s m below meth c sb H cells slots 565 (gl_ls sb s.heap.size i) [] := by
  obtain ⟨dyn, t, Lt, u, Lu, hS, hk5, hRel, hRt, hRu, ht, hu⟩ := hI
  obtain ⟨μ1, μ5, W, w, fa, c9, ans, μM1, r1, r2, r3, r4, r5, r6, q2, hr⟩ := pp_c_rules (N := 1000) (r := 63 + k) (Nat.le_refl _) (by omega) ht hu hRel
  obtain ⟨dyn2, hdd⟩ : ∃ f : Nat → Nat, f = fun i => if i = k / 5 then 3 * W else dyn i := ⟨_, rfl⟩
  have hd1 : dyn2 (k / 5) = 3 * W := by rw [hdd]; exact if_pos rfl
  have hd2 : ∀ i : Nat, i < k / 5 → dyn2 i = dyn i := fun i hi => by rw [hdd]; exact if_neg (Nat.ne_of_lt hi)
  have hS := gl_St_dyn (dyn' := dyn2) hk5 hd2 hS
  have hRt := g_RO_up (k' := k + 5) (dyn' := dyn2) (by omega) hk5 hd2 hRt
  have hRu := g_RO_up (k' := k + 5) (dyn' := dyn2) (by omega) hk5 hd2 hRu
  rcases hr with ⟨c1, rfl, hRel1⟩ | ⟨rfl, rfl, μ7, r7, rfl, hRel1⟩
  · refine gl_aload C0 dL_565 rfl ?_
    refine gl_callX C0 hF0 hS mt_X11_rules ml_L_57 mv_X11_rules dL_566 (k_X11_rules0 hk5 hd1 r2 r1 r3 r4 r5 r6 c1) rfl rfl (by decide) ⟨by omega, by omega⟩ (Nat.le_of_ble_eq_true rfl) (fun H1 hS1 => ?_)
    refine gl_aload C0 dL_569 rfl ?_
    refine gl_callM C0 hF0 hS1 mt_X12_rules ml_L_60 mv_X12_rules dL_570 (k_X12_rules q2) rfl rfl (by decide) ⟨by omega, by omega⟩ (Nat.le_of_ble_eq_true rfl) (fun H2 hS2 => ?_)
    refine gl_same 1668 C0 (by decide) dL_573 ?_
    exact hkk _ H2 _ _ _ _ ⟨dyn2, t, Lt, u, Lu, hS2, by omega, hRel1, hRt, hRu, by omega, by omega⟩ (by omega) (by omega)
  · refine gl_aload C0 dL_565 rfl ?_
    refine gl_callX C0 hF0 hS mt_X11_rules ml_L_57 mv_X11_rules dL_566 (k_X11_rules1 hk5 hd1 r2 r1 r3 r4 r5 r6 r7) rfl rfl (by decide) ⟨by omega, by omega⟩ (Nat.le_of_ble_eq_true rfl) (fun H1 hS1 => ?_)
    refine gl_aload C0 dL_569 rfl ?_
    refine gl_callM C0 hF0 hS1 mt_X12_rules ml_L_60 mv_X12_rules dL_570 (k_X12_rules q2) rfl rfl (by decide) ⟨by omega, by omega⟩ (Nat.le_of_ble_eq_true rfl) (fun H2 hS2 => ?_)
    refine gl_same 1668 C0 (by decide) dL_573 ?_
    exact hkk _ H2 _ _ _ _ ⟨dyn2, 63 + k, 3 * W, u, Lu, hS2, by omega, hRel1, g_RO_new hk5 hd1, g_RO_rf hRu, by omega, by omega⟩ (by omega) (by omega)
theorem gl_case_night (C0 : lw_At p s m meth c sb L xs) (hF0 : gl_F D cA s) (hI : gl_I D cA s k μX μM H) (hb : cells + 5 ≤ 600000 ∧ slots + 630 ≤ 7302250) (hi : gl_in i L) (hkk : gl_K2 p l e s m below meth c sb D cA i cells slots) : gl_W p l e s m below meth c sb H cells slots 578 (gl_ls sb s.heap.size i) [] := by
  obtain ⟨dyn, t, Lt, u, Lu, hS, hk5, hRel, hRt, hRu, ht, hu⟩ := hI
  obtain ⟨v, μX1, μM1, q1, q2, hRel1⟩ := pp_c_night (N := 1000)  (Nat.le_refl _) hRel
  refine gl_aload C0 dL_578 rfl ?_
  refine gl_callX C0 hF0 hS mt_X11_night ml_L_61 mv_X11_night dL_579 (k_X11_night q1) rfl rfl (by decide) ⟨by omega, by omega⟩ (Nat.le_of_ble_eq_true rfl) (fun H1 hS1 => ?_)
  refine gl_aload C0 dL_582 rfl ?_
  refine gl_callM C0 hF0 hS1 mt_X12_night ml_L_64 mv_X12_night dL_583 (k_X12_night q2) rfl rfl (by decide) ⟨by omega, by omega⟩ (Nat.le_of_ble_eq_true rfl) (fun H2 hS2 => ?_)
  refine gl_same 1668 C0 (by decide) dL_586 ?_
  exact hkk _ H2 _ _ _ _ ⟨dyn, t, Lt, u, Lu, hS2, hk5, hRel1, hRt, hRu, ht, hu⟩ (by omega) (by omega)
theorem gl_case_on (C0 : lw_At p s m meth c sb L xs) (hF0 : gl_F D cA s) (hI : gl_I D cA s k μX μM H) (hb : cells + 5 ≤ 600000 ∧ slots + 630 ≤ 7302250) (hi : gl_in i L) (hkk : gl_K2 p l e s m below meth c sb D cA i cells slots) : gl_W p l e s m below meth c sb H cells slots 591 (gl_ls sb s.heap.size i) [] := by
  obtain ⟨dyn, t, Lt, u, Lu, hS, hk5, hRel, hRt, hRu, ht, hu⟩ := hI
  obtain ⟨v, μX1, μM1, q1, q2, hRel1⟩ := pp_c_on (N := 1000) (a := xs (i + 1).toNatClampNeg) (Nat.le_refl _) hRel
  refine gl_aload C0 dL_591 rfl ?_
  refine gl_aload C0 dL_592 rfl ?_
  refine gl_iload C0 dL_593 rfl ?_
  refine gl_ic1 C0 dL_594 ?_
  refine gl_iadd C0 dL_595 ?_
  refine gl_sld C0 hS.2.2.2 hi.2.1 dL_596 ?_
  refine gl_callX C0 hF0 hS mt_X11_on ml_L_65 mv_X11_on dL_597 (k_X11_on q1) rfl rfl (by decide) ⟨by omega, by omega⟩ (Nat.le_of_ble_eq_true rfl) (fun H1 hS1 => ?_)
  refine gl_aload C0 dL_600 rfl ?_
  refine gl_aload C0 dL_601 rfl ?_
  refine gl_iload C0 dL_602 rfl ?_
  refine gl_ic1 C0 dL_603 ?_
  refine gl_iadd C0 dL_604 ?_
  refine gl_sld C0 hS1.2.2.2 hi.2.1 dL_605 ?_
  refine gl_callM C0 hF0 hS1 mt_X12_on ml_L_68 mv_X12_on dL_606 (k_X12_on q2) rfl rfl (by decide) ⟨by omega, by omega⟩ (Nat.le_of_ble_eq_true rfl) (fun H2 hS2 => ?_)
  refine gl_same 1668 C0 (by decide) dL_609 ?_
  exact hkk _ H2 _ _ _ _ ⟨dyn, t, Lt, u, Lu, hS2, hk5, hRel1, hRt, hRu, ht, hu⟩ (by omega) (by omega)
theorem gl_case_goes (C0 : lw_At p s m meth c sb L xs) (hF0 : gl_F D cA s) (hI : gl_I D cA s k μX μM H) (hb : cells + 5 ≤ 600000 ∧ slots + 630 ≤ 7302250) (hi : gl_in i L) (hkk : gl_K2 p l e s m below meth c sb D cA i cells slots) : gl_W p l e s m below meth c sb H cells slots 614 (gl_ls sb s.heap.size i) [] := by
  obtain ⟨dyn, t, Lt, u, Lu, hS, hk5, hRel, hRt, hRu, ht, hu⟩ := hI
  obtain ⟨v, μX1, μM1, q1, q2, hRel1⟩ := pp_c_goes (N := 1000) (a := xs (i + 1).toNatClampNeg) (Nat.le_refl _) hRel
  refine gl_aload C0 dL_614 rfl ?_
  refine gl_aload C0 dL_615 rfl ?_
  refine gl_iload C0 dL_616 rfl ?_
  refine gl_ic1 C0 dL_617 ?_
  refine gl_iadd C0 dL_618 ?_
  refine gl_sld C0 hS.2.2.2 hi.2.1 dL_619 ?_
  refine gl_callX C0 hF0 hS mt_X11_goes ml_L_69 mv_X11_goes dL_620 (k_X11_goes q1) rfl rfl (by decide) ⟨by omega, by omega⟩ (Nat.le_of_ble_eq_true rfl) (fun H1 hS1 => ?_)
  refine gl_aload C0 dL_623 rfl ?_
  refine gl_aload C0 dL_624 rfl ?_
  refine gl_iload C0 dL_625 rfl ?_
  refine gl_ic1 C0 dL_626 ?_
  refine gl_iadd C0 dL_627 ?_
  refine gl_sld C0 hS1.2.2.2 hi.2.1 dL_628 ?_
  refine gl_callM C0 hF0 hS1 mt_X12_goes ml_L_72 mv_X12_goes dL_629 (k_X12_goes q2) rfl rfl (by decide) ⟨by omega, by omega⟩ (Nat.le_of_ble_eq_true rfl) (fun H2 hS2 => ?_)
  refine gl_same 1668 C0 (by decide) dL_632 ?_
  exact hkk _ H2 _ _ _ _ ⟨dyn, t, Lt, u, Lu, hS2, hk5, hRel1, hRt, hRu, ht, hu⟩ (by omega) (by omega)
theorem gl_case_often (C0 : lw_At p s m meth c sb L xs) (hF0 : gl_F D cA s) (hI : gl_I D cA s k μX μM H) (hb : cells + 5 ≤ 600000 ∧ slots + 630 ≤ 7302250) (hi : gl_in i L) (hkk : gl_K2 p l e s m below meth c sb D cA i cells slots) : gl_W p l e s m below meth c sb H cells slots 637 (gl_ls sb s.heap.size i) [] := by
  obtain ⟨dyn, t, Lt, u, Lu, hS, hk5, hRel, hRt, hRu, ht, hu⟩ := hI
  obtain ⟨v, μX1, μM1, q1, q2, hRel1⟩ := pp_c_often (N := 1000) (a := xs (i + 1).toNatClampNeg) (Nat.le_refl _) hRel
  refine gl_aload C0 dL_637 rfl ?_
  refine gl_aload C0 dL_638 rfl ?_
  refine gl_iload C0 dL_639 rfl ?_
  refine gl_ic1 C0 dL_640 ?_
  refine gl_iadd C0 dL_641 ?_
  refine gl_sld C0 hS.2.2.2 hi.2.1 dL_642 ?_
  refine gl_callX C0 hF0 hS mt_X11_often ml_L_73 mv_X11_often dL_643 (k_X11_often q1) rfl rfl (by decide) ⟨by omega, by omega⟩ (Nat.le_of_ble_eq_true rfl) (fun H1 hS1 => ?_)
  refine gl_aload C0 dL_646 rfl ?_
  refine gl_aload C0 dL_647 rfl ?_
  refine gl_iload C0 dL_648 rfl ?_
  refine gl_ic1 C0 dL_649 ?_
  refine gl_iadd C0 dL_650 ?_
  refine gl_sld C0 hS1.2.2.2 hi.2.1 dL_651 ?_
  refine gl_callM C0 hF0 hS1 mt_X12_often ml_L_76 mv_X12_often dL_652 (k_X12_often q2) rfl rfl (by decide) ⟨by omega, by omega⟩ (Nat.le_of_ble_eq_true rfl) (fun H2 hS2 => ?_)
  refine gl_same 1668 C0 (by decide) dL_655 ?_
  exact hkk _ H2 _ _ _ _ ⟨dyn, t, Lt, u, Lu, hS2, hk5, hRel1, hRt, hRu, ht, hu⟩ (by omega) (by omega)
theorem gl_case_placeFor (C0 : lw_At p s m meth c sb L xs) (hF0 : gl_F D cA s) (hI : gl_I D cA s k μX μM H) (hb : cells + 5 ≤ 600000 ∧ slots + 630 ≤ 7302250) (hi : gl_in i L) (hkk : gl_K2 p l e s m below meth c sb D cA i cells slots) : gl_W p l e s m below meth c sb H cells slots 660 (gl_ls sb s.heap.size i) [] := by
  obtain ⟨dyn, t, Lt, u, Lu, hS, hk5, hRel, hRt, hRu, ht, hu⟩ := hI
  obtain ⟨v, μX1, μM1, q1, q2, hRel1⟩ := pp_c_placeFor (N := 1000) (a := xs (i + 1).toNatClampNeg) (Nat.le_refl _) hRel
  refine gl_aload C0 dL_660 rfl ?_
  refine gl_aload C0 dL_661 rfl ?_
  refine gl_iload C0 dL_662 rfl ?_
  refine gl_ic1 C0 dL_663 ?_
  refine gl_iadd C0 dL_664 ?_
  refine gl_sld C0 hS.2.2.2 hi.2.1 dL_665 ?_
  refine gl_callX C0 hF0 hS mt_X11_placeFor ml_L_77 mv_X11_placeFor dL_666 (k_X11_placeFor hRt q1) rfl rfl (by decide) ⟨by omega, by omega⟩ (Nat.le_of_ble_eq_true rfl) (fun H1 hS1 => ?_)
  refine gl_aload C0 dL_669 rfl ?_
  refine gl_aload C0 dL_670 rfl ?_
  refine gl_iload C0 dL_671 rfl ?_
  refine gl_ic1 C0 dL_672 ?_
  refine gl_iadd C0 dL_673 ?_
  refine gl_sld C0 hS1.2.2.2 hi.2.1 dL_674 ?_
  refine gl_callM C0 hF0 hS1 mt_X12_placeFor ml_L_80 mv_X12_placeFor dL_675 (k_X12_placeFor q2) rfl rfl (by decide) ⟨by omega, by omega⟩ (Nat.le_of_ble_eq_true rfl) (fun H2 hS2 => ?_)
  refine gl_same 1668 C0 (by decide) dL_678 ?_
  exact hkk _ H2 _ _ _ _ ⟨dyn, t, Lt, u, Lu, hS2, hk5, hRel1, hRt, hRu, ht, hu⟩ (by omega) (by omega)
theorem gl_case_warmFor (C0 : lw_At p s m meth c sb L xs) (hF0 : gl_F D cA s) (hI : gl_I D cA s k μX μM H) (hb : cells + 5 ≤ 600000 ∧ slots + 630 ≤ 7302250) (hi : gl_in i L) (hkk : gl_K2 p l e s m below meth c sb D cA i cells slots) : gl_W p l e s m below meth c sb H cells slots 683 (gl_ls sb s.heap.size i) [] := by
  obtain ⟨dyn, t, Lt, u, Lu, hS, hk5, hRel, hRt, hRu, ht, hu⟩ := hI
  obtain ⟨v, μX1, μM1, q1, q2, hRel1⟩ := pp_c_warmFor (N := 1000) (a := xs (i + 1).toNatClampNeg) (Nat.le_refl _) hRel
  refine gl_aload C0 dL_683 rfl ?_
  refine gl_aload C0 dL_684 rfl ?_
  refine gl_iload C0 dL_685 rfl ?_
  refine gl_ic1 C0 dL_686 ?_
  refine gl_iadd C0 dL_687 ?_
  refine gl_sld C0 hS.2.2.2 hi.2.1 dL_688 ?_
  refine gl_callX C0 hF0 hS mt_X11_warmFor ml_L_81 mv_X11_warmFor dL_689 (k_X11_warmFor hRt q1) rfl rfl (by decide) ⟨by omega, by omega⟩ (Nat.le_of_ble_eq_true rfl) (fun H1 hS1 => ?_)
  refine gl_aload C0 dL_692 rfl ?_
  refine gl_aload C0 dL_693 rfl ?_
  refine gl_iload C0 dL_694 rfl ?_
  refine gl_ic1 C0 dL_695 ?_
  refine gl_iadd C0 dL_696 ?_
  refine gl_sld C0 hS1.2.2.2 hi.2.1 dL_697 ?_
  refine gl_callM C0 hF0 hS1 mt_X12_warmFor ml_L_84 mv_X12_warmFor dL_698 (k_X12_warmFor q2) rfl rfl (by decide) ⟨by omega, by omega⟩ (Nat.le_of_ble_eq_true rfl) (fun H2 hS2 => ?_)
  refine gl_same 1668 C0 (by decide) dL_701 ?_
  exact hkk _ H2 _ _ _ _ ⟨dyn, t, Lt, u, Lu, hS2, hk5, hRel1, hRt, hRu, ht, hu⟩ (by omega) (by omega)
theorem gl_case_pairs (C0 : lw_At p s m meth c sb L xs) (hF0 : gl_F D cA s) (hI : gl_I D cA s k μX μM H) (hb : cells + 5 ≤ 600000 ∧ slots + 630 ≤ 7302250) (hi : gl_in i L) (hkk : gl_K2 p l e s m below meth c sb D cA i cells slots) : gl_W p l e s m below meth c sb H cells slots 706 (gl_ls sb s.heap.size i) [] := by
  obtain ⟨dyn, t, Lt, u, Lu, hS, hk5, hRel, hRt, hRu, ht, hu⟩ := hI
  obtain ⟨v, q1, q2, hRel1⟩ := pp_c_pairs (N := 1000)  (Nat.le_refl _) hRel
  refine gl_aload C0 dL_706 rfl ?_
  refine gl_callX C0 hF0 hS mt_X11_pairs ml_L_85 mv_X11_pairs dL_707 (k_X11_pairs q1) rfl rfl (by decide) ⟨by omega, by omega⟩ (Nat.le_of_ble_eq_true rfl) (fun H1 hS1 => ?_)
  refine gl_aload C0 dL_710 rfl ?_
  refine gl_callM C0 hF0 hS1 mt_X12_pairs ml_L_88 mv_X12_pairs dL_711 (k_X12_pairs q2) rfl rfl (by decide) ⟨by omega, by omega⟩ (Nat.le_of_ble_eq_true rfl) (fun H2 hS2 => ?_)
  refine gl_same 1668 C0 (by decide) dL_714 ?_
  exact hkk _ H2 _ _ _ _ ⟨dyn, t, Lt, u, Lu, hS2, hk5, hRel1, hRt, hRu, ht, hu⟩ (by omega) (by omega)
theorem gl_case_weddings (C0 : lw_At p s m meth c sb L xs) (hF0 : gl_F D cA s) (hI : gl_I D cA s k μX μM H) (hb : cells + 5 ≤ 600000 ∧ slots + 630 ≤ 7302250) (hi : gl_in i L) (hkk : gl_K2 p l e s m below meth c sb D cA i cells slots) : gl_W p l e s m below meth c sb H cells slots 719 (gl_ls sb s.heap.size i) [] := by
  obtain ⟨dyn, t, Lt, u, Lu, hS, hk5, hRel, hRt, hRu, ht, hu⟩ := hI
  obtain ⟨v, μM1, q1, q2, hRel1⟩ := pp_c_weddings (N := 1000) (a := xs (i + 1).toNatClampNeg) (Nat.le_refl _) hRel
  refine gl_aload C0 dL_719 rfl ?_
  refine gl_aload C0 dL_720 rfl ?_
  refine gl_iload C0 dL_721 rfl ?_
  refine gl_ic1 C0 dL_722 ?_
  refine gl_iadd C0 dL_723 ?_
  refine gl_sld C0 hS.2.2.2 hi.2.1 dL_724 ?_
  refine gl_callX C0 hF0 hS mt_X11_weddings ml_L_89 mv_X11_weddings dL_725 (k_X11_weddings q1) rfl rfl (by decide) ⟨by omega, by omega⟩ (Nat.le_of_ble_eq_true rfl) (fun H1 hS1 => ?_)
  refine gl_aload C0 dL_728 rfl ?_
  refine gl_aload C0 dL_729 rfl ?_
  refine gl_iload C0 dL_730 rfl ?_
  refine gl_ic1 C0 dL_731 ?_
  refine gl_iadd C0 dL_732 ?_
  refine gl_sld C0 hS1.2.2.2 hi.2.1 dL_733 ?_
  refine gl_callM C0 hF0 hS1 mt_X12_weddings ml_L_92 mv_X12_weddings dL_734 (k_X12_weddings q2) rfl rfl (by decide) ⟨by omega, by omega⟩ (Nat.le_of_ble_eq_true rfl) (fun H2 hS2 => ?_)
  refine gl_same 1668 C0 (by decide) dL_737 ?_
  exact hkk _ H2 _ _ _ _ ⟨dyn, t, Lt, u, Lu, hS2, hk5, hRel1, hRt, hRu, ht, hu⟩ (by omega) (by omega)
theorem gl_case_mate (C0 : lw_At p s m meth c sb L xs) (hF0 : gl_F D cA s) (hI : gl_I D cA s k μX μM H) (hb : cells + 5 ≤ 600000 ∧ slots + 630 ≤ 7302250) (hi : gl_in i L) (hkk : gl_K2 p l e s m below meth c sb D cA i cells slots) : gl_W p l e s m below meth c sb H cells slots 742 (gl_ls sb s.heap.size i) [] := by
  obtain ⟨dyn, t, Lt, u, Lu, hS, hk5, hRel, hRt, hRu, ht, hu⟩ := hI
  obtain ⟨v, μM1, q1, q2, hRel1⟩ := pp_c_mate (N := 1000) (a := xs (i + 1).toNatClampNeg) (Nat.le_refl _) hRel
  refine gl_aload C0 dL_742 rfl ?_
  refine gl_aload C0 dL_743 rfl ?_
  refine gl_iload C0 dL_744 rfl ?_
  refine gl_ic1 C0 dL_745 ?_
  refine gl_iadd C0 dL_746 ?_
  refine gl_sld C0 hS.2.2.2 hi.2.1 dL_747 ?_
  refine gl_callX C0 hF0 hS mt_X11_mate ml_L_93 mv_X11_mate dL_748 (k_X11_mate q1) rfl rfl (by decide) ⟨by omega, by omega⟩ (Nat.le_of_ble_eq_true rfl) (fun H1 hS1 => ?_)
  refine gl_aload C0 dL_751 rfl ?_
  refine gl_aload C0 dL_752 rfl ?_
  refine gl_iload C0 dL_753 rfl ?_
  refine gl_ic1 C0 dL_754 ?_
  refine gl_iadd C0 dL_755 ?_
  refine gl_sld C0 hS1.2.2.2 hi.2.1 dL_756 ?_
  refine gl_callM C0 hF0 hS1 mt_X12_mate ml_L_96 mv_X12_mate dL_757 (k_X12_mate q2) rfl rfl (by decide) ⟨by omega, by omega⟩ (Nat.le_of_ble_eq_true rfl) (fun H2 hS2 => ?_)
  refine gl_same 1668 C0 (by decide) dL_760 ?_
  exact hkk _ H2 _ _ _ _ ⟨dyn, t, Lt, u, Lu, hS2, hk5, hRel1, hRt, hRu, ht, hu⟩ (by omega) (by omega)
theorem gl_case_chains (C0 : lw_At p s m meth c sb L xs) (hF0 : gl_F D cA s) (hI : gl_I D cA s k μX μM H) (hb : cells + 5 ≤ 600000 ∧ slots + 630 ≤ 7302250) (hi : gl_in i L) (hkk : gl_K2 p l e s m below meth c sb D cA i cells slots) : gl_W p l e s m below meth c sb H cells slots 765 (gl_ls sb s.heap.size i) [] := by
  obtain ⟨dyn, t, Lt, u, Lu, hS, hk5, hRel, hRt, hRu, ht, hu⟩ := hI
  obtain ⟨v, μX1, μM1, q1, q2, hRel1⟩ := pp_c_chains (N := 1000) (a := xs (i + 1).toNatClampNeg) (Nat.le_refl _) hRel
  refine gl_aload C0 dL_765 rfl ?_
  refine gl_aload C0 dL_766 rfl ?_
  refine gl_iload C0 dL_767 rfl ?_
  refine gl_ic1 C0 dL_768 ?_
  refine gl_iadd C0 dL_769 ?_
  refine gl_sld C0 hS.2.2.2 hi.2.1 dL_770 ?_
  refine gl_callX C0 hF0 hS mt_X11_chains ml_L_97 mv_X11_chains dL_771 (k_X11_chains q1) rfl rfl (by decide) ⟨by omega, by omega⟩ (Nat.le_of_ble_eq_true rfl) (fun H1 hS1 => ?_)
  refine gl_aload C0 dL_774 rfl ?_
  refine gl_aload C0 dL_775 rfl ?_
  refine gl_iload C0 dL_776 rfl ?_
  refine gl_ic1 C0 dL_777 ?_
  refine gl_iadd C0 dL_778 ?_
  refine gl_sld C0 hS1.2.2.2 hi.2.1 dL_779 ?_
  refine gl_callM C0 hF0 hS1 mt_X12_chains ml_L_100 mv_X12_chains dL_780 (k_X12_chains q2) rfl rfl (by decide) ⟨by omega, by omega⟩ (Nat.le_of_ble_eq_true rfl) (fun H2 hS2 => ?_)
  refine gl_same 1668 C0 (by decide) dL_783 ?_
  exact hkk _ H2 _ _ _ _ ⟨dyn, t, Lt, u, Lu, hS2, hk5, hRel1, hRt, hRu, ht, hu⟩ (by omega) (by omega)
theorem gl_case_best (C0 : lw_At p s m meth c sb L xs) (hF0 : gl_F D cA s) (hI : gl_I D cA s k μX μM H) (hb : cells + 5 ≤ 600000 ∧ slots + 630 ≤ 7302250) (hi : gl_in i L) (hkk : gl_K2 p l e s m below meth c sb D cA i cells slots) : gl_W p l e s m below meth c sb H cells slots 788 (gl_ls sb s.heap.size i) [] := by
  obtain ⟨dyn, t, Lt, u, Lu, hS, hk5, hRel, hRt, hRu, ht, hu⟩ := hI
  obtain ⟨v, μX1, μM1, q1, q2, hRel1⟩ := pp_c_best (N := 1000) (a := xs (i + 1).toNatClampNeg) (Nat.le_refl _) hRel
  refine gl_aload C0 dL_788 rfl ?_
  refine gl_aload C0 dL_789 rfl ?_
  refine gl_iload C0 dL_790 rfl ?_
  refine gl_ic1 C0 dL_791 ?_
  refine gl_iadd C0 dL_792 ?_
  refine gl_sld C0 hS.2.2.2 hi.2.1 dL_793 ?_
  refine gl_callX C0 hF0 hS mt_X11_best ml_L_101 mv_X11_best dL_794 (k_X11_best q1) rfl rfl (by decide) ⟨by omega, by omega⟩ (Nat.le_of_ble_eq_true rfl) (fun H1 hS1 => ?_)
  refine gl_aload C0 dL_797 rfl ?_
  refine gl_aload C0 dL_798 rfl ?_
  refine gl_iload C0 dL_799 rfl ?_
  refine gl_ic1 C0 dL_800 ?_
  refine gl_iadd C0 dL_801 ?_
  refine gl_sld C0 hS1.2.2.2 hi.2.1 dL_802 ?_
  refine gl_callM C0 hF0 hS1 mt_X12_best ml_L_104 mv_X12_best dL_803 (k_X12_best q2) rfl rfl (by decide) ⟨by omega, by omega⟩ (Nat.le_of_ble_eq_true rfl) (fun H2 hS2 => ?_)
  refine gl_same 1668 C0 (by decide) dL_806 ?_
  exact hkk _ H2 _ _ _ _ ⟨dyn, t, Lt, u, Lu, hS2, hk5, hRel1, hRt, hRu, ht, hu⟩ (by omega) (by omega)
theorem gl_case_ith (C0 : lw_At p s m meth c sb L xs) (hF0 : gl_F D cA s) (hI : gl_I D cA s k μX μM H) (hb : cells + 5 ≤ 600000 ∧ slots + 630 ≤ 7302250) (hi : gl_in i L) (hkk : gl_K2 p l e s m below meth c sb D cA i cells slots) : gl_W p l e s m below meth c sb H cells slots 811 (gl_ls sb s.heap.size i) [] := by
  obtain ⟨dyn, t, Lt, u, Lu, hS, hk5, hRel, hRt, hRu, ht, hu⟩ := hI
  obtain ⟨v, μX1, μM1, q1, q2, hRel1⟩ := pp_c_ith (N := 1000) (a := xs (i + 1).toNatClampNeg) (a2 := xs (i + 2).toNatClampNeg) (Nat.le_refl _) hRel
  refine gl_aload C0 dL_811 rfl ?_
  refine gl_aload C0 dL_812 rfl ?_
  refine gl_iload C0 dL_813 rfl ?_
  refine gl_ic1 C0 dL_814 ?_
  refine gl_iadd C0 dL_815 ?_
  refine gl_sld C0 hS.2.2.2 hi.2.1 dL_816 ?_
  refine gl_aload C0 dL_817 rfl ?_
  refine gl_iload C0 dL_818 rfl ?_
  refine gl_ic2 C0 dL_819 ?_
  refine gl_iadd C0 dL_820 ?_
  refine gl_sld C0 hS.2.2.2 hi.2.2.1 dL_821 ?_
  refine gl_callX C0 hF0 hS mt_X11_ith ml_L_105 mv_X11_ith dL_822 (k_X11_ith q1) rfl rfl (by decide) ⟨by omega, by omega⟩ (Nat.le_of_ble_eq_true rfl) (fun H1 hS1 => ?_)
  refine gl_aload C0 dL_825 rfl ?_
  refine gl_aload C0 dL_826 rfl ?_
  refine gl_iload C0 dL_827 rfl ?_
  refine gl_ic1 C0 dL_828 ?_
  refine gl_iadd C0 dL_829 ?_
  refine gl_sld C0 hS1.2.2.2 hi.2.1 dL_830 ?_
  refine gl_aload C0 dL_831 rfl ?_
  refine gl_iload C0 dL_832 rfl ?_
  refine gl_ic2 C0 dL_833 ?_
  refine gl_iadd C0 dL_834 ?_
  refine gl_sld C0 hS1.2.2.2 hi.2.2.1 dL_835 ?_
  refine gl_callM C0 hF0 hS1 mt_X12_ith ml_L_108 mv_X12_ith dL_836 (k_X12_ith q2) rfl rfl (by decide) ⟨by omega, by omega⟩ (Nat.le_of_ble_eq_true rfl) (fun H2 hS2 => ?_)
  refine gl_same 1668 C0 (by decide) dL_839 ?_
  exact hkk _ H2 _ _ _ _ ⟨dyn, t, Lt, u, Lu, hS2, hk5, hRel1, hRt, hRu, ht, hu⟩ (by omega) (by omega)
theorem gl_case_ways (C0 : lw_At p s m meth c sb L xs) (hF0 : gl_F D cA s) (hI : gl_I D cA s k μX μM H) (hb : cells + 5 ≤ 600000 ∧ slots + 630 ≤ 7302250) (hi : gl_in i L) (hkk : gl_K2 p l e s m below meth c sb D cA i cells slots) : gl_W p l e s m below meth c sb H cells slots 844 (gl_ls sb s.heap.size i) [] := by
  obtain ⟨dyn, t, Lt, u, Lu, hS, hk5, hRel, hRt, hRu, ht, hu⟩ := hI
  obtain ⟨v, μX1, μM1, q1, q2, hRel1⟩ := pp_c_ways (N := 1000) (a := xs (i + 1).toNatClampNeg) (Nat.le_refl _) hRel
  refine gl_aload C0 dL_844 rfl ?_
  refine gl_aload C0 dL_845 rfl ?_
  refine gl_iload C0 dL_846 rfl ?_
  refine gl_ic1 C0 dL_847 ?_
  refine gl_iadd C0 dL_848 ?_
  refine gl_sld C0 hS.2.2.2 hi.2.1 dL_849 ?_
  refine gl_callX C0 hF0 hS mt_X11_ways ml_L_109 mv_X11_ways dL_850 (k_X11_ways q1) rfl rfl (by decide) ⟨by omega, by omega⟩ (Nat.le_of_ble_eq_true rfl) (fun H1 hS1 => ?_)
  refine gl_aload C0 dL_853 rfl ?_
  refine gl_aload C0 dL_854 rfl ?_
  refine gl_iload C0 dL_855 rfl ?_
  refine gl_ic1 C0 dL_856 ?_
  refine gl_iadd C0 dL_857 ?_
  refine gl_sld C0 hS1.2.2.2 hi.2.1 dL_858 ?_
  refine gl_callM C0 hF0 hS1 mt_X12_ways ml_L_112 mv_X12_ways dL_859 (k_X12_ways q2) rfl rfl (by decide) ⟨by omega, by omega⟩ (Nat.le_of_ble_eq_true rfl) (fun H2 hS2 => ?_)
  refine gl_same 1668 C0 (by decide) dL_862 ?_
  exact hkk _ H2 _ _ _ _ ⟨dyn, t, Lt, u, Lu, hS2, hk5, hRel1, hRt, hRu, ht, hu⟩ (by omega) (by omega)
theorem gl_case_kept (C0 : lw_At p s m meth c sb L xs) (hF0 : gl_F D cA s) (hI : gl_I D cA s k μX μM H) (hb : cells + 5 ≤ 600000 ∧ slots + 630 ≤ 7302250) (hi : gl_in i L) (hkk : gl_K2 p l e s m below meth c sb D cA i cells slots) : gl_W p l e s m below meth c sb H cells slots 867 (gl_ls sb s.heap.size i) [] := by
  obtain ⟨dyn, t, Lt, u, Lu, hS, hk5, hRel, hRt, hRu, ht, hu⟩ := hI
  obtain ⟨v, μX1, μM1, q1, q2, hRel1⟩ := pp_c_kept (N := 1000) (a := xs (i + 1).toNatClampNeg) (a2 := xs (i + 2).toNatClampNeg) (Nat.le_refl _) hRel
  refine gl_aload C0 dL_867 rfl ?_
  refine gl_aload C0 dL_868 rfl ?_
  refine gl_iload C0 dL_869 rfl ?_
  refine gl_ic1 C0 dL_870 ?_
  refine gl_iadd C0 dL_871 ?_
  refine gl_sld C0 hS.2.2.2 hi.2.1 dL_872 ?_
  refine gl_aload C0 dL_873 rfl ?_
  refine gl_iload C0 dL_874 rfl ?_
  refine gl_ic2 C0 dL_875 ?_
  refine gl_iadd C0 dL_876 ?_
  refine gl_sld C0 hS.2.2.2 hi.2.2.1 dL_877 ?_
  refine gl_callX C0 hF0 hS mt_X11_kept ml_L_113 mv_X11_kept dL_878 (k_X11_kept q1) rfl rfl (by decide) ⟨by omega, by omega⟩ (Nat.le_of_ble_eq_true rfl) (fun H1 hS1 => ?_)
  refine gl_aload C0 dL_881 rfl ?_
  refine gl_aload C0 dL_882 rfl ?_
  refine gl_iload C0 dL_883 rfl ?_
  refine gl_ic1 C0 dL_884 ?_
  refine gl_iadd C0 dL_885 ?_
  refine gl_sld C0 hS1.2.2.2 hi.2.1 dL_886 ?_
  refine gl_aload C0 dL_887 rfl ?_
  refine gl_iload C0 dL_888 rfl ?_
  refine gl_ic2 C0 dL_889 ?_
  refine gl_iadd C0 dL_890 ?_
  refine gl_sld C0 hS1.2.2.2 hi.2.2.1 dL_891 ?_
  refine gl_callM C0 hF0 hS1 mt_X12_kept ml_L_116 mv_X12_kept dL_892 (k_X12_kept q2) rfl rfl (by decide) ⟨by omega, by omega⟩ (Nat.le_of_ble_eq_true rfl) (fun H2 hS2 => ?_)
  refine gl_same 1668 C0 (by decide) dL_895 ?_
  exact hkk _ H2 _ _ _ _ ⟨dyn, t, Lt, u, Lu, hS2, hk5, hRel1, hRt, hRu, ht, hu⟩ (by omega) (by omega)
theorem gl_case_bars (C0 : lw_At p s m meth c sb L xs) (hF0 : gl_F D cA s) (hI : gl_I D cA s k μX μM H) (hb : cells + 5 ≤ 600000 ∧ slots + 630 ≤ 7302250) (hi : gl_in i L) (hkk : gl_K2 p l e s m below meth c sb D cA i cells slots) : gl_W p l e s m below meth c sb H cells slots 900 (gl_ls sb s.heap.size i) [] := by
  obtain ⟨dyn, t, Lt, u, Lu, hS, hk5, hRel, hRt, hRu, ht, hu⟩ := hI
  obtain ⟨v, μX1, μM1, q1, q2, hRel1⟩ := pp_c_bars (N := 1000) (a := xs (i + 1).toNatClampNeg) (a2 := xs (i + 2).toNatClampNeg) (Nat.le_refl _) hRel
  refine gl_aload C0 dL_900 rfl ?_
  refine gl_aload C0 dL_901 rfl ?_
  refine gl_iload C0 dL_902 rfl ?_
  refine gl_ic1 C0 dL_903 ?_
  refine gl_iadd C0 dL_904 ?_
  refine gl_sld C0 hS.2.2.2 hi.2.1 dL_905 ?_
  refine gl_aload C0 dL_906 rfl ?_
  refine gl_iload C0 dL_907 rfl ?_
  refine gl_ic2 C0 dL_908 ?_
  refine gl_iadd C0 dL_909 ?_
  refine gl_sld C0 hS.2.2.2 hi.2.2.1 dL_910 ?_
  refine gl_callX C0 hF0 hS mt_X11_bars ml_L_117 mv_X11_bars dL_911 (k_X11_bars q1) rfl rfl (by decide) ⟨by omega, by omega⟩ (Nat.le_of_ble_eq_true rfl) (fun H1 hS1 => ?_)
  refine gl_aload C0 dL_914 rfl ?_
  refine gl_aload C0 dL_915 rfl ?_
  refine gl_iload C0 dL_916 rfl ?_
  refine gl_ic1 C0 dL_917 ?_
  refine gl_iadd C0 dL_918 ?_
  refine gl_sld C0 hS1.2.2.2 hi.2.1 dL_919 ?_
  refine gl_aload C0 dL_920 rfl ?_
  refine gl_iload C0 dL_921 rfl ?_
  refine gl_ic2 C0 dL_922 ?_
  refine gl_iadd C0 dL_923 ?_
  refine gl_sld C0 hS1.2.2.2 hi.2.2.1 dL_924 ?_
  refine gl_callM C0 hF0 hS1 mt_X12_bars ml_L_120 mv_X12_bars dL_925 (k_X12_bars q2) rfl rfl (by decide) ⟨by omega, by omega⟩ (Nat.le_of_ble_eq_true rfl) (fun H2 hS2 => ?_)
  refine gl_same 1668 C0 (by decide) dL_928 ?_
  exact hkk _ H2 _ _ _ _ ⟨dyn, t, Lt, u, Lu, hS2, hk5, hRel1, hRt, hRu, ht, hu⟩ (by omega) (by omega)
theorem gl_case_game (C0 : lw_At p s m meth c sb L xs) (hF0 : gl_F D cA s) (hI : gl_I D cA s k μX μM H) (hb : cells + 5 ≤ 600000 ∧ slots + 630 ≤ 7302250) (hi : gl_in i L) (hkk : gl_K2 p l e s m below meth c sb D cA i cells slots) : gl_W p l e s m below meth c sb H cells slots 933 (gl_ls sb s.heap.size i) [] := by
  obtain ⟨dyn, t, Lt, u, Lu, hS, hk5, hRel, hRt, hRu, ht, hu⟩ := hI
  obtain ⟨v, μX1, μM1, q1, q2, hRel1⟩ := pp_c_game (N := 1000) (a := xs (i + 1).toNatClampNeg) (Nat.le_refl _) hRel
  refine gl_aload C0 dL_933 rfl ?_
  refine gl_aload C0 dL_934 rfl ?_
  refine gl_iload C0 dL_935 rfl ?_
  refine gl_ic1 C0 dL_936 ?_
  refine gl_iadd C0 dL_937 ?_
  refine gl_sld C0 hS.2.2.2 hi.2.1 dL_938 ?_
  refine gl_callX C0 hF0 hS mt_X11_game ml_L_121 mv_X11_game dL_939 (k_X11_game q1) rfl rfl (by decide) ⟨by omega, by omega⟩ (Nat.le_of_ble_eq_true rfl) (fun H1 hS1 => ?_)
  refine gl_aload C0 dL_942 rfl ?_
  refine gl_aload C0 dL_943 rfl ?_
  refine gl_iload C0 dL_944 rfl ?_
  refine gl_ic1 C0 dL_945 ?_
  refine gl_iadd C0 dL_946 ?_
  refine gl_sld C0 hS1.2.2.2 hi.2.1 dL_947 ?_
  refine gl_callM C0 hF0 hS1 mt_X12_game ml_L_124 mv_X12_game dL_948 (k_X12_game q2) rfl rfl (by decide) ⟨by omega, by omega⟩ (Nat.le_of_ble_eq_true rfl) (fun H2 hS2 => ?_)
  refine gl_same 1668 C0 (by decide) dL_951 ?_
  exact hkk _ H2 _ _ _ _ ⟨dyn, t, Lt, u, Lu, hS2, hk5, hRel1, hRt, hRu, ht, hu⟩ (by omega) (by omega)
theorem gl_case_play (C0 : lw_At p s m meth c sb L xs) (hF0 : gl_F D cA s) (hI : gl_I D cA s k μX μM H) (hb : cells + 5 ≤ 600000 ∧ slots + 630 ≤ 7302250) (hi : gl_in i L) (hkk : gl_K2 p l e s m below meth c sb D cA i cells slots) : gl_W p l e s m below meth c sb H cells slots 956 (gl_ls sb s.heap.size i) [] := by
  obtain ⟨dyn, t, Lt, u, Lu, hS, hk5, hRel, hRt, hRu, ht, hu⟩ := hI
  obtain ⟨v, μX1, μM1, q1, q2, hRel1⟩ := pp_c_play (N := 1000) (a := xs (i + 1).toNatClampNeg) (Nat.le_refl _) hRel
  refine gl_aload C0 dL_956 rfl ?_
  refine gl_aload C0 dL_957 rfl ?_
  refine gl_iload C0 dL_958 rfl ?_
  refine gl_ic1 C0 dL_959 ?_
  refine gl_iadd C0 dL_960 ?_
  refine gl_sld C0 hS.2.2.2 hi.2.1 dL_961 ?_
  refine gl_callX C0 hF0 hS mt_X11_play ml_L_125 mv_X11_play dL_962 (k_X11_play q1) rfl rfl (by decide) ⟨by omega, by omega⟩ (Nat.le_of_ble_eq_true rfl) (fun H1 hS1 => ?_)
  refine gl_aload C0 dL_965 rfl ?_
  refine gl_aload C0 dL_966 rfl ?_
  refine gl_iload C0 dL_967 rfl ?_
  refine gl_ic1 C0 dL_968 ?_
  refine gl_iadd C0 dL_969 ?_
  refine gl_sld C0 hS1.2.2.2 hi.2.1 dL_970 ?_
  refine gl_callM C0 hF0 hS1 mt_X12_play ml_L_128 mv_X12_play dL_971 (k_X12_play q2) rfl rfl (by decide) ⟨by omega, by omega⟩ (Nat.le_of_ble_eq_true rfl) (fun H2 hS2 => ?_)
  refine gl_same 1668 C0 (by decide) dL_974 ?_
  exact hkk _ H2 _ _ _ _ ⟨dyn, t, Lt, u, Lu, hS2, hk5, hRel1, hRt, hRu, ht, hu⟩ (by omega) (by omega)
theorem gl_case_report (C0 : lw_At p s m meth c sb L xs) (hF0 : gl_F D cA s) (hI : gl_I D cA s k μX μM H) (hb : cells + 5 ≤ 600000 ∧ slots + 630 ≤ 7302250) (hi : gl_in i L) (hkk : gl_K2 p l e s m below meth c sb D cA i cells slots) : gl_W p l e s m below meth c sb H cells slots 979 (gl_ls sb s.heap.size i) [] := by
  obtain ⟨dyn, t, Lt, u, Lu, hS, hk5, hRel, hRt, hRu, ht, hu⟩ := hI
  obtain ⟨v, μX1, μM1, q1, q2, hRel1⟩ := pp_c_report (a1 := xs (i + 1).toNatClampNeg) (a2 := xs (i + 2).toNatClampNeg) (a3 := xs (i + 3).toNatClampNeg) (a4 := xs (i + 4).toNatClampNeg) hRel
  refine gl_aload C0 dL_979 rfl ?_
  refine gl_aload C0 dL_980 rfl ?_
  refine gl_iload C0 dL_981 rfl ?_
  refine gl_ic1 C0 dL_982 ?_
  refine gl_iadd C0 dL_983 ?_
  refine gl_sld C0 hS.2.2.2 hi.2.1 dL_984 ?_
  refine gl_aload C0 dL_985 rfl ?_
  refine gl_iload C0 dL_986 rfl ?_
  refine gl_ic2 C0 dL_987 ?_
  refine gl_iadd C0 dL_988 ?_
  refine gl_sld C0 hS.2.2.2 hi.2.2.1 dL_989 ?_
  refine gl_aload C0 dL_990 rfl ?_
  refine gl_iload C0 dL_991 rfl ?_
  refine gl_ic3 C0 dL_992 ?_
  refine gl_iadd C0 dL_993 ?_
  refine gl_sld C0 hS.2.2.2 hi.2.2.2.1 dL_994 ?_
  refine gl_aload C0 dL_995 rfl ?_
  refine gl_iload C0 dL_996 rfl ?_
  refine gl_ic4 C0 dL_997 ?_
  refine gl_iadd C0 dL_998 ?_
  refine gl_sld C0 hS.2.2.2 hi.2.2.2.2 dL_999 ?_
  refine gl_callX C0 hF0 hS mt_X11_report ml_L_129 mv_X11_report dL_1000 (k_X11_report q1) rfl rfl (by decide) ⟨by omega, by omega⟩ (Nat.le_of_ble_eq_true rfl) (fun H1 hS1 => ?_)
  refine gl_aload C0 dL_1003 rfl ?_
  refine gl_aload C0 dL_1004 rfl ?_
  refine gl_iload C0 dL_1005 rfl ?_
  refine gl_ic1 C0 dL_1006 ?_
  refine gl_iadd C0 dL_1007 ?_
  refine gl_sld C0 hS1.2.2.2 hi.2.1 dL_1008 ?_
  refine gl_aload C0 dL_1009 rfl ?_
  refine gl_iload C0 dL_1010 rfl ?_
  refine gl_ic2 C0 dL_1011 ?_
  refine gl_iadd C0 dL_1012 ?_
  refine gl_sld C0 hS1.2.2.2 hi.2.2.1 dL_1013 ?_
  refine gl_aload C0 dL_1014 rfl ?_
  refine gl_iload C0 dL_1015 rfl ?_
  refine gl_ic3 C0 dL_1016 ?_
  refine gl_iadd C0 dL_1017 ?_
  refine gl_sld C0 hS1.2.2.2 hi.2.2.2.1 dL_1018 ?_
  refine gl_aload C0 dL_1019 rfl ?_
  refine gl_iload C0 dL_1020 rfl ?_
  refine gl_ic4 C0 dL_1021 ?_
  refine gl_iadd C0 dL_1022 ?_
  refine gl_sld C0 hS1.2.2.2 hi.2.2.2.2 dL_1023 ?_
  refine gl_callM C0 hF0 hS1 mt_X12_report ml_L_132 mv_X12_report dL_1024 (k_X12_report q2) rfl rfl (by decide) ⟨by omega, by omega⟩ (Nat.le_of_ble_eq_true rfl) (fun H2 hS2 => ?_)
  refine gl_same 1668 C0 (by decide) dL_1027 ?_
  exact hkk _ H2 _ _ _ _ ⟨dyn, t, Lt, u, Lu, hS2, hk5, hRel1, hRt, hRu, ht, hu⟩ (by omega) (by omega)
theorem gl_case_forget (C0 : lw_At p s m meth c sb L xs) (hF0 : gl_F D cA s) (hI : gl_I D cA s k μX μM H) (hb : cells + 5 ≤ 600000 ∧ slots + 630 ≤ 7302250) (hi : gl_in i L) (hkk : gl_K2 p l e s m below meth c sb D cA i cells slots) : gl_W p l e s m below meth c sb H cells slots 1032 (gl_ls sb s.heap.size i) [] := by
  obtain ⟨dyn, t, Lt, u, Lu, hS, hk5, hRel, hRt, hRu, ht, hu⟩ := hI
  obtain ⟨v, μX1, μM1, q1, q2, hRel1⟩ := pp_c_forget  hRel
  refine gl_aload C0 dL_1032 rfl ?_
  refine gl_callX C0 hF0 hS mt_X11_forget ml_L_133 mv_X11_forget dL_1033 (k_X11_forget q1) rfl rfl (by decide) ⟨by omega, by omega⟩ (Nat.le_of_ble_eq_true rfl) (fun H1 hS1 => ?_)
  refine gl_aload C0 dL_1036 rfl ?_
  refine gl_callM C0 hF0 hS1 mt_X12_forget ml_L_136 mv_X12_forget dL_1037 (k_X12_forget q2) rfl rfl (by decide) ⟨by omega, by omega⟩ (Nat.le_of_ble_eq_true rfl) (fun H2 hS2 => ?_)
  refine gl_same 1668 C0 (by decide) dL_1040 ?_
  exact hkk _ H2 _ _ _ _ ⟨dyn, t, Lt, u, Lu, hS2, hk5, hRel1, hRt, hRu, ht, hu⟩ (by omega) (by omega)
theorem gl_case_span (C0 : lw_At p s m meth c sb L xs) (hF0 : gl_F D cA s) (hI : gl_I D cA s k μX μM H) (hb : cells + 5 ≤ 600000 ∧ slots + 630 ≤ 7302250) (hi : gl_in i L) (hkk : gl_K2 p l e s m below meth c sb D cA i cells slots) : gl_W p l e s m below meth c sb H cells slots 1045 (gl_ls sb s.heap.size i) [] := by
  obtain ⟨dyn, t, Lt, u, Lu, hS, hk5, hRel, hRt, hRu, ht, hu⟩ := hI
  obtain ⟨v, μM1, q1, q2, hRel1⟩ := pp_c_span (N := 1000) (a := xs (i + 1).toNatClampNeg) (Nat.le_refl _) hRel
  refine gl_aload C0 dL_1045 rfl ?_
  refine gl_aload C0 dL_1046 rfl ?_
  refine gl_iload C0 dL_1047 rfl ?_
  refine gl_ic1 C0 dL_1048 ?_
  refine gl_iadd C0 dL_1049 ?_
  refine gl_sld C0 hS.2.2.2 hi.2.1 dL_1050 ?_
  refine gl_callX C0 hF0 hS mt_X11_span ml_L_137 mv_X11_span dL_1051 (k_X11_span q1) rfl rfl (by decide) ⟨by omega, by omega⟩ (Nat.le_of_ble_eq_true rfl) (fun H1 hS1 => ?_)
  refine gl_aload C0 dL_1054 rfl ?_
  refine gl_aload C0 dL_1055 rfl ?_
  refine gl_iload C0 dL_1056 rfl ?_
  refine gl_ic1 C0 dL_1057 ?_
  refine gl_iadd C0 dL_1058 ?_
  refine gl_sld C0 hS1.2.2.2 hi.2.1 dL_1059 ?_
  refine gl_callM C0 hF0 hS1 mt_X12_span ml_L_140 mv_X12_span dL_1060 (k_X12_span q2) rfl rfl (by decide) ⟨by omega, by omega⟩ (Nat.le_of_ble_eq_true rfl) (fun H2 hS2 => ?_)
  refine gl_same 1668 C0 (by decide) dL_1063 ?_
  exact hkk _ H2 _ _ _ _ ⟨dyn, t, Lt, u, Lu, hS2, hk5, hRel1, hRt, hRu, ht, hu⟩ (by omega) (by omega)
theorem gl_case_liar (C0 : lw_At p s m meth c sb L xs) (hF0 : gl_F D cA s) (hI : gl_I D cA s k μX μM H) (hb : cells + 5 ≤ 600000 ∧ slots + 630 ≤ 7302250) (hi : gl_in i L) (hkk : gl_K2 p l e s m below meth c sb D cA i cells slots) : gl_W p l e s m below meth c sb H cells slots 1068 (gl_ls sb s.heap.size i) [] := by
  obtain ⟨dyn, t, Lt, u, Lu, hS, hk5, hRel, hRt, hRu, ht, hu⟩ := hI
  obtain ⟨v, μM1, q1, q2, hRel1⟩ := pp_c_liar (N := 1000)  (Nat.le_refl _) hRel
  refine gl_aload C0 dL_1068 rfl ?_
  refine gl_callX C0 hF0 hS mt_X11_liar ml_L_141 mv_X11_liar dL_1069 (k_X11_liar q1) rfl rfl (by decide) ⟨by omega, by omega⟩ (Nat.le_of_ble_eq_true rfl) (fun H1 hS1 => ?_)
  refine gl_aload C0 dL_1072 rfl ?_
  refine gl_callM C0 hF0 hS1 mt_X12_liar ml_L_144 mv_X12_liar dL_1073 (k_X12_liar q2) rfl rfl (by decide) ⟨by omega, by omega⟩ (Nat.le_of_ble_eq_true rfl) (fun H2 hS2 => ?_)
  refine gl_same 1668 C0 (by decide) dL_1076 ?_
  exact hkk _ H2 _ _ _ _ ⟨dyn, t, Lt, u, Lu, hS2, hk5, hRel1, hRt, hRu, ht, hu⟩ (by omega) (by omega)
theorem gl_case_seed (C0 : lw_At p s m meth c sb L xs) (hF0 : gl_F D cA s) (hI : gl_I D cA s k μX μM H) (hb : cells + 5 ≤ 600000 ∧ slots + 630 ≤ 7302250) (hi : gl_in i L) (hkk : gl_K2 p l e s m below meth c sb D cA i cells slots) : gl_W p l e s m below meth c sb H cells slots 1081 (gl_ls sb s.heap.size i) [] := by
  obtain ⟨dyn, t, Lt, u, Lu, hS, hk5, hRel, hRt, hRu, ht, hu⟩ := hI
  obtain ⟨v, μX1, μM1, q1, q2, hRel1⟩ := pp_c_seed (a := xs (i + 1).toNatClampNeg) hRel
  refine gl_aload C0 dL_1081 rfl ?_
  refine gl_aload C0 dL_1082 rfl ?_
  refine gl_iload C0 dL_1083 rfl ?_
  refine gl_ic1 C0 dL_1084 ?_
  refine gl_iadd C0 dL_1085 ?_
  refine gl_sld C0 hS.2.2.2 hi.2.1 dL_1086 ?_
  refine gl_callX C0 hF0 hS mt_X11_seed ml_L_145 mv_X11_seed dL_1087 (k_X11_seed q1) rfl rfl (by decide) ⟨by omega, by omega⟩ (Nat.le_of_ble_eq_true rfl) (fun H1 hS1 => ?_)
  refine gl_aload C0 dL_1090 rfl ?_
  refine gl_aload C0 dL_1091 rfl ?_
  refine gl_iload C0 dL_1092 rfl ?_
  refine gl_ic1 C0 dL_1093 ?_
  refine gl_iadd C0 dL_1094 ?_
  refine gl_sld C0 hS1.2.2.2 hi.2.1 dL_1095 ?_
  refine gl_callM C0 hF0 hS1 mt_X12_seed ml_L_148 mv_X12_seed dL_1096 (k_X12_seed q2) rfl rfl (by decide) ⟨by omega, by omega⟩ (Nat.le_of_ble_eq_true rfl) (fun H2 hS2 => ?_)
  refine gl_same 1668 C0 (by decide) dL_1099 ?_
  exact hkk _ H2 _ _ _ _ ⟨dyn, t, Lt, u, Lu, hS2, hk5, hRel1, hRt, hRu, ht, hu⟩ (by omega) (by omega)
theorem gl_case_lot (C0 : lw_At p s m meth c sb L xs) (hF0 : gl_F D cA s) (hI : gl_I D cA s k μX μM H) (hb : cells + 5 ≤ 600000 ∧ slots + 630 ≤ 7302250) (hi : gl_in i L) (hkk : gl_K2 p l e s m below meth c sb D cA i cells slots) : gl_W p l e s m below meth c sb H cells slots 1104 (gl_ls sb s.heap.size i) [] := by
  obtain ⟨dyn, t, Lt, u, Lu, hS, hk5, hRel, hRt, hRu, ht, hu⟩ := hI
  obtain ⟨v, μX1, μM1, q1, q2, hRel1⟩ := pp_c_lot (N := 1000)  (Nat.le_refl _) hRel
  refine gl_aload C0 dL_1104 rfl ?_
  refine gl_callX C0 hF0 hS mt_X11_lot ml_L_149 mv_X11_lot dL_1105 (k_X11_lot q1) rfl rfl (by decide) ⟨by omega, by omega⟩ (Nat.le_of_ble_eq_true rfl) (fun H1 hS1 => ?_)
  refine gl_aload C0 dL_1108 rfl ?_
  refine gl_callM C0 hF0 hS1 mt_X12_lot ml_L_152 mv_X12_lot dL_1109 (k_X12_lot q2) rfl rfl (by decide) ⟨by omega, by omega⟩ (Nat.le_of_ble_eq_true rfl) (fun H2 hS2 => ?_)
  refine gl_same 1668 C0 (by decide) dL_1112 ?_
  exact hkk _ H2 _ _ _ _ ⟨dyn, t, Lt, u, Lu, hS2, hk5, hRel1, hRt, hRu, ht, hu⟩ (by omega) (by omega)
theorem gl_case_times (C0 : lw_At p s m meth c sb L xs) (hF0 : gl_F D cA s) (hI : gl_I D cA s k μX μM H) (hb : cells + 5 ≤ 600000 ∧ slots + 630 ≤ 7302250) (hi : gl_in i L) (hkk : gl_K2 p l e s m below meth c sb D cA i cells slots) : gl_W p l e s m below meth c sb H cells slots 1117 (gl_ls sb s.heap.size i) [] := by
  obtain ⟨dyn, t, Lt, u, Lu, hS, hk5, hRel, hRt, hRu, ht, hu⟩ := hI
  obtain ⟨v, μX1, μM1, q1, q2, hRel1⟩ := pp_c_times (N := 1000) (a := xs (i + 1).toNatClampNeg) (a2 := xs (i + 2).toNatClampNeg) (Nat.le_refl _) hRel
  refine gl_aload C0 dL_1117 rfl ?_
  refine gl_aload C0 dL_1118 rfl ?_
  refine gl_iload C0 dL_1119 rfl ?_
  refine gl_ic1 C0 dL_1120 ?_
  refine gl_iadd C0 dL_1121 ?_
  refine gl_sld C0 hS.2.2.2 hi.2.1 dL_1122 ?_
  refine gl_aload C0 dL_1123 rfl ?_
  refine gl_iload C0 dL_1124 rfl ?_
  refine gl_ic2 C0 dL_1125 ?_
  refine gl_iadd C0 dL_1126 ?_
  refine gl_sld C0 hS.2.2.2 hi.2.2.1 dL_1127 ?_
  refine gl_callX C0 hF0 hS mt_X11_times ml_L_153 mv_X11_times dL_1128 (k_X11_times q1) rfl rfl (by decide) ⟨by omega, by omega⟩ (Nat.le_of_ble_eq_true rfl) (fun H1 hS1 => ?_)
  refine gl_aload C0 dL_1131 rfl ?_
  refine gl_aload C0 dL_1132 rfl ?_
  refine gl_iload C0 dL_1133 rfl ?_
  refine gl_ic1 C0 dL_1134 ?_
  refine gl_iadd C0 dL_1135 ?_
  refine gl_sld C0 hS1.2.2.2 hi.2.1 dL_1136 ?_
  refine gl_aload C0 dL_1137 rfl ?_
  refine gl_iload C0 dL_1138 rfl ?_
  refine gl_ic2 C0 dL_1139 ?_
  refine gl_iadd C0 dL_1140 ?_
  refine gl_sld C0 hS1.2.2.2 hi.2.2.1 dL_1141 ?_
  refine gl_callM C0 hF0 hS1 mt_X12_times ml_L_156 mv_X12_times dL_1142 (k_X12_times q2) rfl rfl (by decide) ⟨by omega, by omega⟩ (Nat.le_of_ble_eq_true rfl) (fun H2 hS2 => ?_)
  refine gl_same 1668 C0 (by decide) dL_1145 ?_
  exact hkk _ H2 _ _ _ _ ⟨dyn, t, Lt, u, Lu, hS2, hk5, hRel1, hRt, hRu, ht, hu⟩ (by omega) (by omega)
theorem gl_case_prove (C0 : lw_At p s m meth c sb L xs) (hF0 : gl_F D cA s) (hI : gl_I D cA s k μX μM H) (hb : cells + 5 ≤ 600000 ∧ slots + 630 ≤ 7302250) (hi : gl_in i L) (hkk : gl_K2 p l e s m below meth c sb D cA i cells slots) : gl_W p l e s m below meth c sb H cells slots 1150 (gl_ls sb s.heap.size i) [] := by
  obtain ⟨dyn, t, Lt, u, Lu, hS, hk5, hRel, hRt, hRu, ht, hu⟩ := hI
  obtain ⟨v, μX1, μM1, q1, q2, hRel1⟩ := pp_c_prove (N := 1000) (a := xs (i + 1).toNatClampNeg) (Nat.le_refl _) hRel
  refine gl_aload C0 dL_1150 rfl ?_
  refine gl_aload C0 dL_1151 rfl ?_
  refine gl_iload C0 dL_1152 rfl ?_
  refine gl_ic1 C0 dL_1153 ?_
  refine gl_iadd C0 dL_1154 ?_
  refine gl_sld C0 hS.2.2.2 hi.2.1 dL_1155 ?_
  refine gl_callX C0 hF0 hS mt_X11_prove ml_L_157 mv_X11_prove dL_1156 (k_X11_prove q1) rfl rfl (by decide) ⟨by omega, by omega⟩ (Nat.le_of_ble_eq_true rfl) (fun H1 hS1 => ?_)
  refine gl_aload C0 dL_1159 rfl ?_
  refine gl_aload C0 dL_1160 rfl ?_
  refine gl_iload C0 dL_1161 rfl ?_
  refine gl_ic1 C0 dL_1162 ?_
  refine gl_iadd C0 dL_1163 ?_
  refine gl_sld C0 hS1.2.2.2 hi.2.1 dL_1164 ?_
  refine gl_callM C0 hF0 hS1 mt_X12_prove ml_L_160 mv_X12_prove dL_1165 (k_X12_prove q2) rfl rfl (by decide) ⟨by omega, by omega⟩ (Nat.le_of_ble_eq_true rfl) (fun H2 hS2 => ?_)
  refine gl_same 1668 C0 (by decide) dL_1168 ?_
  exact hkk _ H2 _ _ _ _ ⟨dyn, t, Lt, u, Lu, hS2, hk5, hRel1, hRt, hRu, ht, hu⟩ (by omega) (by omega)
theorem gl_case_row (C0 : lw_At p s m meth c sb L xs) (hF0 : gl_F D cA s) (hI : gl_I D cA s k μX μM H) (hb : cells + 5 ≤ 600000 ∧ slots + 630 ≤ 7302250) (hi : gl_in i L) (hkk : gl_K2 p l e s m below meth c sb D cA i cells slots) : gl_W p l e s m below meth c sb H cells slots 1173 (gl_ls sb s.heap.size i) [] := by
  obtain ⟨dyn, t, Lt, u, Lu, hS, hk5, hRel, hRt, hRu, ht, hu⟩ := hI
  obtain ⟨v, q1, q2, hRel1⟩ := pp_c_row (a1 := xs (i + 1).toNatClampNeg) (a2 := xs (i + 2).toNatClampNeg) hRel
  refine gl_aload C0 dL_1173 rfl ?_
  refine gl_aload C0 dL_1174 rfl ?_
  refine gl_iload C0 dL_1175 rfl ?_
  refine gl_ic1 C0 dL_1176 ?_
  refine gl_iadd C0 dL_1177 ?_
  refine gl_sld C0 hS.2.2.2 hi.2.1 dL_1178 ?_
  refine gl_aload C0 dL_1179 rfl ?_
  refine gl_iload C0 dL_1180 rfl ?_
  refine gl_ic2 C0 dL_1181 ?_
  refine gl_iadd C0 dL_1182 ?_
  refine gl_sld C0 hS.2.2.2 hi.2.2.1 dL_1183 ?_
  refine gl_callX C0 hF0 hS mt_X11_row ml_L_161 mv_X11_row dL_1184 (k_X11_row q1) rfl rfl (by decide) ⟨by omega, by omega⟩ (Nat.le_of_ble_eq_true rfl) (fun H1 hS1 => ?_)
  refine gl_aload C0 dL_1187 rfl ?_
  refine gl_aload C0 dL_1188 rfl ?_
  refine gl_iload C0 dL_1189 rfl ?_
  refine gl_ic1 C0 dL_1190 ?_
  refine gl_iadd C0 dL_1191 ?_
  refine gl_sld C0 hS1.2.2.2 hi.2.1 dL_1192 ?_
  refine gl_aload C0 dL_1193 rfl ?_
  refine gl_iload C0 dL_1194 rfl ?_
  refine gl_ic2 C0 dL_1195 ?_
  refine gl_iadd C0 dL_1196 ?_
  refine gl_sld C0 hS1.2.2.2 hi.2.2.1 dL_1197 ?_
  refine gl_callM C0 hF0 hS1 mt_X12_row ml_L_164 mv_X12_row dL_1198 (k_X12_row q2) rfl rfl (by decide) ⟨by omega, by omega⟩ (Nat.le_of_ble_eq_true rfl) (fun H2 hS2 => ?_)
  refine gl_same 1668 C0 (by decide) dL_1201 ?_
  exact hkk _ H2 _ _ _ _ ⟨dyn, t, Lt, u, Lu, hS2, hk5, hRel1, hRt, hRu, ht, hu⟩ (by omega) (by omega)
theorem gl_case_alterRow (C0 : lw_At p s m meth c sb L xs) (hF0 : gl_F D cA s) (hI : gl_I D cA s k μX μM H) (hb : cells + 5 ≤ 600000 ∧ slots + 630 ≤ 7302250) (hi : gl_in i L) (hkk : gl_K2 p l e s m below meth c sb D cA i cells slots) : gl_W p l e s m below meth c sb H cells slots 1206 (gl_ls sb s.heap.size i) [] := by
  obtain ⟨dyn, t, Lt, u, Lu, hS, hk5, hRel, hRt, hRu, ht, hu⟩ := hI
  obtain ⟨v, μX1, μM1, q1, q2, hRel1⟩ := pp_c_alterRow (a1 := xs (i + 1).toNatClampNeg) (a2 := xs (i + 2).toNatClampNeg) (a3 := xs (i + 3).toNatClampNeg) hRel
  refine gl_aload C0 dL_1206 rfl ?_
  refine gl_aload C0 dL_1207 rfl ?_
  refine gl_iload C0 dL_1208 rfl ?_
  refine gl_ic1 C0 dL_1209 ?_
  refine gl_iadd C0 dL_1210 ?_
  refine gl_sld C0 hS.2.2.2 hi.2.1 dL_1211 ?_
  refine gl_aload C0 dL_1212 rfl ?_
  refine gl_iload C0 dL_1213 rfl ?_
  refine gl_ic2 C0 dL_1214 ?_
  refine gl_iadd C0 dL_1215 ?_
  refine gl_sld C0 hS.2.2.2 hi.2.2.1 dL_1216 ?_
  refine gl_aload C0 dL_1217 rfl ?_
  refine gl_iload C0 dL_1218 rfl ?_
  refine gl_ic3 C0 dL_1219 ?_
  refine gl_iadd C0 dL_1220 ?_
  refine gl_sld C0 hS.2.2.2 hi.2.2.2.1 dL_1221 ?_
  refine gl_callX C0 hF0 hS mt_X11_alterRow ml_L_165 mv_X11_alterRow dL_1222 (k_X11_alterRow q1) rfl rfl (by decide) ⟨by omega, by omega⟩ (Nat.le_of_ble_eq_true rfl) (fun H1 hS1 => ?_)
  refine gl_aload C0 dL_1225 rfl ?_
  refine gl_aload C0 dL_1226 rfl ?_
  refine gl_iload C0 dL_1227 rfl ?_
  refine gl_ic1 C0 dL_1228 ?_
  refine gl_iadd C0 dL_1229 ?_
  refine gl_sld C0 hS1.2.2.2 hi.2.1 dL_1230 ?_
  refine gl_aload C0 dL_1231 rfl ?_
  refine gl_iload C0 dL_1232 rfl ?_
  refine gl_ic2 C0 dL_1233 ?_
  refine gl_iadd C0 dL_1234 ?_
  refine gl_sld C0 hS1.2.2.2 hi.2.2.1 dL_1235 ?_
  refine gl_aload C0 dL_1236 rfl ?_
  refine gl_iload C0 dL_1237 rfl ?_
  refine gl_ic3 C0 dL_1238 ?_
  refine gl_iadd C0 dL_1239 ?_
  refine gl_sld C0 hS1.2.2.2 hi.2.2.2.1 dL_1240 ?_
  refine gl_callM C0 hF0 hS1 mt_X12_alterRow ml_L_168 mv_X12_alterRow dL_1241 (k_X12_alterRow q2) rfl rfl (by decide) ⟨by omega, by omega⟩ (Nat.le_of_ble_eq_true rfl) (fun H2 hS2 => ?_)
  refine gl_same 1668 C0 (by decide) dL_1244 ?_
  exact hkk _ H2 _ _ _ _ ⟨dyn, t, Lt, u, Lu, hS2, hk5, hRel1, hRt, hRu, ht, hu⟩ (by omega) (by omega)
theorem gl_case_judge (C0 : lw_At p s m meth c sb L xs) (hF0 : gl_F D cA s) (hI : gl_I D cA s k μX μM H) (hb : cells + 5 ≤ 600000 ∧ slots + 630 ≤ 7302250) (hi : gl_in i L) (hkk : gl_K2 p l e s m below meth c sb D cA i cells slots) : gl_W p l e s m below meth c sb H cells slots 1249 (gl_ls sb s.heap.size i) [] := by
  obtain ⟨dyn, t, Lt, u, Lu, hS, hk5, hRel, hRt, hRu, ht, hu⟩ := hI
  obtain ⟨v, μX1, μM1, q1, q2, hRel1⟩ := pp_c_judge (N := 1000)  (Nat.le_refl _) hRel
  refine gl_aload C0 dL_1249 rfl ?_
  refine gl_callX C0 hF0 hS mt_X11_judge ml_L_169 mv_X11_judge dL_1250 (k_X11_judge q1) rfl rfl (by decide) ⟨by omega, by omega⟩ (Nat.le_of_ble_eq_true rfl) (fun H1 hS1 => ?_)
  refine gl_aload C0 dL_1253 rfl ?_
  refine gl_callM C0 hF0 hS1 mt_X12_judge ml_L_172 mv_X12_judge dL_1254 (k_X12_judge q2) rfl rfl (by decide) ⟨by omega, by omega⟩ (Nat.le_of_ble_eq_true rfl) (fun H2 hS2 => ?_)
  refine gl_same 1668 C0 (by decide) dL_1257 ?_
  exact hkk _ H2 _ _ _ _ ⟨dyn, t, Lt, u, Lu, hS2, hk5, hRel1, hRt, hRu, ht, hu⟩ (by omega) (by omega)
theorem gl_case_sheet (C0 : lw_At p s m meth c sb L xs) (hF0 : gl_F D cA s) (hI : gl_I D cA s k μX μM H) (hb : cells + 5 ≤ 600000 ∧ slots + 630 ≤ 7302250) (hi : gl_in i L) (hkk : gl_K2 p l e s m below meth c sb D cA i cells slots) : gl_W p l e s m below meth c sb H cells slots 1262 (gl_ls sb s.heap.size i) [] := by
  obtain ⟨dyn, t, Lt, u, Lu, hS, hk5, hRel, hRt, hRu, ht, hu⟩ := hI
  obtain ⟨v, μX1, μM1, q1, q2, hRel1⟩ := pp_c_sheet (N := 1000) (a1 := xs (i + 1).toNatClampNeg) (a2 := xs (i + 2).toNatClampNeg) (a3 := xs (i + 3).toNatClampNeg) (Nat.le_refl _) hRel
  refine gl_aload C0 dL_1262 rfl ?_
  refine gl_aload C0 dL_1263 rfl ?_
  refine gl_iload C0 dL_1264 rfl ?_
  refine gl_ic1 C0 dL_1265 ?_
  refine gl_iadd C0 dL_1266 ?_
  refine gl_sld C0 hS.2.2.2 hi.2.1 dL_1267 ?_
  refine gl_aload C0 dL_1268 rfl ?_
  refine gl_iload C0 dL_1269 rfl ?_
  refine gl_ic2 C0 dL_1270 ?_
  refine gl_iadd C0 dL_1271 ?_
  refine gl_sld C0 hS.2.2.2 hi.2.2.1 dL_1272 ?_
  refine gl_aload C0 dL_1273 rfl ?_
  refine gl_iload C0 dL_1274 rfl ?_
  refine gl_ic3 C0 dL_1275 ?_
  refine gl_iadd C0 dL_1276 ?_
  refine gl_sld C0 hS.2.2.2 hi.2.2.2.1 dL_1277 ?_
  refine gl_callX C0 hF0 hS mt_X11_sheet ml_L_173 mv_X11_sheet dL_1278 (k_X11_sheet q1) rfl rfl (by decide) ⟨by omega, by omega⟩ (Nat.le_of_ble_eq_true rfl) (fun H1 hS1 => ?_)
  refine gl_aload C0 dL_1281 rfl ?_
  refine gl_aload C0 dL_1282 rfl ?_
  refine gl_iload C0 dL_1283 rfl ?_
  refine gl_ic1 C0 dL_1284 ?_
  refine gl_iadd C0 dL_1285 ?_
  refine gl_sld C0 hS1.2.2.2 hi.2.1 dL_1286 ?_
  refine gl_aload C0 dL_1287 rfl ?_
  refine gl_iload C0 dL_1288 rfl ?_
  refine gl_ic2 C0 dL_1289 ?_
  refine gl_iadd C0 dL_1290 ?_
  refine gl_sld C0 hS1.2.2.2 hi.2.2.1 dL_1291 ?_
  refine gl_aload C0 dL_1292 rfl ?_
  refine gl_iload C0 dL_1293 rfl ?_
  refine gl_ic3 C0 dL_1294 ?_
  refine gl_iadd C0 dL_1295 ?_
  refine gl_sld C0 hS1.2.2.2 hi.2.2.2.1 dL_1296 ?_
  refine gl_callM C0 hF0 hS1 mt_X12_sheet ml_L_176 mv_X12_sheet dL_1297 (k_X12_sheet q2) rfl rfl (by decide) ⟨by omega, by omega⟩ (Nat.le_of_ble_eq_true rfl) (fun H2 hS2 => ?_)
  refine gl_same 1668 C0 (by decide) dL_1300 ?_
  exact hkk _ H2 _ _ _ _ ⟨dyn, t, Lt, u, Lu, hS2, hk5, hRel1, hRt, hRu, ht, hu⟩ (by omega) (by omega)
theorem gl_case_write (C0 : lw_At p s m meth c sb L xs) (hF0 : gl_F D cA s) (hI : gl_I D cA s k μX μM H) (hb : cells + 5 ≤ 600000 ∧ slots + 630 ≤ 7302250) (hi : gl_in i L) (hkk : gl_K2 p l e s m below meth c sb D cA i cells slots) : gl_W p l e s m below meth c sb H cells slots 1305 (gl_ls sb s.heap.size i) [] := by
  obtain ⟨dyn, t, Lt, u, Lu, hS, hk5, hRel, hRt, hRu, ht, hu⟩ := hI
  obtain ⟨v, μX1, μM1, q1, q2, hRel1⟩ := pp_c_write (a1 := xs (i + 1).toNatClampNeg) (a2 := xs (i + 2).toNatClampNeg) (a3 := xs (i + 3).toNatClampNeg) hRel
  refine gl_aload C0 dL_1305 rfl ?_
  refine gl_aload C0 dL_1306 rfl ?_
  refine gl_iload C0 dL_1307 rfl ?_
  refine gl_ic1 C0 dL_1308 ?_
  refine gl_iadd C0 dL_1309 ?_
  refine gl_sld C0 hS.2.2.2 hi.2.1 dL_1310 ?_
  refine gl_aload C0 dL_1311 rfl ?_
  refine gl_iload C0 dL_1312 rfl ?_
  refine gl_ic2 C0 dL_1313 ?_
  refine gl_iadd C0 dL_1314 ?_
  refine gl_sld C0 hS.2.2.2 hi.2.2.1 dL_1315 ?_
  refine gl_aload C0 dL_1316 rfl ?_
  refine gl_iload C0 dL_1317 rfl ?_
  refine gl_ic3 C0 dL_1318 ?_
  refine gl_iadd C0 dL_1319 ?_
  refine gl_sld C0 hS.2.2.2 hi.2.2.2.1 dL_1320 ?_
  refine gl_callX C0 hF0 hS mt_X11_write ml_L_177 mv_X11_write dL_1321 (k_X11_write q1) rfl rfl (by decide) ⟨by omega, by omega⟩ (Nat.le_of_ble_eq_true rfl) (fun H1 hS1 => ?_)
  refine gl_aload C0 dL_1324 rfl ?_
  refine gl_aload C0 dL_1325 rfl ?_
  refine gl_iload C0 dL_1326 rfl ?_
  refine gl_ic1 C0 dL_1327 ?_
  refine gl_iadd C0 dL_1328 ?_
  refine gl_sld C0 hS1.2.2.2 hi.2.1 dL_1329 ?_
  refine gl_aload C0 dL_1330 rfl ?_
  refine gl_iload C0 dL_1331 rfl ?_
  refine gl_ic2 C0 dL_1332 ?_
  refine gl_iadd C0 dL_1333 ?_
  refine gl_sld C0 hS1.2.2.2 hi.2.2.1 dL_1334 ?_
  refine gl_aload C0 dL_1335 rfl ?_
  refine gl_iload C0 dL_1336 rfl ?_
  refine gl_ic3 C0 dL_1337 ?_
  refine gl_iadd C0 dL_1338 ?_
  refine gl_sld C0 hS1.2.2.2 hi.2.2.2.1 dL_1339 ?_
  refine gl_callM C0 hF0 hS1 mt_X12_write ml_L_180 mv_X12_write dL_1340 (k_X12_write q2) rfl rfl (by decide) ⟨by omega, by omega⟩ (Nat.le_of_ble_eq_true rfl) (fun H2 hS2 => ?_)
  refine gl_same 1668 C0 (by decide) dL_1343 ?_
  exact hkk _ H2 _ _ _ _ ⟨dyn, t, Lt, u, Lu, hS2, hk5, hRel1, hRt, hRu, ht, hu⟩ (by omega) (by omega)
theorem gl_case_item (C0 : lw_At p s m meth c sb L xs) (hF0 : gl_F D cA s) (hI : gl_I D cA s k μX μM H) (hb : cells + 5 ≤ 600000 ∧ slots + 630 ≤ 7302250) (hi : gl_in i L) (hkk : gl_K2 p l e s m below meth c sb D cA i cells slots) : gl_W p l e s m below meth c sb H cells slots 1348 (gl_ls sb s.heap.size i) [] := by
  obtain ⟨dyn, t, Lt, u, Lu, hS, hk5, hRel, hRt, hRu, ht, hu⟩ := hI
  obtain ⟨v, q1, q2, hRel1⟩ := pp_c_item (a1 := xs (i + 1).toNatClampNeg) (a2 := xs (i + 2).toNatClampNeg) (a3 := xs (i + 3).toNatClampNeg) hRel
  refine gl_aload C0 dL_1348 rfl ?_
  refine gl_aload C0 dL_1349 rfl ?_
  refine gl_iload C0 dL_1350 rfl ?_
  refine gl_ic1 C0 dL_1351 ?_
  refine gl_iadd C0 dL_1352 ?_
  refine gl_sld C0 hS.2.2.2 hi.2.1 dL_1353 ?_
  refine gl_aload C0 dL_1354 rfl ?_
  refine gl_iload C0 dL_1355 rfl ?_
  refine gl_ic2 C0 dL_1356 ?_
  refine gl_iadd C0 dL_1357 ?_
  refine gl_sld C0 hS.2.2.2 hi.2.2.1 dL_1358 ?_
  refine gl_aload C0 dL_1359 rfl ?_
  refine gl_iload C0 dL_1360 rfl ?_
  refine gl_ic3 C0 dL_1361 ?_
  refine gl_iadd C0 dL_1362 ?_
  refine gl_sld C0 hS.2.2.2 hi.2.2.2.1 dL_1363 ?_
  refine gl_callX C0 hF0 hS mt_X11_item ml_L_181 mv_X11_item dL_1364 (k_X11_item q1) rfl rfl (by decide) ⟨by omega, by omega⟩ (Nat.le_of_ble_eq_true rfl) (fun H1 hS1 => ?_)
  refine gl_aload C0 dL_1367 rfl ?_
  refine gl_aload C0 dL_1368 rfl ?_
  refine gl_iload C0 dL_1369 rfl ?_
  refine gl_ic1 C0 dL_1370 ?_
  refine gl_iadd C0 dL_1371 ?_
  refine gl_sld C0 hS1.2.2.2 hi.2.1 dL_1372 ?_
  refine gl_aload C0 dL_1373 rfl ?_
  refine gl_iload C0 dL_1374 rfl ?_
  refine gl_ic2 C0 dL_1375 ?_
  refine gl_iadd C0 dL_1376 ?_
  refine gl_sld C0 hS1.2.2.2 hi.2.2.1 dL_1377 ?_
  refine gl_aload C0 dL_1378 rfl ?_
  refine gl_iload C0 dL_1379 rfl ?_
  refine gl_ic3 C0 dL_1380 ?_
  refine gl_iadd C0 dL_1381 ?_
  refine gl_sld C0 hS1.2.2.2 hi.2.2.2.1 dL_1382 ?_
  refine gl_callM C0 hF0 hS1 mt_X12_item ml_L_184 mv_X12_item dL_1383 (k_X12_item q2) rfl rfl (by decide) ⟨by omega, by omega⟩ (Nat.le_of_ble_eq_true rfl) (fun H2 hS2 => ?_)
  refine gl_same 1668 C0 (by decide) dL_1386 ?_
  exact hkk _ H2 _ _ _ _ ⟨dyn, t, Lt, u, Lu, hS2, hk5, hRel1, hRt, hRu, ht, hu⟩ (by omega) (by omega)
theorem gl_case_goAll (C0 : lw_At p s m meth c sb L xs) (hF0 : gl_F D cA s) (hI : gl_I D cA s k μX μM H) (hb : cells + 5 ≤ 600000 ∧ slots + 630 ≤ 7302250) (hi : gl_in i L) (hkk : gl_K2 p l e s m below meth c sb D cA i cells slots) : gl_W p l e s m below meth c sb H cells slots 1391 (gl_ls sb s.heap.size i) [] := by
  obtain ⟨dyn, t, Lt, u, Lu, hS, hk5, hRel, hRt, hRu, ht, hu⟩ := hI
  obtain ⟨v, μX1, μM1, q1, q2, hRel1⟩ := pp_c_goAll (N := 1000) (a1 := xs (i + 1).toNatClampNeg) (a2 := xs (i + 2).toNatClampNeg) (a3 := xs (i + 3).toNatClampNeg) (Nat.le_refl _) hRel
  refine gl_aload C0 dL_1391 rfl ?_
  refine gl_aload C0 dL_1392 rfl ?_
  refine gl_iload C0 dL_1393 rfl ?_
  refine gl_ic1 C0 dL_1394 ?_
  refine gl_iadd C0 dL_1395 ?_
  refine gl_sld C0 hS.2.2.2 hi.2.1 dL_1396 ?_
  refine gl_aload C0 dL_1397 rfl ?_
  refine gl_iload C0 dL_1398 rfl ?_
  refine gl_ic2 C0 dL_1399 ?_
  refine gl_iadd C0 dL_1400 ?_
  refine gl_sld C0 hS.2.2.2 hi.2.2.1 dL_1401 ?_
  refine gl_aload C0 dL_1402 rfl ?_
  refine gl_iload C0 dL_1403 rfl ?_
  refine gl_ic3 C0 dL_1404 ?_
  refine gl_iadd C0 dL_1405 ?_
  refine gl_sld C0 hS.2.2.2 hi.2.2.2.1 dL_1406 ?_
  refine gl_callX C0 hF0 hS mt_X11_goAll ml_L_185 mv_X11_goAll dL_1407 (k_X11_goAll q1) rfl rfl (by decide) ⟨by omega, by omega⟩ (Nat.le_of_ble_eq_true rfl) (fun H1 hS1 => ?_)
  refine gl_aload C0 dL_1410 rfl ?_
  refine gl_aload C0 dL_1411 rfl ?_
  refine gl_iload C0 dL_1412 rfl ?_
  refine gl_ic1 C0 dL_1413 ?_
  refine gl_iadd C0 dL_1414 ?_
  refine gl_sld C0 hS1.2.2.2 hi.2.1 dL_1415 ?_
  refine gl_aload C0 dL_1416 rfl ?_
  refine gl_iload C0 dL_1417 rfl ?_
  refine gl_ic2 C0 dL_1418 ?_
  refine gl_iadd C0 dL_1419 ?_
  refine gl_sld C0 hS1.2.2.2 hi.2.2.1 dL_1420 ?_
  refine gl_aload C0 dL_1421 rfl ?_
  refine gl_iload C0 dL_1422 rfl ?_
  refine gl_ic3 C0 dL_1423 ?_
  refine gl_iadd C0 dL_1424 ?_
  refine gl_sld C0 hS1.2.2.2 hi.2.2.2.1 dL_1425 ?_
  refine gl_callM C0 hF0 hS1 mt_X12_goAll ml_L_188 mv_X12_goAll dL_1426 (k_X12_goAll q2) rfl rfl (by decide) ⟨by omega, by omega⟩ (Nat.le_of_ble_eq_true rfl) (fun H2 hS2 => ?_)
  refine gl_same 1668 C0 (by decide) dL_1429 ?_
  exact hkk _ H2 _ _ _ _ ⟨dyn, t, Lt, u, Lu, hS2, hk5, hRel1, hRt, hRu, ht, hu⟩ (by omega) (by omega)
theorem gl_case_wouldBe (C0 : lw_At p s m meth c sb L xs) (hF0 : gl_F D cA s) (hI : gl_I D cA s k μX μM H) (hb : cells + 5 ≤ 600000 ∧ slots + 630 ≤ 7302250) (hi : gl_in i L) (hkk : gl_K2 p l e s m below meth c sb D cA i cells slots) : gl_W p l e s m below meth c sb H cells slots 1434 (gl_ls sb s.heap.size i) [] := by
  obtain ⟨dyn, t, Lt, u, Lu, hS, hk5, hRel, hRt, hRu, ht, hu⟩ := hI
  obtain ⟨v, μX1, μM1, q1, q2, hRel1⟩ := pp_c_wouldBe (N := 1000) (a1 := xs (i + 1).toNatClampNeg) (a2 := xs (i + 2).toNatClampNeg) (a3 := xs (i + 3).toNatClampNeg) (Nat.le_refl _) hRel
  refine gl_aload C0 dL_1434 rfl ?_
  refine gl_aload C0 dL_1435 rfl ?_
  refine gl_iload C0 dL_1436 rfl ?_
  refine gl_ic1 C0 dL_1437 ?_
  refine gl_iadd C0 dL_1438 ?_
  refine gl_sld C0 hS.2.2.2 hi.2.1 dL_1439 ?_
  refine gl_aload C0 dL_1440 rfl ?_
  refine gl_iload C0 dL_1441 rfl ?_
  refine gl_ic2 C0 dL_1442 ?_
  refine gl_iadd C0 dL_1443 ?_
  refine gl_sld C0 hS.2.2.2 hi.2.2.1 dL_1444 ?_
  refine gl_aload C0 dL_1445 rfl ?_
  refine gl_iload C0 dL_1446 rfl ?_
  refine gl_ic3 C0 dL_1447 ?_
  refine gl_iadd C0 dL_1448 ?_
  refine gl_sld C0 hS.2.2.2 hi.2.2.2.1 dL_1449 ?_
  refine gl_callX C0 hF0 hS mt_X11_wouldBe ml_L_189 mv_X11_wouldBe dL_1450 (k_X11_wouldBe q1) rfl rfl (by decide) ⟨by omega, by omega⟩ (Nat.le_of_ble_eq_true rfl) (fun H1 hS1 => ?_)
  refine gl_aload C0 dL_1453 rfl ?_
  refine gl_aload C0 dL_1454 rfl ?_
  refine gl_iload C0 dL_1455 rfl ?_
  refine gl_ic1 C0 dL_1456 ?_
  refine gl_iadd C0 dL_1457 ?_
  refine gl_sld C0 hS1.2.2.2 hi.2.1 dL_1458 ?_
  refine gl_aload C0 dL_1459 rfl ?_
  refine gl_iload C0 dL_1460 rfl ?_
  refine gl_ic2 C0 dL_1461 ?_
  refine gl_iadd C0 dL_1462 ?_
  refine gl_sld C0 hS1.2.2.2 hi.2.2.1 dL_1463 ?_
  refine gl_aload C0 dL_1464 rfl ?_
  refine gl_iload C0 dL_1465 rfl ?_
  refine gl_ic3 C0 dL_1466 ?_
  refine gl_iadd C0 dL_1467 ?_
  refine gl_sld C0 hS1.2.2.2 hi.2.2.2.1 dL_1468 ?_
  refine gl_callM C0 hF0 hS1 mt_X12_wouldBe ml_L_192 mv_X12_wouldBe dL_1469 (k_X12_wouldBe q2) rfl rfl (by decide) ⟨by omega, by omega⟩ (Nat.le_of_ble_eq_true rfl) (fun H2 hS2 => ?_)
  refine gl_same 1668 C0 (by decide) dL_1472 ?_
  exact hkk _ H2 _ _ _ _ ⟨dyn, t, Lt, u, Lu, hS2, hk5, hRel1, hRt, hRu, ht, hu⟩ (by omega) (by omega)
theorem gl_case_shelf (C0 : lw_At p s m meth c sb L xs) (hF0 : gl_F D cA s) (hI : gl_I D cA s k μX μM H) (hb : cells + 5 ≤ 600000 ∧ slots + 630 ≤ 7302250) (hi : gl_in i L) (hkk : gl_K2 p l e s m below meth c sb D cA i cells slots) : gl_W p l e s m below meth c sb H cells slots 1477 (gl_ls sb s.heap.size i) [] := by
  obtain ⟨dyn, t, Lt, u, Lu, hS, hk5, hRel, hRt, hRu, ht, hu⟩ := hI
  obtain ⟨v, μX1, μM1, q1, q2, hRel1⟩ := pp_c_shelf (a1 := xs (i + 1).toNatClampNeg) (a2 := xs (i + 2).toNatClampNeg) (a3 := xs (i + 3).toNatClampNeg) hRel
  refine gl_aload C0 dL_1477 rfl ?_
  refine gl_aload C0 dL_1478 rfl ?_
  refine gl_iload C0 dL_1479 rfl ?_
  refine gl_ic1 C0 dL_1480 ?_
  refine gl_iadd C0 dL_1481 ?_
  refine gl_sld C0 hS.2.2.2 hi.2.1 dL_1482 ?_
  refine gl_aload C0 dL_1483 rfl ?_
  refine gl_iload C0 dL_1484 rfl ?_
  refine gl_ic2 C0 dL_1485 ?_
  refine gl_iadd C0 dL_1486 ?_
  refine gl_sld C0 hS.2.2.2 hi.2.2.1 dL_1487 ?_
  refine gl_aload C0 dL_1488 rfl ?_
  refine gl_iload C0 dL_1489 rfl ?_
  refine gl_ic3 C0 dL_1490 ?_
  refine gl_iadd C0 dL_1491 ?_
  refine gl_sld C0 hS.2.2.2 hi.2.2.2.1 dL_1492 ?_
  refine gl_callX C0 hF0 hS mt_X11_shelf ml_L_193 mv_X11_shelf dL_1493 (k_X11_shelf q1) rfl rfl (by decide) ⟨by omega, by omega⟩ (Nat.le_of_ble_eq_true rfl) (fun H1 hS1 => ?_)
  refine gl_aload C0 dL_1496 rfl ?_
  refine gl_aload C0 dL_1497 rfl ?_
  refine gl_iload C0 dL_1498 rfl ?_
  refine gl_ic1 C0 dL_1499 ?_
  refine gl_iadd C0 dL_1500 ?_
  refine gl_sld C0 hS1.2.2.2 hi.2.1 dL_1501 ?_
  refine gl_aload C0 dL_1502 rfl ?_
  refine gl_iload C0 dL_1503 rfl ?_
  refine gl_ic2 C0 dL_1504 ?_
  refine gl_iadd C0 dL_1505 ?_
  refine gl_sld C0 hS1.2.2.2 hi.2.2.1 dL_1506 ?_
  refine gl_aload C0 dL_1507 rfl ?_
  refine gl_iload C0 dL_1508 rfl ?_
  refine gl_ic3 C0 dL_1509 ?_
  refine gl_iadd C0 dL_1510 ?_
  refine gl_sld C0 hS1.2.2.2 hi.2.2.2.1 dL_1511 ?_
  refine gl_callM C0 hF0 hS1 mt_X12_shelf ml_L_196 mv_X12_shelf dL_1512 (k_X12_shelf q2) rfl rfl (by decide) ⟨by omega, by omega⟩ (Nat.le_of_ble_eq_true rfl) (fun H2 hS2 => ?_)
  refine gl_same 1668 C0 (by decide) dL_1515 ?_
  exact hkk _ H2 _ _ _ _ ⟨dyn, t, Lt, u, Lu, hS2, hk5, hRel1, hRt, hRu, ht, hu⟩ (by omega) (by omega)
theorem gl_case_taken (C0 : lw_At p s m meth c sb L xs) (hF0 : gl_F D cA s) (hI : gl_I D cA s k μX μM H) (hb : cells + 5 ≤ 600000 ∧ slots + 630 ≤ 7302250) (hi : gl_in i L) (hkk : gl_K2 p l e s m below meth c sb D cA i cells slots) : gl_W p l e s m below meth c sb H cells slots 1520 (gl_ls sb s.heap.size i) [] := by
  obtain ⟨dyn, t, Lt, u, Lu, hS, hk5, hRel, hRt, hRu, ht, hu⟩ := hI
  obtain ⟨v, q1, q2, hRel1⟩ := pp_c_taken (a1 := xs (i + 1).toNatClampNeg) (a2 := xs (i + 2).toNatClampNeg) hRel
  refine gl_aload C0 dL_1520 rfl ?_
  refine gl_aload C0 dL_1521 rfl ?_
  refine gl_iload C0 dL_1522 rfl ?_
  refine gl_ic1 C0 dL_1523 ?_
  refine gl_iadd C0 dL_1524 ?_
  refine gl_sld C0 hS.2.2.2 hi.2.1 dL_1525 ?_
  refine gl_aload C0 dL_1526 rfl ?_
  refine gl_iload C0 dL_1527 rfl ?_
  refine gl_ic2 C0 dL_1528 ?_
  refine gl_iadd C0 dL_1529 ?_
  refine gl_sld C0 hS.2.2.2 hi.2.2.1 dL_1530 ?_
  refine gl_callX C0 hF0 hS mt_X11_taken ml_L_197 mv_X11_taken dL_1531 (k_X11_taken q1) rfl rfl (by decide) ⟨by omega, by omega⟩ (Nat.le_of_ble_eq_true rfl) (fun H1 hS1 => ?_)
  refine gl_aload C0 dL_1534 rfl ?_
  refine gl_aload C0 dL_1535 rfl ?_
  refine gl_iload C0 dL_1536 rfl ?_
  refine gl_ic1 C0 dL_1537 ?_
  refine gl_iadd C0 dL_1538 ?_
  refine gl_sld C0 hS1.2.2.2 hi.2.1 dL_1539 ?_
  refine gl_aload C0 dL_1540 rfl ?_
  refine gl_iload C0 dL_1541 rfl ?_
  refine gl_ic2 C0 dL_1542 ?_
  refine gl_iadd C0 dL_1543 ?_
  refine gl_sld C0 hS1.2.2.2 hi.2.2.1 dL_1544 ?_
  refine gl_callM C0 hF0 hS1 mt_X12_taken ml_L_200 mv_X12_taken dL_1545 (k_X12_taken q2) rfl rfl (by decide) ⟨by omega, by omega⟩ (Nat.le_of_ble_eq_true rfl) (fun H2 hS2 => ?_)
  refine gl_same 1668 C0 (by decide) dL_1548 ?_
  exact hkk _ H2 _ _ _ _ ⟨dyn, t, Lt, u, Lu, hS2, hk5, hRel1, hRt, hRu, ht, hu⟩ (by omega) (by omega)
theorem gl_case_act (C0 : lw_At p s m meth c sb L xs) (hF0 : gl_F D cA s) (hI : gl_I D cA s k μX μM H) (hb : cells + 5 ≤ 600000 ∧ slots + 630 ≤ 7302250) (hi : gl_in i L) (hkk : gl_K2 p l e s m below meth c sb D cA i cells slots) : gl_W p l e s m below meth c sb H cells slots 1553 (gl_ls sb s.heap.size i) [] := by
  obtain ⟨dyn, t, Lt, u, Lu, hS, hk5, hRel, hRt, hRu, ht, hu⟩ := hI
  obtain ⟨v, μX1, μM1, q1, q2, hRel1⟩ := pp_c_act (a1 := xs (i + 1).toNatClampNeg) (a2 := xs (i + 2).toNatClampNeg) (a3 := xs (i + 3).toNatClampNeg) hRel
  refine gl_aload C0 dL_1553 rfl ?_
  refine gl_aload C0 dL_1554 rfl ?_
  refine gl_iload C0 dL_1555 rfl ?_
  refine gl_ic1 C0 dL_1556 ?_
  refine gl_iadd C0 dL_1557 ?_
  refine gl_sld C0 hS.2.2.2 hi.2.1 dL_1558 ?_
  refine gl_aload C0 dL_1559 rfl ?_
  refine gl_iload C0 dL_1560 rfl ?_
  refine gl_ic2 C0 dL_1561 ?_
  refine gl_iadd C0 dL_1562 ?_
  refine gl_sld C0 hS.2.2.2 hi.2.2.1 dL_1563 ?_
  refine gl_aload C0 dL_1564 rfl ?_
  refine gl_iload C0 dL_1565 rfl ?_
  refine gl_ic3 C0 dL_1566 ?_
  refine gl_iadd C0 dL_1567 ?_
  refine gl_sld C0 hS.2.2.2 hi.2.2.2.1 dL_1568 ?_
  refine gl_callX C0 hF0 hS mt_X11_act ml_L_201 mv_X11_act dL_1569 (k_X11_act q1) rfl rfl (by decide) ⟨by omega, by omega⟩ (Nat.le_of_ble_eq_true rfl) (fun H1 hS1 => ?_)
  refine gl_aload C0 dL_1572 rfl ?_
  refine gl_aload C0 dL_1573 rfl ?_
  refine gl_iload C0 dL_1574 rfl ?_
  refine gl_ic1 C0 dL_1575 ?_
  refine gl_iadd C0 dL_1576 ?_
  refine gl_sld C0 hS1.2.2.2 hi.2.1 dL_1577 ?_
  refine gl_aload C0 dL_1578 rfl ?_
  refine gl_iload C0 dL_1579 rfl ?_
  refine gl_ic2 C0 dL_1580 ?_
  refine gl_iadd C0 dL_1581 ?_
  refine gl_sld C0 hS1.2.2.2 hi.2.2.1 dL_1582 ?_
  refine gl_aload C0 dL_1583 rfl ?_
  refine gl_iload C0 dL_1584 rfl ?_
  refine gl_ic3 C0 dL_1585 ?_
  refine gl_iadd C0 dL_1586 ?_
  refine gl_sld C0 hS1.2.2.2 hi.2.2.2.1 dL_1587 ?_
  refine gl_callM C0 hF0 hS1 mt_X12_act ml_L_204 mv_X12_act dL_1588 (k_X12_act q2) rfl rfl (by decide) ⟨by omega, by omega⟩ (Nat.le_of_ble_eq_true rfl) (fun H2 hS2 => ?_)
  refine gl_same 1668 C0 (by decide) dL_1591 ?_
  exact hkk _ H2 _ _ _ _ ⟨dyn, t, Lt, u, Lu, hS2, hk5, hRel1, hRt, hRu, ht, hu⟩ (by omega) (by omega)
theorem gl_case_trace (C0 : lw_At p s m meth c sb L xs) (hF0 : gl_F D cA s) (hI : gl_I D cA s k μX μM H) (hb : cells + 5 ≤ 600000 ∧ slots + 630 ≤ 7302250) (hi : gl_in i L) (hkk : gl_K2 p l e s m below meth c sb D cA i cells slots) : gl_W p l e s m below meth c sb H cells slots 1596 (gl_ls sb s.heap.size i) [] := by
  obtain ⟨dyn, t, Lt, u, Lu, hS, hk5, hRel, hRt, hRu, ht, hu⟩ := hI
  obtain ⟨v, q1, q2, hRel1⟩ := pp_c_trace (a := xs (i + 1).toNatClampNeg) hRel
  refine gl_aload C0 dL_1596 rfl ?_
  refine gl_aload C0 dL_1597 rfl ?_
  refine gl_iload C0 dL_1598 rfl ?_
  refine gl_ic1 C0 dL_1599 ?_
  refine gl_iadd C0 dL_1600 ?_
  refine gl_sld C0 hS.2.2.2 hi.2.1 dL_1601 ?_
  refine gl_callX C0 hF0 hS mt_X11_trace ml_L_205 mv_X11_trace dL_1602 (k_X11_trace q1) rfl rfl (by decide) ⟨by omega, by omega⟩ (Nat.le_of_ble_eq_true rfl) (fun H1 hS1 => ?_)
  refine gl_aload C0 dL_1605 rfl ?_
  refine gl_aload C0 dL_1606 rfl ?_
  refine gl_iload C0 dL_1607 rfl ?_
  refine gl_ic1 C0 dL_1608 ?_
  refine gl_iadd C0 dL_1609 ?_
  refine gl_sld C0 hS1.2.2.2 hi.2.1 dL_1610 ?_
  refine gl_callM C0 hF0 hS1 mt_X12_trace ml_L_208 mv_X12_trace dL_1611 (k_X12_trace q2) rfl rfl (by decide) ⟨by omega, by omega⟩ (Nat.le_of_ble_eq_true rfl) (fun H2 hS2 => ?_)
  refine gl_same 1668 C0 (by decide) dL_1614 ?_
  exact hkk _ H2 _ _ _ _ ⟨dyn, t, Lt, u, Lu, hS2, hk5, hRel1, hRt, hRu, ht, hu⟩ (by omega) (by omega)
theorem gl_case_many (C0 : lw_At p s m meth c sb L xs) (hF0 : gl_F D cA s) (hI : gl_I D cA s k μX μM H) (hb : cells + 5 ≤ 600000 ∧ slots + 630 ≤ 7302250) (hi : gl_in i L) (hkk : gl_K2 p l e s m below meth c sb D cA i cells slots) : gl_W p l e s m below meth c sb H cells slots 1619 (gl_ls sb s.heap.size i) [] := by
  obtain ⟨dyn, t, Lt, u, Lu, hS, hk5, hRel, hRt, hRu, ht, hu⟩ := hI
  obtain ⟨v, q1, q2, hRel1⟩ := pp_c_many (N := 1000) (a := xs (i + 1).toNatClampNeg) (Nat.le_refl _) hRel
  refine gl_aload C0 dL_1619 rfl ?_
  refine gl_aload C0 dL_1620 rfl ?_
  refine gl_iload C0 dL_1621 rfl ?_
  refine gl_ic1 C0 dL_1622 ?_
  refine gl_iadd C0 dL_1623 ?_
  refine gl_sld C0 hS.2.2.2 hi.2.1 dL_1624 ?_
  refine gl_callX C0 hF0 hS mt_X11_many ml_L_209 mv_X11_many dL_1625 (k_X11_many hRt q1) rfl rfl (by decide) ⟨by omega, by omega⟩ (Nat.le_of_ble_eq_true rfl) (fun H1 hS1 => ?_)
  refine gl_aload C0 dL_1628 rfl ?_
  refine gl_aload C0 dL_1629 rfl ?_
  refine gl_iload C0 dL_1630 rfl ?_
  refine gl_ic1 C0 dL_1631 ?_
  refine gl_iadd C0 dL_1632 ?_
  refine gl_sld C0 hS1.2.2.2 hi.2.1 dL_1633 ?_
  refine gl_callM C0 hF0 hS1 mt_X12_many ml_L_212 mv_X12_many dL_1634 (k_X12_many q2) rfl rfl (by decide) ⟨by omega, by omega⟩ (Nat.le_of_ble_eq_true rfl) (fun H2 hS2 => ?_)
  refine gl_same 1668 C0 (by decide) dL_1637 ?_
  exact hkk _ H2 _ _ _ _ ⟨dyn, t, Lt, u, Lu, hS2, hk5, hRel1, hRt, hRu, ht, hu⟩ (by omega) (by omega)
theorem gl_case_keep (C0 : lw_At p s m meth c sb L xs) (hF0 : gl_F D cA s) (hI : gl_I D cA s k μX μM H) (hb : cells + 5 ≤ 600000 ∧ slots + 630 ≤ 7302250) (hi : gl_in i L) (hkk : gl_K2 p l e s m below meth c sb D cA i cells slots) : gl_W p l e s m below meth c sb H cells slots 1642 (gl_ls sb s.heap.size i) [] := by
  obtain ⟨dyn, t, Lt, u, Lu, hS, hk5, hRel, hRt, hRu, ht, hu⟩ := hI
  obtain ⟨μM1, q2, hRel1⟩ := pp_c_keep (N := 1000) (Nat.le_refl _) hRel
  refine gl_aload C0 dL_1642 rfl ?_
  refine gl_callX C0 hF0 hS mt_X11_keep ml_L_213 mv_X11_keep dL_1643 (k_X11_keep) rfl rfl (by decide) ⟨by omega, by omega⟩ (Nat.le_of_ble_eq_true rfl) (fun H1 hS1 => ?_)
  refine gl_aload C0 dL_1646 rfl ?_
  refine gl_callM C0 hF0 hS1 mt_X12_keep ml_L_216 mv_X12_keep dL_1647 (k_X12_keep q2) rfl rfl (by decide) ⟨by omega, by omega⟩ (Nat.le_of_ble_eq_true rfl) (fun H2 hS2 => ?_)
  refine gl_same 1668 C0 (by decide) dL_1650 ?_
  exact hkk _ H2 _ _ _ _ ⟨dyn, t, Lt, t, Lt, hS2, hk5, hRel1, g_RO_rf hRt, g_RO_rf hRt, ht, ht⟩ (by omega) (by omega)
theorem gl_case_again (C0 : lw_At p s m meth c sb L xs) (hF0 : gl_F D cA s) (hI : gl_I D cA s k μX μM H) (hb : cells + 5 ≤ 600000 ∧ slots + 630 ≤ 7302250) (hi : gl_in i L) (hkk : gl_K2 p l e s m below meth c sb D cA i cells slots) : gl_W p l e s m below meth c sb H cells slots 1655 (gl_ls sb s.heap.size i) [] := by
  obtain ⟨dyn, t, Lt, u, Lu, hS, hk5, hRel, hRt, hRu, ht, hu⟩ := hI
  rcases pp_c_again (N := 1000) (Nat.le_refl _) hRel with ⟨h0, q2⟩ | ⟨h0, v, μM1, q2, e1, hRel1⟩
  · refine gl_aload C0 dL_1655 rfl ?_
    refine gl_callX C0 hF0 hS mt_X11_again ml_L_217 mv_X11_again dL_1656 (k_X11_again0 h0) rfl rfl (by decide) ⟨by omega, by omega⟩ (Nat.le_of_ble_eq_true rfl) (fun H1 hS1 => ?_)
    refine gl_aload C0 dL_1659 rfl ?_
    refine gl_callM C0 hF0 hS1 mt_X12_again ml_L_220 mv_X12_again dL_1660 (k_X12_again q2) rfl rfl (by decide) ⟨by omega, by omega⟩ (Nat.le_of_ble_eq_true rfl) (fun H2 hS2 => ?_)
    refine gl_same 1668 C0 (by decide) dL_1663 ?_
    exact hkk _ H2 _ _ _ _ ⟨dyn, t, Lt, u, Lu, hS2, hk5, hRel, hRt, hRu, ht, hu⟩ (by omega) (by omega)
  · subst e1
    refine gl_aload C0 dL_1655 rfl ?_
    refine gl_callX C0 hF0 hS mt_X11_again ml_L_217 mv_X11_again dL_1656 (k_X11_again1 h0) rfl rfl (by decide) ⟨by omega, by omega⟩ (Nat.le_of_ble_eq_true rfl) (fun H1 hS1 => ?_)
    refine gl_aload C0 dL_1659 rfl ?_
    refine gl_callM C0 hF0 hS1 mt_X12_again ml_L_220 mv_X12_again dL_1660 (k_X12_again q2) rfl rfl (by decide) ⟨by omega, by omega⟩ (Nat.le_of_ble_eq_true rfl) (fun H2 hS2 => ?_)
    refine gl_same 1668 C0 (by decide) dL_1663 ?_
    exact hkk _ H2 _ _ _ _ ⟨dyn, u, Lu, u, Lu, hS2, hk5, hRel1, g_RO_rf hRu, g_RO_rf hRu, hu, hu⟩ (by omega) (by omega)
end GC
