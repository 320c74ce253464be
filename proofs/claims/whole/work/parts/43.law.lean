section LAWC
variable {p : Program} {l : Launch} {e : Env} {s : State} {m : MethodId} {args : Array Value} {below : List Frame} {meth : Method} {c : Code} {H : Heap} {locs : List Loc} {cells slots : Nat} {Q : State → Prop} {G : GT} {x : XS} {ls : Array Slot} {rest : List Value} {b L i pc : Nat} {xs : Nat → Int32}
def LJ (G : GT) (s : State) (b L : Nat) (xs : Nat → Int32) : Prop := va_X b L xs s G.2.1 ∧ b < G.1
abbrev lvL (G : GT) (b i : Nat) : List (Nat × Value) := [(3, .int (nI i)), (2, .ref (G.1 + 99)), (1, .ref (G.1 + 0)), (0, .ref b)]
theorem SR.vaS {R : Room} (C : CX G p s m args meth c cL_law 4 (some .boolean) RL) (hS : SR G x H locs) : va_S (AB G) G.2.1 H locs := by
  have hz : G.2.1.size = G.1 := C.2.2.2.2.2.2.2.2.2
  exact ⟨by rw [hz, hS.1.1]; omega, SR.old C hS, hS.2⟩
theorem rdS (C : CX G p s m args meth c cL_law 4 (some .boolean) RL) (hS : SR G x H locs) (hJ : LJ G s b L xs) (hl : lv_has ls 4 (lvL G b i)) {j : Nat} (hj : j < L) (hL : L ≤ 3072) (d4 : decode cL_law pc = .ok (.iaload, 1))
    (kk : W p l e room_1 s m args below meth c H locs cells slots Q (F0 m (pc + 1) ls (.int (xs j) :: rest))) : W p l e room_1 s m args below meth c H locs cells slots Q (F0 m pc ls (.int (nI j) :: .ref b :: rest)) := by
  have hz : G.2.1.size = G.1 := C.2.2.2.2.2.2.2.2.2
  refine va_sld C.1 C.2.1 hJ.1 (by rw [hz]; exact hJ.2) (A := AB G) (fun h => Nat.lt_irrefl _ (Nat.lt_of_lt_of_le hJ.2 h)) (hS.vaS (R := room_1) C) (nI_in hj (by omega)) d4 ?_
  rw [nI_clamp (by omega)]
  exact kk
theorem rdA (C : CX G p s m args meth c cL_law 4 (some .boolean) RL) (hS : SR G x H locs) (hJ : LJ G s b L xs) (hl : lv_has ls 4 (lvL G b i)) {k : Nat} (hk : i + k < L) (hL : L ≤ 3072) {nk : Int} (hnk : Int32.ofInt nk = nI k) (d0 : decode cL_law pc = .ok (.aload_n 0, 1)) (d1 : decode cL_law (pc + 1) = .ok (.iload_n 3, 1)) (d2 : decode cL_law (pc + 2) = .ok (.iconst nk, 1)) (d3 : decode cL_law (pc + 3) = .ok (.iadd, 1)) (d4 : decode cL_law (pc + 4) = .ok (.iaload, 1))
    (kk : W p l e room_1 s m args below meth c H locs cells slots Q (F0 m (pc + 5) ls (.int (xs (i + k)) :: rest))) : W p l e room_1 s m args below meth c H locs cells slots Q (F0 m pc ls rest) := by
  have hx := C.1
  have hb := C.2.1
  refine lv_aload_n hx hb d0 rfl (lv_at hl 3 rfl) ?_
  refine lv_iload_n hx hb d1 rfl (lv_at hl 0 rfl) ?_
  refine lv_iconst (v := nI k) hx hb d2 hnk ?_
  refine lv_iadd hx hb d3 ?_
  rw [nI_add]
  exact rdS C hS hJ hl hk hL d4 kk
set_option maxRecDepth 100000 in
set_option maxHeartbeats 4000000 in
theorem lc_0 (C : CX G p s m args meth c cL_law 4 (some .boolean) RL) (hS : SR G x H locs) (hJ : LJ G s b L xs) (hl : lv_has ls 4 (lvL G b i)) (hi : i + 6 ≤ L) (hL : L ≤ 3072) (hcs : cells ≤ room_1.cells ∧ slots ≤ room_1.slots) (hC : CI x x)
    (kk : ∀ (H1 : Heap) (locs1 : List Loc) (x1 : XS), SR G x1 H1 locs1 → CI x1 x1 → W p l e room_1 s m args below meth c H1 locs1 cells slots Q (F0 m 1411 ls [])) : W p l e room_1 s m args below meth c H locs cells slots Q (F0 m 204 ls []) := by
  have hx := C.1
  have hb := C.2.1
  obtain ⟨r, x1, x2, e1, e2, h2⟩ := pr_boy (v1 := xs (i + 1)) (v2 := xs (i + 2)) (v3 := xs (i + 3)) (v4 := xs (i + 4)) hC
  refine lv_aload_n hx hb dL_law_204 rfl (lv_at hl 2 rfl) ?_
  refine rdA C hS hJ hl (k := 1) (by omega) hL rfl dL_law_205 dL_law_206 dL_law_207 dL_law_208 dL_law_209 ?_
  refine rdA C hS hJ hl (k := 2) (by omega) hL rfl dL_law_210 dL_law_211 dL_law_212 dL_law_213 dL_law_214 ?_
  refine rdA C hS hJ hl (k := 3) (by omega) hL rfl dL_law_215 dL_law_216 dL_law_217 dL_law_218 dL_law_219 ?_
  refine rdA C hS hJ hl (k := 4) (by omega) hL rfl dL_law_220 dL_law_221 dL_law_222 dL_law_223 dL_law_224 ?_
  refine rvI (a := 0) (As := [.int (xs (i + 1)), .int (xs (i + 2)), .int (xs (i + 3)), .int (xs (i + 4))]) (rest := []) C hS rfl rfl KX7_boy (cX7_boy_ e1) g_257 ⟨rfl, rfl⟩ ⟨(Nat.le_of_ble_eq_true rfl), (Nat.le_of_ble_eq_true rfl)⟩ hl.1 rfl rfl (Nat.le_of_ble_eq_true rfl) hcs dL_law_225 (fun H locs hS => ?_)
  refine lv_aload_n hx hb dL_law_228 rfl (lv_at hl 1 rfl) ?_
  refine rdA C hS hJ hl (k := 1) (by omega) hL rfl dL_law_229 dL_law_230 dL_law_231 dL_law_232 dL_law_233 ?_
  refine rdA C hS hJ hl (k := 2) (by omega) hL rfl dL_law_234 dL_law_235 dL_law_236 dL_law_237 dL_law_238 ?_
  refine rdA C hS hJ hl (k := 3) (by omega) hL rfl dL_law_239 dL_law_240 dL_law_241 dL_law_242 dL_law_243 ?_
  refine rdA C hS hJ hl (k := 4) (by omega) hL rfl dL_law_244 dL_law_245 dL_law_246 dL_law_247 dL_law_248 ?_
  refine rvI (a := 99) (As := [.int (xs (i + 1)), .int (xs (i + 2)), .int (xs (i + 3)), .int (xs (i + 4))]) (rest := [.int r]) C hS rfl rfl KX8_boy (cX8_boy_ e2) g_910 ⟨rfl, rfl⟩ ⟨(Nat.le_of_ble_eq_true rfl), (Nat.le_of_ble_eq_true rfl)⟩ hl.1 rfl rfl (Nat.le_of_ble_eq_true rfl) hcs dL_law_249 (fun H locs hS => ?_)
  exact lv_icmp_eq (tgt := 1411) hx hb dL_law_252 (by decide) (fun _ => kk _ _ _ hS h2) (fun c => absurd rfl c)
set_option maxRecDepth 100000 in
set_option maxHeartbeats 4000000 in
theorem lc_1 (C : CX G p s m args meth c cL_law 4 (some .boolean) RL) (hS : SR G x H locs) (hJ : LJ G s b L xs) (hl : lv_has ls 4 (lvL G b i)) (hi : i + 6 ≤ L) (hL : L ≤ 3072) (hcs : cells ≤ room_1.cells ∧ slots ≤ room_1.slots) (hC : CI x x)
    (kk : ∀ (H1 : Heap) (locs1 : List Loc) (x1 : XS), SR G x1 H1 locs1 → CI x1 x1 → W p l e room_1 s m args below meth c H1 locs1 cells slots Q (F0 m 1411 ls [])) : W p l e room_1 s m args below meth c H locs cells slots Q (F0 m 257 ls []) := by
  have hx := C.1
  have hb := C.2.1
  obtain ⟨r, x1, x2, e1, e2, h2⟩ := pr_told (v1 := xs (i + 1)) (v2 := xs (i + 2)) hC
  refine lv_aload_n hx hb dL_law_257 rfl (lv_at hl 2 rfl) ?_
  refine rdA C hS hJ hl (k := 1) (by omega) hL rfl dL_law_258 dL_law_259 dL_law_260 dL_law_261 dL_law_262 ?_
  refine rdA C hS hJ hl (k := 2) (by omega) hL rfl dL_law_263 dL_law_264 dL_law_265 dL_law_266 dL_law_267 ?_
  refine rvI (a := 0) (As := [.int (xs (i + 1)), .int (xs (i + 2))]) (rest := []) C hS rfl rfl KX7_told (cX7_told_ e1) g_277 ⟨rfl, rfl⟩ ⟨(Nat.le_of_ble_eq_true rfl), (Nat.le_of_ble_eq_true rfl)⟩ hl.1 rfl rfl (Nat.le_of_ble_eq_true rfl) hcs dL_law_268 (fun H locs hS => ?_)
  refine lv_aload_n hx hb dL_law_271 rfl (lv_at hl 1 rfl) ?_
  refine rdA C hS hJ hl (k := 1) (by omega) hL rfl dL_law_272 dL_law_273 dL_law_274 dL_law_275 dL_law_276 ?_
  refine rdA C hS hJ hl (k := 2) (by omega) hL rfl dL_law_277 dL_law_278 dL_law_279 dL_law_280 dL_law_281 ?_
  refine rvI (a := 99) (As := [.int (xs (i + 1)), .int (xs (i + 2))]) (rest := [.int r]) C hS rfl rfl KX8_told (cX8_told_ e2) g_930 ⟨rfl, rfl⟩ ⟨(Nat.le_of_ble_eq_true rfl), (Nat.le_of_ble_eq_true rfl)⟩ hl.1 rfl rfl (Nat.le_of_ble_eq_true rfl) hcs dL_law_282 (fun H locs hS => ?_)
  exact lv_icmp_eq (tgt := 1411) hx hb dL_law_285 (by decide) (fun _ => kk _ _ _ hS h2) (fun c => absurd rfl c)
set_option maxRecDepth 100000 in
set_option maxHeartbeats 4000000 in
theorem lc_2 (C : CX G p s m args meth c cL_law 4 (some .boolean) RL) (hS : SR G x H locs) (hJ : LJ G s b L xs) (hl : lv_has ls 4 (lvL G b i)) (hi : i + 6 ≤ L) (hL : L ≤ 3072) (hcs : cells ≤ room_1.cells ∧ slots ≤ room_1.slots) (hC : CI x x)
    (kk : ∀ (H1 : Heap) (locs1 : List Loc) (x1 : XS), SR G x1 H1 locs1 → CI x1 x1 → W p l e room_1 s m args below meth c H1 locs1 cells slots Q (F0 m 1411 ls [])) : W p l e room_1 s m args below meth c H locs cells slots Q (F0 m 290 ls []) := by
  have hx := C.1
  have hb := C.2.1
  obtain ⟨r, x1, x2, e1, e2, h2⟩ := pr_shine (v1 := xs (i + 1)) (v2 := xs (i + 2)) (v3 := xs (i + 3)) hC
  refine lv_aload_n hx hb dL_law_290 rfl (lv_at hl 2 rfl) ?_
  refine rdA C hS hJ hl (k := 1) (by omega) hL rfl dL_law_291 dL_law_292 dL_law_293 dL_law_294 dL_law_295 ?_
  refine rdA C hS hJ hl (k := 2) (by omega) hL rfl dL_law_296 dL_law_297 dL_law_298 dL_law_299 dL_law_300 ?_
  refine rdA C hS hJ hl (k := 3) (by omega) hL rfl dL_law_301 dL_law_302 dL_law_303 dL_law_304 dL_law_305 ?_
  refine rvI (a := 0) (As := [.int (xs (i + 1)), .int (xs (i + 2)), .int (xs (i + 3))]) (rest := []) C hS rfl rfl KX7_shine (cX7_shine_ e1) g_301 ⟨rfl, rfl⟩ ⟨(Nat.le_of_ble_eq_true rfl), (Nat.le_of_ble_eq_true rfl)⟩ hl.1 rfl rfl (Nat.le_of_ble_eq_true rfl) hcs dL_law_306 (fun H locs hS => ?_)
  refine lv_aload_n hx hb dL_law_309 rfl (lv_at hl 1 rfl) ?_
  refine rdA C hS hJ hl (k := 1) (by omega) hL rfl dL_law_310 dL_law_311 dL_law_312 dL_law_313 dL_law_314 ?_
  refine rdA C hS hJ hl (k := 2) (by omega) hL rfl dL_law_315 dL_law_316 dL_law_317 dL_law_318 dL_law_319 ?_
  refine rdA C hS hJ hl (k := 3) (by omega) hL rfl dL_law_320 dL_law_321 dL_law_322 dL_law_323 dL_law_324 ?_
  refine rvI (a := 99) (As := [.int (xs (i + 1)), .int (xs (i + 2)), .int (xs (i + 3))]) (rest := [.int r]) C hS rfl rfl KX8_shine (cX8_shine_ e2) g_954 ⟨rfl, rfl⟩ ⟨(Nat.le_of_ble_eq_true rfl), (Nat.le_of_ble_eq_true rfl)⟩ hl.1 rfl rfl (Nat.le_of_ble_eq_true rfl) hcs dL_law_325 (fun H locs hS => ?_)
  exact lv_icmp_eq (tgt := 1411) hx hb dL_law_328 (by decide) (fun _ => kk _ _ _ hS h2) (fun c => absurd rfl c)
set_option maxRecDepth 100000 in
set_option maxHeartbeats 4000000 in
theorem lc_3 (C : CX G p s m args meth c cL_law 4 (some .boolean) RL) (hS : SR G x H locs) (hJ : LJ G s b L xs) (hl : lv_has ls 4 (lvL G b i)) (hi : i + 6 ≤ L) (hL : L ≤ 3072) (hcs : cells ≤ room_1.cells ∧ slots ≤ room_1.slots) (hC : CI x x)
    (kk : ∀ (H1 : Heap) (locs1 : List Loc) (x1 : XS), SR G x1 H1 locs1 → CI x1 x1 → W p l e room_1 s m args below meth c H1 locs1 cells slots Q (F0 m 1411 ls [])) : W p l e room_1 s m args below meth c H locs cells slots Q (F0 m 333 ls []) := by
  have hx := C.1
  have hb := C.2.1
  obtain ⟨r, x1, x2, e1, e2, h2⟩ := pr_as (v1 := xs (i + 1)) (v2 := xs (i + 2)) hC
  refine lv_aload_n hx hb dL_law_333 rfl (lv_at hl 2 rfl) ?_
  refine rdA C hS hJ hl (k := 1) (by omega) hL rfl dL_law_334 dL_law_335 dL_law_336 dL_law_337 dL_law_338 ?_
  refine rdA C hS hJ hl (k := 2) (by omega) hL rfl dL_law_339 dL_law_340 dL_law_341 dL_law_342 dL_law_343 ?_
  refine rvI (a := 0) (As := [.int (xs (i + 1)), .int (xs (i + 2))]) (rest := []) C hS rfl rfl KX7_as (cX7_as_ e1) g_330 ⟨rfl, rfl⟩ ⟨(Nat.le_of_ble_eq_true rfl), (Nat.le_of_ble_eq_true rfl)⟩ hl.1 rfl rfl (Nat.le_of_ble_eq_true rfl) hcs dL_law_344 (fun H locs hS => ?_)
  refine lv_aload_n hx hb dL_law_347 rfl (lv_at hl 1 rfl) ?_
  refine rdA C hS hJ hl (k := 1) (by omega) hL rfl dL_law_348 dL_law_349 dL_law_350 dL_law_351 dL_law_352 ?_
  refine rdA C hS hJ hl (k := 2) (by omega) hL rfl dL_law_353 dL_law_354 dL_law_355 dL_law_356 dL_law_357 ?_
  refine rvI (a := 99) (As := [.int (xs (i + 1)), .int (xs (i + 2))]) (rest := [.int r]) C hS rfl rfl KX8_as (cX8_as_ e2) g_980 ⟨rfl, rfl⟩ ⟨(Nat.le_of_ble_eq_true rfl), (Nat.le_of_ble_eq_true rfl)⟩ hl.1 rfl rfl (Nat.le_of_ble_eq_true rfl) hcs dL_law_358 (fun H locs hS => ?_)
  exact lv_icmp_eq (tgt := 1411) hx hb dL_law_361 (by decide) (fun _ => kk _ _ _ hS h2) (fun c => absurd rfl c)
set_option maxRecDepth 100000 in
set_option maxHeartbeats 4000000 in
theorem lc_4 (C : CX G p s m args meth c cL_law 4 (some .boolean) RL) (hS : SR G x H locs) (hJ : LJ G s b L xs) (hl : lv_has ls 4 (lvL G b i)) (hi : i + 6 ≤ L) (hL : L ≤ 3072) (hcs : cells ≤ room_1.cells ∧ slots ≤ room_1.slots) (hC : CI x x)
    (kk : ∀ (H1 : Heap) (locs1 : List Loc) (x1 : XS), SR G x1 H1 locs1 → CI x1 x1 → W p l e room_1 s m args below meth c H1 locs1 cells slots Q (F0 m 1411 ls [])) : W p l e room_1 s m args below meth c H locs cells slots Q (F0 m 366 ls []) := by
  have hx := C.1
  have hb := C.2.1
  obtain ⟨r, x1, x2, e1, e2, h2⟩ := pr_turns (v1 := xs (i + 1)) (v2 := xs (i + 2)) hC
  refine lv_aload_n hx hb dL_law_366 rfl (lv_at hl 2 rfl) ?_
  refine rdA C hS hJ hl (k := 1) (by omega) hL rfl dL_law_367 dL_law_368 dL_law_369 dL_law_370 dL_law_371 ?_
  refine rdA C hS hJ hl (k := 2) (by omega) hL rfl dL_law_372 dL_law_373 dL_law_374 dL_law_375 dL_law_376 ?_
  refine rvI (a := 0) (As := [.int (xs (i + 1)), .int (xs (i + 2))]) (rest := []) C hS rfl rfl KX7_turns (cX7_turns_ e1) g_340 ⟨rfl, rfl⟩ ⟨(Nat.le_of_ble_eq_true rfl), (Nat.le_of_ble_eq_true rfl)⟩ hl.1 rfl rfl (Nat.le_of_ble_eq_true rfl) hcs dL_law_377 (fun H locs hS => ?_)
  refine lv_aload_n hx hb dL_law_380 rfl (lv_at hl 1 rfl) ?_
  refine rdA C hS hJ hl (k := 1) (by omega) hL rfl dL_law_381 dL_law_382 dL_law_383 dL_law_384 dL_law_385 ?_
  refine rdA C hS hJ hl (k := 2) (by omega) hL rfl dL_law_386 dL_law_387 dL_law_388 dL_law_389 dL_law_390 ?_
  refine rvI (a := 99) (As := [.int (xs (i + 1)), .int (xs (i + 2))]) (rest := [.int r]) C hS rfl rfl KX8_turns (cX8_turns_ e2) g_988 ⟨rfl, rfl⟩ ⟨(Nat.le_of_ble_eq_true rfl), (Nat.le_of_ble_eq_true rfl)⟩ hl.1 rfl rfl (Nat.le_of_ble_eq_true rfl) hcs dL_law_391 (fun H locs hS => ?_)
  exact lv_icmp_eq (tgt := 1411) hx hb dL_law_394 (by decide) (fun _ => kk _ _ _ hS h2) (fun c => absurd rfl c)
set_option maxRecDepth 100000 in
set_option maxHeartbeats 4000000 in
theorem lc_5 (C : CX G p s m args meth c cL_law 4 (some .boolean) RL) (hS : SR G x H locs) (hJ : LJ G s b L xs) (hl : lv_has ls 4 (lvL G b i)) (hi : i + 6 ≤ L) (hL : L ≤ 3072) (hcs : cells ≤ room_1.cells ∧ slots ≤ room_1.slots) (hC : CI x x)
    (kk : ∀ (H1 : Heap) (locs1 : List Loc) (x1 : XS), SR G x1 H1 locs1 → CI x1 x1 → W p l e room_1 s m args below meth c H1 locs1 cells slots Q (F0 m 1411 ls [])) : W p l e room_1 s m args below meth c H locs cells slots Q (F0 m 399 ls []) := by
  have hx := C.1
  have hb := C.2.1
  obtain ⟨r, x1, x2, e1, e2, h2⟩ := pr_set (v1 := xs (i + 1)) (v2 := xs (i + 2)) (v3 := xs (i + 3)) hC
  refine lv_aload_n hx hb dL_law_399 rfl (lv_at hl 2 rfl) ?_
  refine rdA C hS hJ hl (k := 1) (by omega) hL rfl dL_law_400 dL_law_401 dL_law_402 dL_law_403 dL_law_404 ?_
  refine rdA C hS hJ hl (k := 2) (by omega) hL rfl dL_law_405 dL_law_406 dL_law_407 dL_law_408 dL_law_409 ?_
  refine rdA C hS hJ hl (k := 3) (by omega) hL rfl dL_law_410 dL_law_411 dL_law_412 dL_law_413 dL_law_414 ?_
  refine rvI (a := 0) (As := [.int (xs (i + 1)), .int (xs (i + 2)), .int (xs (i + 3))]) (rest := []) C hS rfl rfl KX7_set (cX7_set_ e1) g_344 ⟨rfl, rfl⟩ ⟨(Nat.le_of_ble_eq_true rfl), (Nat.le_of_ble_eq_true rfl)⟩ hl.1 rfl rfl (Nat.le_of_ble_eq_true rfl) hcs dL_law_415 (fun H locs hS => ?_)
  refine lv_aload_n hx hb dL_law_418 rfl (lv_at hl 1 rfl) ?_
  refine rdA C hS hJ hl (k := 1) (by omega) hL rfl dL_law_419 dL_law_420 dL_law_421 dL_law_422 dL_law_423 ?_
  refine rdA C hS hJ hl (k := 2) (by omega) hL rfl dL_law_424 dL_law_425 dL_law_426 dL_law_427 dL_law_428 ?_
  refine rdA C hS hJ hl (k := 3) (by omega) hL rfl dL_law_429 dL_law_430 dL_law_431 dL_law_432 dL_law_433 ?_
  refine rvI (a := 99) (As := [.int (xs (i + 1)), .int (xs (i + 2)), .int (xs (i + 3))]) (rest := [.int r]) C hS rfl rfl KX8_set (cX8_set_ e2) g_996 ⟨rfl, rfl⟩ ⟨(Nat.le_of_ble_eq_true rfl), (Nat.le_of_ble_eq_true rfl)⟩ hl.1 rfl rfl (Nat.le_of_ble_eq_true rfl) hcs dL_law_434 (fun H locs hS => ?_)
  exact lv_icmp_eq (tgt := 1411) hx hb dL_law_437 (by decide) (fun _ => kk _ _ _ hS h2) (fun c => absurd rfl c)
set_option maxRecDepth 100000 in
set_option maxHeartbeats 4000000 in
theorem lc_6 (C : CX G p s m args meth c cL_law 4 (some .boolean) RL) (hS : SR G x H locs) (hJ : LJ G s b L xs) (hl : lv_has ls 4 (lvL G b i)) (hi : i + 6 ≤ L) (hL : L ≤ 3072) (hcs : cells ≤ room_1.cells ∧ slots ≤ room_1.slots) (hC : CI x x)
    (kk : ∀ (H1 : Heap) (locs1 : List Loc) (x1 : XS), SR G x1 H1 locs1 → CI x1 x1 → W p l e room_1 s m args below meth c H1 locs1 cells slots Q (F0 m 1411 ls [])) : W p l e room_1 s m args below meth c H locs cells slots Q (F0 m 442 ls []) := by
  have hx := C.1
  have hb := C.2.1
  obtain ⟨r, x1, x2, e1, e2, h2⟩ := pr_deal (v1 := xs (i + 1)) hC
  refine lv_aload_n hx hb dL_law_442 rfl (lv_at hl 2 rfl) ?_
  refine rdA C hS hJ hl (k := 1) (by omega) hL rfl dL_law_443 dL_law_444 dL_law_445 dL_law_446 dL_law_447 ?_
  refine rvI (a := 0) (As := [.int (xs (i + 1))]) (rest := []) C hS rfl rfl KX7_deal (cX7_deal_ e1) g_352 ⟨rfl, rfl⟩ ⟨(Nat.le_of_ble_eq_true rfl), (Nat.le_of_ble_eq_true rfl)⟩ hl.1 rfl rfl (Nat.le_of_ble_eq_true rfl) hcs dL_law_448 (fun H locs hS => ?_)
  refine lv_aload_n hx hb dL_law_451 rfl (lv_at hl 1 rfl) ?_
  refine rdA C hS hJ hl (k := 1) (by omega) hL rfl dL_law_452 dL_law_453 dL_law_454 dL_law_455 dL_law_456 ?_
  refine rvI (a := 99) (As := [.int (xs (i + 1))]) (rest := [.int r]) C hS rfl rfl KX8_deal (cX8_deal_ e2) g_1000 ⟨rfl, rfl⟩ ⟨(Nat.le_of_ble_eq_true rfl), (Nat.le_of_ble_eq_true rfl)⟩ hl.1 rfl rfl (Nat.le_of_ble_eq_true rfl) hcs dL_law_457 (fun H locs hS => ?_)
  exact lv_icmp_eq (tgt := 1411) hx hb dL_law_460 (by decide) (fun _ => kk _ _ _ hS h2) (fun c => absurd rfl c)
set_option maxRecDepth 100000 in
set_option maxHeartbeats 4000000 in
theorem lc_7 (C : CX G p s m args meth c cL_law 4 (some .boolean) RL) (hS : SR G x H locs) (hJ : LJ G s b L xs) (hl : lv_has ls 4 (lvL G b i)) (hi : i + 6 ≤ L) (hL : L ≤ 3072) (hcs : cells ≤ room_1.cells ∧ slots ≤ room_1.slots) (hC : CI x x)
    (kk : ∀ (H1 : Heap) (locs1 : List Loc) (x1 : XS), SR G x1 H1 locs1 → CI x1 x1 → W p l e room_1 s m args below meth c H1 locs1 cells slots Q (F0 m 1411 ls [])) : W p l e room_1 s m args below meth c H locs cells slots Q (F0 m 465 ls []) := by
  have hx := C.1
  have hb := C.2.1
  obtain ⟨r, x1, x2, e1, e2, h2⟩ := pr_seed (v1 := xs (i + 1)) hC
  refine lv_aload_n hx hb dL_law_465 rfl (lv_at hl 2 rfl) ?_
  refine rdA C hS hJ hl (k := 1) (by omega) hL rfl dL_law_466 dL_law_467 dL_law_468 dL_law_469 dL_law_470 ?_
  refine rvI (a := 0) (As := [.int (xs (i + 1))]) (rest := []) C hS rfl rfl KX7_seed (cX7_seed_ e1) g_367 ⟨rfl, rfl⟩ ⟨(Nat.le_of_ble_eq_true rfl), (Nat.le_of_ble_eq_true rfl)⟩ hl.1 rfl rfl (Nat.le_of_ble_eq_true rfl) hcs dL_law_471 (fun H locs hS => ?_)
  refine lv_aload_n hx hb dL_law_474 rfl (lv_at hl 1 rfl) ?_
  refine rdA C hS hJ hl (k := 1) (by omega) hL rfl dL_law_475 dL_law_476 dL_law_477 dL_law_478 dL_law_479 ?_
  refine rvI (a := 99) (As := [.int (xs (i + 1))]) (rest := [.int r]) C hS rfl rfl KX8_seed (cX8_seed_ e2) g_1009 ⟨rfl, rfl⟩ ⟨(Nat.le_of_ble_eq_true rfl), (Nat.le_of_ble_eq_true rfl)⟩ hl.1 rfl rfl (Nat.le_of_ble_eq_true rfl) hcs dL_law_480 (fun H locs hS => ?_)
  exact lv_icmp_eq (tgt := 1411) hx hb dL_law_483 (by decide) (fun _ => kk _ _ _ hS h2) (fun c => absurd rfl c)
set_option maxRecDepth 100000 in
set_option maxHeartbeats 4000000 in
theorem lc_8 (C : CX G p s m args meth c cL_law 4 (some .boolean) RL) (hS : SR G x H locs) (hJ : LJ G s b L xs) (hl : lv_has ls 4 (lvL G b i)) (hi : i + 6 ≤ L) (hL : L ≤ 3072) (hcs : cells ≤ room_1.cells ∧ slots ≤ room_1.slots) (hC : CI x x)
    (kk : ∀ (H1 : Heap) (locs1 : List Loc) (x1 : XS), SR G x1 H1 locs1 → CI x1 x1 → W p l e room_1 s m args below meth c H1 locs1 cells slots Q (F0 m 1411 ls [])) : W p l e room_1 s m args below meth c H locs cells slots Q (F0 m 488 ls []) := by
  have hx := C.1
  have hb := C.2.1
  obtain ⟨r, x1, x2, e1, e2, h2⟩ := pr_rule (v1 := xs (i + 1)) (v2 := xs (i + 2)) hC
  refine lv_aload_n hx hb dL_law_488 rfl (lv_at hl 2 rfl) ?_
  refine rdA C hS hJ hl (k := 1) (by omega) hL rfl dL_law_489 dL_law_490 dL_law_491 dL_law_492 dL_law_493 ?_
  refine rdA C hS hJ hl (k := 2) (by omega) hL rfl dL_law_494 dL_law_495 dL_law_496 dL_law_497 dL_law_498 ?_
  refine rvI (a := 0) (As := [.int (xs (i + 1)), .int (xs (i + 2))]) (rest := []) C hS rfl rfl KX7_rule (cX7_rule_ e1) g_371 ⟨rfl, rfl⟩ ⟨(Nat.le_of_ble_eq_true rfl), (Nat.le_of_ble_eq_true rfl)⟩ hl.1 rfl rfl (Nat.le_of_ble_eq_true rfl) hcs dL_law_499 (fun H locs hS => ?_)
  refine lv_aload_n hx hb dL_law_502 rfl (lv_at hl 1 rfl) ?_
  refine rdA C hS hJ hl (k := 1) (by omega) hL rfl dL_law_503 dL_law_504 dL_law_505 dL_law_506 dL_law_507 ?_
  refine rdA C hS hJ hl (k := 2) (by omega) hL rfl dL_law_508 dL_law_509 dL_law_510 dL_law_511 dL_law_512 ?_
  refine rvI (a := 99) (As := [.int (xs (i + 1)), .int (xs (i + 2))]) (rest := [.int r]) C hS rfl rfl KX8_rule (cX8_rule_ e2) g_1013 ⟨rfl, rfl⟩ ⟨(Nat.le_of_ble_eq_true rfl), (Nat.le_of_ble_eq_true rfl)⟩ hl.1 rfl rfl (Nat.le_of_ble_eq_true rfl) hcs dL_law_513 (fun H locs hS => ?_)
  exact lv_icmp_eq (tgt := 1411) hx hb dL_law_516 (by decide) (fun _ => kk _ _ _ hS h2) (fun c => absurd rfl c)
set_option maxRecDepth 100000 in
set_option maxHeartbeats 4000000 in
theorem lc_9 (C : CX G p s m args meth c cL_law 4 (some .boolean) RL) (hS : SR G x H locs) (hJ : LJ G s b L xs) (hl : lv_has ls 4 (lvL G b i)) (hi : i + 6 ≤ L) (hL : L ≤ 3072) (hcs : cells ≤ room_1.cells ∧ slots ≤ room_1.slots) (hC : CI x x)
    (kk : ∀ (H1 : Heap) (locs1 : List Loc) (x1 : XS), SR G x1 H1 locs1 → CI x1 x1 → W p l e room_1 s m args below meth c H1 locs1 cells slots Q (F0 m 1411 ls [])) : W p l e room_1 s m args below meth c H locs cells slots Q (F0 m 521 ls []) := by
  have hx := C.1
  have hb := C.2.1
  obtain ⟨r, x1, x2, e1, e2, h2⟩ := pr_minutes (v1 := xs (i + 1)) hC
  refine lv_aload_n hx hb dL_law_521 rfl (lv_at hl 2 rfl) ?_
  refine rdA C hS hJ hl (k := 1) (by omega) hL rfl dL_law_522 dL_law_523 dL_law_524 dL_law_525 dL_law_526 ?_
  refine rvI (a := 0) (As := [.int (xs (i + 1))]) (rest := []) C hS rfl rfl KX7_minutes (cX7_minutes_ e1) g_375 ⟨rfl, rfl⟩ ⟨(Nat.le_of_ble_eq_true rfl), (Nat.le_of_ble_eq_true rfl)⟩ hl.1 rfl rfl (Nat.le_of_ble_eq_true rfl) hcs dL_law_527 (fun H locs hS => ?_)
  refine lv_aload_n hx hb dL_law_530 rfl (lv_at hl 1 rfl) ?_
  refine rdA C hS hJ hl (k := 1) (by omega) hL rfl dL_law_531 dL_law_532 dL_law_533 dL_law_534 dL_law_535 ?_
  refine rvI (a := 99) (As := [.int (xs (i + 1))]) (rest := [.int r]) C hS rfl rfl KX8_minutes (cX8_minutes_ e2) g_1017 ⟨rfl, rfl⟩ ⟨(Nat.le_of_ble_eq_true rfl), (Nat.le_of_ble_eq_true rfl)⟩ hl.1 rfl rfl (Nat.le_of_ble_eq_true rfl) hcs dL_law_536 (fun H locs hS => ?_)
  exact lv_icmp_eq (tgt := 1411) hx hb dL_law_539 (by decide) (fun _ => kk _ _ _ hS h2) (fun c => absurd rfl c)
set_option maxRecDepth 100000 in
set_option maxHeartbeats 4000000 in
theorem lc_10 (C : CX G p s m args meth c cL_law 4 (some .boolean) RL) (hS : SR G x H locs) (hJ : LJ G s b L xs) (hl : lv_has ls 4 (lvL G b i)) (hi : i + 6 ≤ L) (hL : L ≤ 3072) (hcs : cells ≤ room_1.cells ∧ slots ≤ room_1.slots) (hC : CI x x)
    (kk : ∀ (H1 : Heap) (locs1 : List Loc) (x1 : XS), SR G x1 H1 locs1 → CI x1 x1 → W p l e room_1 s m args below meth c H1 locs1 cells slots Q (F0 m 1411 ls [])) : W p l e room_1 s m args below meth c H locs cells slots Q (F0 m 544 ls []) := by
  have hx := C.1
  have hb := C.2.1
  obtain ⟨r, x1, x2, e1, e2, h2⟩ := pr_street (v1 := xs (i + 1)) hC
  refine lv_aload_n hx hb dL_law_544 rfl (lv_at hl 2 rfl) ?_
  refine rdA C hS hJ hl (k := 1) (by omega) hL rfl dL_law_545 dL_law_546 dL_law_547 dL_law_548 dL_law_549 ?_
  refine rvI (a := 0) (As := [.int (xs (i + 1))]) (rest := []) C hS rfl rfl KX7_street (cX7_street_ e1) g_404 ⟨rfl, rfl⟩ ⟨(Nat.le_of_ble_eq_true rfl), (Nat.le_of_ble_eq_true rfl)⟩ hl.1 rfl rfl (Nat.le_of_ble_eq_true rfl) hcs dL_law_550 (fun H locs hS => ?_)
  refine lv_aload_n hx hb dL_law_553 rfl (lv_at hl 1 rfl) ?_
  refine rdA C hS hJ hl (k := 1) (by omega) hL rfl dL_law_554 dL_law_555 dL_law_556 dL_law_557 dL_law_558 ?_
  refine rvI (a := 99) (As := [.int (xs (i + 1))]) (rest := [.int r]) C hS rfl rfl KX8_street (cX8_street_ e2) g_1048 ⟨rfl, rfl⟩ ⟨(Nat.le_of_ble_eq_true rfl), (Nat.le_of_ble_eq_true rfl)⟩ hl.1 rfl rfl (Nat.le_of_ble_eq_true rfl) hcs dL_law_559 (fun H locs hS => ?_)
  exact lv_icmp_eq (tgt := 1411) hx hb dL_law_562 (by decide) (fun _ => kk _ _ _ hS h2) (fun c => absurd rfl c)
set_option maxRecDepth 100000 in
set_option maxHeartbeats 4000000 in
theorem lc_11 (C : CX G p s m args meth c cL_law 4 (some .boolean) RL) (hS : SR G x H locs) (hJ : LJ G s b L xs) (hl : lv_has ls 4 (lvL G b i)) (hi : i + 6 ≤ L) (hL : L ≤ 3072) (hcs : cells ≤ room_1.cells ∧ slots ≤ room_1.slots) (hC : CI x x)
    (kk : ∀ (H1 : Heap) (locs1 : List Loc) (x1 : XS), SR G x1 H1 locs1 → CI x1 x1 → W p l e room_1 s m args below meth c H1 locs1 cells slots Q (F0 m 1411 ls [])) : W p l e room_1 s m args below meth c H locs cells slots Q (F0 m 567 ls []) := by
  have hx := C.1
  have hb := C.2.1
  obtain ⟨r, x1, x2, e1, e2, h2⟩ := pr_goesTo (v1 := xs (i + 1)) (v2 := xs (i + 2)) hC
  refine lv_aload_n hx hb dL_law_567 rfl (lv_at hl 2 rfl) ?_
  refine rdA C hS hJ hl (k := 1) (by omega) hL rfl dL_law_568 dL_law_569 dL_law_570 dL_law_571 dL_law_572 ?_
  refine rdA C hS hJ hl (k := 2) (by omega) hL rfl dL_law_573 dL_law_574 dL_law_575 dL_law_576 dL_law_577 ?_
  refine rvI (a := 0) (As := [.int (xs (i + 1)), .int (xs (i + 2))]) (rest := []) C hS rfl rfl KX7_goesTo (cX7_goesTo_ e1) g_420 ⟨rfl, rfl⟩ ⟨(Nat.le_of_ble_eq_true rfl), (Nat.le_of_ble_eq_true rfl)⟩ hl.1 rfl rfl (Nat.le_of_ble_eq_true rfl) hcs dL_law_578 (fun H locs hS => ?_)
  refine lv_aload_n hx hb dL_law_581 rfl (lv_at hl 1 rfl) ?_
  refine rdA C hS hJ hl (k := 1) (by omega) hL rfl dL_law_582 dL_law_583 dL_law_584 dL_law_585 dL_law_586 ?_
  refine rdA C hS hJ hl (k := 2) (by omega) hL rfl dL_law_587 dL_law_588 dL_law_589 dL_law_590 dL_law_591 ?_
  refine rvI (a := 99) (As := [.int (xs (i + 1)), .int (xs (i + 2))]) (rest := [.int r]) C hS rfl rfl KX8_goesTo (cX8_goesTo_ e2) g_1056 ⟨rfl, rfl⟩ ⟨(Nat.le_of_ble_eq_true rfl), (Nat.le_of_ble_eq_true rfl)⟩ hl.1 rfl rfl (Nat.le_of_ble_eq_true rfl) hcs dL_law_592 (fun H locs hS => ?_)
  exact lv_icmp_eq (tgt := 1411) hx hb dL_law_595 (by decide) (fun _ => kk _ _ _ hS h2) (fun c => absurd rfl c)
set_option maxRecDepth 100000 in
set_option maxHeartbeats 4000000 in
theorem lc_12 (C : CX G p s m args meth c cL_law 4 (some .boolean) RL) (hS : SR G x H locs) (hJ : LJ G s b L xs) (hl : lv_has ls 4 (lvL G b i)) (hi : i + 6 ≤ L) (hL : L ≤ 3072) (hcs : cells ≤ room_1.cells ∧ slots ≤ room_1.slots) (hC : CI x x)
    (kk : ∀ (H1 : Heap) (locs1 : List Loc) (x1 : XS), SR G x1 H1 locs1 → CI x1 x1 → W p l e room_1 s m args below meth c H1 locs1 cells slots Q (F0 m 1411 ls [])) : W p l e room_1 s m args below meth c H locs cells slots Q (F0 m 600 ls []) := by
  have hx := C.1
  have hb := C.2.1
  obtain ⟨r, x1, x2, e1, e2, h2⟩ := pr_behind (v1 := xs (i + 1)) (v2 := xs (i + 2)) hC
  refine lv_aload_n hx hb dL_law_600 rfl (lv_at hl 2 rfl) ?_
  refine rdA C hS hJ hl (k := 1) (by omega) hL rfl dL_law_601 dL_law_602 dL_law_603 dL_law_604 dL_law_605 ?_
  refine rdA C hS hJ hl (k := 2) (by omega) hL rfl dL_law_606 dL_law_607 dL_law_608 dL_law_609 dL_law_610 ?_
  refine rvI (a := 0) (As := [.int (xs (i + 1)), .int (xs (i + 2))]) (rest := []) C hS rfl rfl KX7_behind (cX7_behind_ e1) g_426 ⟨rfl, rfl⟩ ⟨(Nat.le_of_ble_eq_true rfl), (Nat.le_of_ble_eq_true rfl)⟩ hl.1 rfl rfl (Nat.le_of_ble_eq_true rfl) hcs dL_law_611 (fun H locs hS => ?_)
  refine lv_aload_n hx hb dL_law_614 rfl (lv_at hl 1 rfl) ?_
  refine rdA C hS hJ hl (k := 1) (by omega) hL rfl dL_law_615 dL_law_616 dL_law_617 dL_law_618 dL_law_619 ?_
  refine rdA C hS hJ hl (k := 2) (by omega) hL rfl dL_law_620 dL_law_621 dL_law_622 dL_law_623 dL_law_624 ?_
  refine rvI (a := 99) (As := [.int (xs (i + 1)), .int (xs (i + 2))]) (rest := [.int r]) C hS rfl rfl KX8_behind (cX8_behind_ e2) g_1064 ⟨rfl, rfl⟩ ⟨(Nat.le_of_ble_eq_true rfl), (Nat.le_of_ble_eq_true rfl)⟩ hl.1 rfl rfl (Nat.le_of_ble_eq_true rfl) hcs dL_law_625 (fun H locs hS => ?_)
  exact lv_icmp_eq (tgt := 1411) hx hb dL_law_628 (by decide) (fun _ => kk _ _ _ hS h2) (fun c => absurd rfl c)
set_option maxRecDepth 100000 in
set_option maxHeartbeats 4000000 in
theorem lc_13 (C : CX G p s m args meth c cL_law 4 (some .boolean) RL) (hS : SR G x H locs) (hJ : LJ G s b L xs) (hl : lv_has ls 4 (lvL G b i)) (hi : i + 6 ≤ L) (hL : L ≤ 3072) (hcs : cells ≤ room_1.cells ∧ slots ≤ room_1.slots) (hC : CI x x)
    (kk : ∀ (H1 : Heap) (locs1 : List Loc) (x1 : XS), SR G x1 H1 locs1 → CI x1 x1 → W p l e room_1 s m args below meth c H1 locs1 cells slots Q (F0 m 1411 ls [])) : W p l e room_1 s m args below meth c H locs cells slots Q (F0 m 633 ls []) := by
  have hx := C.1
  have hb := C.2.1
  obtain ⟨r, x1, x2, e1, e2, h2⟩ := pr_best (v1 := xs (i + 1)) (v2 := xs (i + 2)) (v3 := xs (i + 3)) (v4 := xs (i + 4)) hC
  refine lv_aload_n hx hb dL_law_633 rfl (lv_at hl 2 rfl) ?_
  refine rdA C hS hJ hl (k := 1) (by omega) hL rfl dL_law_634 dL_law_635 dL_law_636 dL_law_637 dL_law_638 ?_
  refine rdA C hS hJ hl (k := 2) (by omega) hL rfl dL_law_639 dL_law_640 dL_law_641 dL_law_642 dL_law_643 ?_
  refine rdA C hS hJ hl (k := 3) (by omega) hL rfl dL_law_644 dL_law_645 dL_law_646 dL_law_647 dL_law_648 ?_
  refine rdA C hS hJ hl (k := 4) (by omega) hL rfl dL_law_649 dL_law_650 dL_law_651 dL_law_652 dL_law_653 ?_
  refine rvI (a := 0) (As := [.int (xs (i + 1)), .int (xs (i + 2)), .int (xs (i + 3)), .int (xs (i + 4))]) (rest := []) C hS rfl rfl KX7_best (cX7_best_ e1) g_438 ⟨rfl, rfl⟩ ⟨(Nat.le_of_ble_eq_true rfl), (Nat.le_of_ble_eq_true rfl)⟩ hl.1 rfl rfl (Nat.le_of_ble_eq_true rfl) hcs dL_law_654 (fun H locs hS => ?_)
  refine lv_aload_n hx hb dL_law_657 rfl (lv_at hl 1 rfl) ?_
  refine rdA C hS hJ hl (k := 1) (by omega) hL rfl dL_law_658 dL_law_659 dL_law_660 dL_law_661 dL_law_662 ?_
  refine rdA C hS hJ hl (k := 2) (by omega) hL rfl dL_law_663 dL_law_664 dL_law_665 dL_law_666 dL_law_667 ?_
  refine rdA C hS hJ hl (k := 3) (by omega) hL rfl dL_law_668 dL_law_669 dL_law_670 dL_law_671 dL_law_672 ?_
  refine rdA C hS hJ hl (k := 4) (by omega) hL rfl dL_law_673 dL_law_674 dL_law_675 dL_law_676 dL_law_677 ?_
  refine rvI (a := 99) (As := [.int (xs (i + 1)), .int (xs (i + 2)), .int (xs (i + 3)), .int (xs (i + 4))]) (rest := [.int r]) C hS rfl rfl KX8_best (cX8_best_ e2) g_1077 ⟨rfl, rfl⟩ ⟨(Nat.le_of_ble_eq_true rfl), (Nat.le_of_ble_eq_true rfl)⟩ hl.1 rfl rfl (Nat.le_of_ble_eq_true rfl) hcs dL_law_678 (fun H locs hS => ?_)
  exact lv_icmp_eq (tgt := 1411) hx hb dL_law_681 (by decide) (fun _ => kk _ _ _ hS h2) (fun c => absurd rfl c)
set_option maxRecDepth 100000 in
set_option maxHeartbeats 4000000 in
theorem lc_14 (C : CX G p s m args meth c cL_law 4 (some .boolean) RL) (hS : SR G x H locs) (hJ : LJ G s b L xs) (hl : lv_has ls 4 (lvL G b i)) (hi : i + 6 ≤ L) (hL : L ≤ 3072) (hcs : cells ≤ room_1.cells ∧ slots ≤ room_1.slots) (hC : CI x x)
    (kk : ∀ (H1 : Heap) (locs1 : List Loc) (x1 : XS), SR G x1 H1 locs1 → CI x1 x1 → W p l e room_1 s m args below meth c H1 locs1 cells slots Q (F0 m 1411 ls [])) : W p l e room_1 s m args below meth c H locs cells slots Q (F0 m 686 ls []) := by
  have hx := C.1
  have hb := C.2.1
  obtain ⟨r, x1, x2, e1, e2, h2⟩ := pr_bestShare (v1 := xs (i + 1)) (v2 := xs (i + 2)) hC
  refine lv_aload_n hx hb dL_law_686 rfl (lv_at hl 2 rfl) ?_
  refine rdA C hS hJ hl (k := 1) (by omega) hL rfl dL_law_687 dL_law_688 dL_law_689 dL_law_690 dL_law_691 ?_
  refine rdA C hS hJ hl (k := 2) (by omega) hL rfl dL_law_692 dL_law_693 dL_law_694 dL_law_695 dL_law_696 ?_
  refine rvI (a := 0) (As := [.int (xs (i + 1)), .int (xs (i + 2))]) (rest := []) C hS rfl rfl KX7_bestShare (cX7_bestShare_ e1) g_445 ⟨rfl, rfl⟩ ⟨(Nat.le_of_ble_eq_true rfl), (Nat.le_of_ble_eq_true rfl)⟩ hl.1 rfl rfl (Nat.le_of_ble_eq_true rfl) hcs dL_law_697 (fun H locs hS => ?_)
  refine lv_aload_n hx hb dL_law_700 rfl (lv_at hl 1 rfl) ?_
  refine rdA C hS hJ hl (k := 1) (by omega) hL rfl dL_law_701 dL_law_702 dL_law_703 dL_law_704 dL_law_705 ?_
  refine rdA C hS hJ hl (k := 2) (by omega) hL rfl dL_law_706 dL_law_707 dL_law_708 dL_law_709 dL_law_710 ?_
  refine rvI (a := 99) (As := [.int (xs (i + 1)), .int (xs (i + 2))]) (rest := [.int r]) C hS rfl rfl KX8_bestShare (cX8_bestShare_ e2) g_1081 ⟨rfl, rfl⟩ ⟨(Nat.le_of_ble_eq_true rfl), (Nat.le_of_ble_eq_true rfl)⟩ hl.1 rfl rfl (Nat.le_of_ble_eq_true rfl) hcs dL_law_711 (fun H locs hS => ?_)
  exact lv_icmp_eq (tgt := 1411) hx hb dL_law_714 (by decide) (fun _ => kk _ _ _ hS h2) (fun c => absurd rfl c)
set_option maxRecDepth 100000 in
set_option maxHeartbeats 4000000 in
theorem lc_15 (C : CX G p s m args meth c cL_law 4 (some .boolean) RL) (hS : SR G x H locs) (hJ : LJ G s b L xs) (hl : lv_has ls 4 (lvL G b i)) (hi : i + 6 ≤ L) (hL : L ≤ 3072) (hcs : cells ≤ room_1.cells ∧ slots ≤ room_1.slots) (hC : CI x x)
    (kk : ∀ (H1 : Heap) (locs1 : List Loc) (x1 : XS), SR G x1 H1 locs1 → CI x1 x1 → W p l e room_1 s m args below meth c H1 locs1 cells slots Q (F0 m 1411 ls [])) : W p l e room_1 s m args below meth c H locs cells slots Q (F0 m 719 ls []) := by
  have hx := C.1
  have hb := C.2.1
  obtain ⟨r, x1, x2, e1, e2, h2⟩ := pr_sentAway (v1 := xs (i + 1)) (v2 := xs (i + 2)) hC
  refine lv_aload_n hx hb dL_law_719 rfl (lv_at hl 2 rfl) ?_
  refine rdA C hS hJ hl (k := 1) (by omega) hL rfl dL_law_720 dL_law_721 dL_law_722 dL_law_723 dL_law_724 ?_
  refine rdA C hS hJ hl (k := 2) (by omega) hL rfl dL_law_725 dL_law_726 dL_law_727 dL_law_728 dL_law_729 ?_
  refine rvI (a := 0) (As := [.int (xs (i + 1)), .int (xs (i + 2))]) (rest := []) C hS rfl rfl KX7_sentAway (cX7_sentAway_ e1) g_449 ⟨rfl, rfl⟩ ⟨(Nat.le_of_ble_eq_true rfl), (Nat.le_of_ble_eq_true rfl)⟩ hl.1 rfl rfl (Nat.le_of_ble_eq_true rfl) hcs dL_law_730 (fun H locs hS => ?_)
  refine lv_aload_n hx hb dL_law_733 rfl (lv_at hl 1 rfl) ?_
  refine rdA C hS hJ hl (k := 1) (by omega) hL rfl dL_law_734 dL_law_735 dL_law_736 dL_law_737 dL_law_738 ?_
  refine rdA C hS hJ hl (k := 2) (by omega) hL rfl dL_law_739 dL_law_740 dL_law_741 dL_law_742 dL_law_743 ?_
  refine rvI (a := 99) (As := [.int (xs (i + 1)), .int (xs (i + 2))]) (rest := [.int r]) C hS rfl rfl KX8_sentAway (cX8_sentAway_ e2) g_1085 ⟨rfl, rfl⟩ ⟨(Nat.le_of_ble_eq_true rfl), (Nat.le_of_ble_eq_true rfl)⟩ hl.1 rfl rfl (Nat.le_of_ble_eq_true rfl) hcs dL_law_744 (fun H locs hS => ?_)
  exact lv_icmp_eq (tgt := 1411) hx hb dL_law_747 (by decide) (fun _ => kk _ _ _ hS h2) (fun c => absurd rfl c)
set_option maxRecDepth 100000 in
set_option maxHeartbeats 4000000 in
theorem lc_16 (C : CX G p s m args meth c cL_law 4 (some .boolean) RL) (hS : SR G x H locs) (hJ : LJ G s b L xs) (hl : lv_has ls 4 (lvL G b i)) (hi : i + 6 ≤ L) (hL : L ≤ 3072) (hcs : cells ≤ room_1.cells ∧ slots ≤ room_1.slots) (hC : CI x x)
    (kk : ∀ (H1 : Heap) (locs1 : List Loc) (x1 : XS), SR G x1 H1 locs1 → CI x1 x1 → W p l e room_1 s m args below meth c H1 locs1 cells slots Q (F0 m 1411 ls [])) : W p l e room_1 s m args below meth c H locs cells slots Q (F0 m 752 ls []) := by
  have hx := C.1
  have hb := C.2.1
  obtain ⟨r, x1, x2, e1, e2, h2⟩ := pr_dry (v1 := xs (i + 1)) hC
  refine lv_aload_n hx hb dL_law_752 rfl (lv_at hl 2 rfl) ?_
  refine rdA C hS hJ hl (k := 1) (by omega) hL rfl dL_law_753 dL_law_754 dL_law_755 dL_law_756 dL_law_757 ?_
  refine rvI (a := 0) (As := [.int (xs (i + 1))]) (rest := []) C hS rfl rfl KX7_dry (cX7_dry_ e1) g_453 ⟨rfl, rfl⟩ ⟨(Nat.le_of_ble_eq_true rfl), (Nat.le_of_ble_eq_true rfl)⟩ hl.1 rfl rfl (Nat.le_of_ble_eq_true rfl) hcs dL_law_758 (fun H locs hS => ?_)
  refine lv_aload_n hx hb dL_law_761 rfl (lv_at hl 1 rfl) ?_
  refine rdA C hS hJ hl (k := 1) (by omega) hL rfl dL_law_762 dL_law_763 dL_law_764 dL_law_765 dL_law_766 ?_
  refine rvI (a := 99) (As := [.int (xs (i + 1))]) (rest := [.int r]) C hS rfl rfl KX8_dry (cX8_dry_ e2) g_1089 ⟨rfl, rfl⟩ ⟨(Nat.le_of_ble_eq_true rfl), (Nat.le_of_ble_eq_true rfl)⟩ hl.1 rfl rfl (Nat.le_of_ble_eq_true rfl) hcs dL_law_767 (fun H locs hS => ?_)
  exact lv_icmp_eq (tgt := 1411) hx hb dL_law_770 (by decide) (fun _ => kk _ _ _ hS h2) (fun c => absurd rfl c)
set_option maxRecDepth 100000 in
set_option maxHeartbeats 4000000 in
theorem lc_17 (C : CX G p s m args meth c cL_law 4 (some .boolean) RL) (hS : SR G x H locs) (hJ : LJ G s b L xs) (hl : lv_has ls 4 (lvL G b i)) (hi : i + 6 ≤ L) (hL : L ≤ 3072) (hcs : cells ≤ room_1.cells ∧ slots ≤ room_1.slots) (hC : CI x x)
    (kk : ∀ (H1 : Heap) (locs1 : List Loc) (x1 : XS), SR G x1 H1 locs1 → CI x1 x1 → W p l e room_1 s m args below meth c H1 locs1 cells slots Q (F0 m 1411 ls [])) : W p l e room_1 s m args below meth c H locs cells slots Q (F0 m 775 ls []) := by
  have hx := C.1
  have hb := C.2.1
  obtain ⟨r, x1, x2, e1, e2, h2⟩ := pr_shone (v1 := xs (i + 1)) (v2 := xs (i + 2)) hC
  refine lv_aload_n hx hb dL_law_775 rfl (lv_at hl 2 rfl) ?_
  refine rdA C hS hJ hl (k := 1) (by omega) hL rfl dL_law_776 dL_law_777 dL_law_778 dL_law_779 dL_law_780 ?_
  refine rdA C hS hJ hl (k := 2) (by omega) hL rfl dL_law_781 dL_law_782 dL_law_783 dL_law_784 dL_law_785 ?_
  refine rvI (a := 0) (As := [.int (xs (i + 1)), .int (xs (i + 2))]) (rest := []) C hS rfl rfl KX7_shone (cX7_shone_ e1) g_457 ⟨rfl, rfl⟩ ⟨(Nat.le_of_ble_eq_true rfl), (Nat.le_of_ble_eq_true rfl)⟩ hl.1 rfl rfl (Nat.le_of_ble_eq_true rfl) hcs dL_law_786 (fun H locs hS => ?_)
  refine lv_aload_n hx hb dL_law_789 rfl (lv_at hl 1 rfl) ?_
  refine rdA C hS hJ hl (k := 1) (by omega) hL rfl dL_law_790 dL_law_791 dL_law_792 dL_law_793 dL_law_794 ?_
  refine rdA C hS hJ hl (k := 2) (by omega) hL rfl dL_law_795 dL_law_796 dL_law_797 dL_law_798 dL_law_799 ?_
  refine rvI (a := 99) (As := [.int (xs (i + 1)), .int (xs (i + 2))]) (rest := [.int r]) C hS rfl rfl KX8_shone (cX8_shone_ e2) g_1093 ⟨rfl, rfl⟩ ⟨(Nat.le_of_ble_eq_true rfl), (Nat.le_of_ble_eq_true rfl)⟩ hl.1 rfl rfl (Nat.le_of_ble_eq_true rfl) hcs dL_law_800 (fun H locs hS => ?_)
  exact lv_icmp_eq (tgt := 1411) hx hb dL_law_803 (by decide) (fun _ => kk _ _ _ hS h2) (fun c => absurd rfl c)
set_option maxRecDepth 100000 in
set_option maxHeartbeats 4000000 in
theorem lc_18 (C : CX G p s m args meth c cL_law 4 (some .boolean) RL) (hS : SR G x H locs) (hJ : LJ G s b L xs) (hl : lv_has ls 4 (lvL G b i)) (hi : i + 6 ≤ L) (hL : L ≤ 3072) (hcs : cells ≤ room_1.cells ∧ slots ≤ room_1.slots) (hC : CI x x)
    (kk : ∀ (H1 : Heap) (locs1 : List Loc) (x1 : XS), SR G x1 H1 locs1 → CI x1 x1 → W p l e room_1 s m args below meth c H1 locs1 cells slots Q (F0 m 1411 ls [])) : W p l e room_1 s m args below meth c H locs cells slots Q (F0 m 808 ls []) := by
  have hx := C.1
  have hb := C.2.1
  obtain ⟨r, x1, x2, e1, e2, h2⟩ := pr_fee hC
  refine lv_aload_n hx hb dL_law_808 rfl (lv_at hl 2 rfl) ?_
  refine rvI (a := 0) (As := []) (rest := []) C hS rfl rfl KX7_fee (cX7_fee_ e1) g_483 ⟨rfl, rfl⟩ ⟨(Nat.le_of_ble_eq_true rfl), (Nat.le_of_ble_eq_true rfl)⟩ hl.1 rfl rfl (Nat.le_of_ble_eq_true rfl) hcs dL_law_809 (fun H locs hS => ?_)
  refine lv_aload_n hx hb dL_law_812 rfl (lv_at hl 1 rfl) ?_
  refine rvI (a := 99) (As := []) (rest := [.int r]) C hS rfl rfl KX8_fee (cX8_fee_ e2) g_1105 ⟨rfl, rfl⟩ ⟨(Nat.le_of_ble_eq_true rfl), (Nat.le_of_ble_eq_true rfl)⟩ hl.1 rfl rfl (Nat.le_of_ble_eq_true rfl) hcs dL_law_813 (fun H locs hS => ?_)
  exact lv_icmp_eq (tgt := 1411) hx hb dL_law_816 (by decide) (fun _ => kk _ _ _ hS h2) (fun c => absurd rfl c)
set_option maxRecDepth 100000 in
set_option maxHeartbeats 4000000 in
theorem lc_19 (C : CX G p s m args meth c cL_law 4 (some .boolean) RL) (hS : SR G x H locs) (hJ : LJ G s b L xs) (hl : lv_has ls 4 (lvL G b i)) (hi : i + 6 ≤ L) (hL : L ≤ 3072) (hcs : cells ≤ room_1.cells ∧ slots ≤ room_1.slots) (hC : CI x x)
    (kk : ∀ (H1 : Heap) (locs1 : List Loc) (x1 : XS), SR G x1 H1 locs1 → CI x1 x1 → W p l e room_1 s m args below meth c H1 locs1 cells slots Q (F0 m 1411 ls [])) : W p l e room_1 s m args below meth c H locs cells slots Q (F0 m 821 ls []) := by
  have hx := C.1
  have hb := C.2.1
  obtain ⟨r, x1, x2, e1, e2, h2⟩ := pr_fine (v1 := xs (i + 1)) hC
  refine lv_aload_n hx hb dL_law_821 rfl (lv_at hl 2 rfl) ?_
  refine rdA C hS hJ hl (k := 1) (by omega) hL rfl dL_law_822 dL_law_823 dL_law_824 dL_law_825 dL_law_826 ?_
  refine rvI (a := 0) (As := [.int (xs (i + 1))]) (rest := []) C hS rfl rfl KX7_fine (cX7_fine_ e1) g_489 ⟨rfl, rfl⟩ ⟨(Nat.le_of_ble_eq_true rfl), (Nat.le_of_ble_eq_true rfl)⟩ hl.1 rfl rfl (Nat.le_of_ble_eq_true rfl) hcs dL_law_827 (fun H locs hS => ?_)
  refine lv_aload_n hx hb dL_law_830 rfl (lv_at hl 1 rfl) ?_
  refine rdA C hS hJ hl (k := 1) (by omega) hL rfl dL_law_831 dL_law_832 dL_law_833 dL_law_834 dL_law_835 ?_
  refine rvI (a := 99) (As := [.int (xs (i + 1))]) (rest := [.int r]) C hS rfl rfl KX8_fine (cX8_fine_ e2) g_1109 ⟨rfl, rfl⟩ ⟨(Nat.le_of_ble_eq_true rfl), (Nat.le_of_ble_eq_true rfl)⟩ hl.1 rfl rfl (Nat.le_of_ble_eq_true rfl) hcs dL_law_836 (fun H locs hS => ?_)
  exact lv_icmp_eq (tgt := 1411) hx hb dL_law_839 (by decide) (fun _ => kk _ _ _ hS h2) (fun c => absurd rfl c)
set_option maxRecDepth 100000 in
set_option maxHeartbeats 4000000 in
theorem lc_20 (C : CX G p s m args meth c cL_law 4 (some .boolean) RL) (hS : SR G x H locs) (hJ : LJ G s b L xs) (hl : lv_has ls 4 (lvL G b i)) (hi : i + 6 ≤ L) (hL : L ≤ 3072) (hcs : cells ≤ room_1.cells ∧ slots ≤ room_1.slots) (hC : CI x x)
    (kk : ∀ (H1 : Heap) (locs1 : List Loc) (x1 : XS), SR G x1 H1 locs1 → CI x1 x1 → W p l e room_1 s m args below meth c H1 locs1 cells slots Q (F0 m 1411 ls [])) : W p l e room_1 s m args below meth c H locs cells slots Q (F0 m 844 ls []) := by
  have hx := C.1
  have hb := C.2.1
  obtain ⟨r, x1, x2, e1, e2, h2⟩ := pr_feed (v1 := xs (i + 1)) (v2 := xs (i + 2)) (v3 := xs (i + 3)) hC
  refine lv_aload_n hx hb dL_law_844 rfl (lv_at hl 2 rfl) ?_
  refine rdA C hS hJ hl (k := 1) (by omega) hL rfl dL_law_845 dL_law_846 dL_law_847 dL_law_848 dL_law_849 ?_
  refine rdA C hS hJ hl (k := 2) (by omega) hL rfl dL_law_850 dL_law_851 dL_law_852 dL_law_853 dL_law_854 ?_
  refine rdA C hS hJ hl (k := 3) (by omega) hL rfl dL_law_855 dL_law_856 dL_law_857 dL_law_858 dL_law_859 ?_
  refine rvI (a := 0) (As := [.int (xs (i + 1)), .int (xs (i + 2)), .int (xs (i + 3))]) (rest := []) C hS rfl rfl KX7_feed (cX7_feed_ e1) g_493 ⟨rfl, rfl⟩ ⟨(Nat.le_of_ble_eq_true rfl), (Nat.le_of_ble_eq_true rfl)⟩ hl.1 rfl rfl (Nat.le_of_ble_eq_true rfl) hcs dL_law_860 (fun H locs hS => ?_)
  refine lv_aload_n hx hb dL_law_863 rfl (lv_at hl 1 rfl) ?_
  refine rdA C hS hJ hl (k := 1) (by omega) hL rfl dL_law_864 dL_law_865 dL_law_866 dL_law_867 dL_law_868 ?_
  refine rdA C hS hJ hl (k := 2) (by omega) hL rfl dL_law_869 dL_law_870 dL_law_871 dL_law_872 dL_law_873 ?_
  refine rdA C hS hJ hl (k := 3) (by omega) hL rfl dL_law_874 dL_law_875 dL_law_876 dL_law_877 dL_law_878 ?_
  refine rvI (a := 99) (As := [.int (xs (i + 1)), .int (xs (i + 2)), .int (xs (i + 3))]) (rest := [.int r]) C hS rfl rfl KX8_feed (cX8_feed_ e2) g_1113 ⟨rfl, rfl⟩ ⟨(Nat.le_of_ble_eq_true rfl), (Nat.le_of_ble_eq_true rfl)⟩ hl.1 rfl rfl (Nat.le_of_ble_eq_true rfl) hcs dL_law_879 (fun H locs hS => ?_)
  exact lv_icmp_eq (tgt := 1411) hx hb dL_law_882 (by decide) (fun _ => kk _ _ _ hS h2) (fun c => absurd rfl c)
set_option maxRecDepth 100000 in
set_option maxHeartbeats 4000000 in
theorem lc_21 (C : CX G p s m args meth c cL_law 4 (some .boolean) RL) (hS : SR G x H locs) (hJ : LJ G s b L xs) (hl : lv_has ls 4 (lvL G b i)) (hi : i + 6 ≤ L) (hL : L ≤ 3072) (hcs : cells ≤ room_1.cells ∧ slots ≤ room_1.slots) (hC : CI x x)
    (kk : ∀ (H1 : Heap) (locs1 : List Loc) (x1 : XS), SR G x1 H1 locs1 → CI x1 x1 → W p l e room_1 s m args below meth c H1 locs1 cells slots Q (F0 m 1411 ls [])) : W p l e room_1 s m args below meth c H locs cells slots Q (F0 m 887 ls []) := by
  have hx := C.1
  have hb := C.2.1
  obtain ⟨r, x1, x2, e1, e2, h2⟩ := pr_trim (v1 := xs (i + 1)) hC
  refine lv_aload_n hx hb dL_law_887 rfl (lv_at hl 2 rfl) ?_
  refine rdA C hS hJ hl (k := 1) (by omega) hL rfl dL_law_888 dL_law_889 dL_law_890 dL_law_891 dL_law_892 ?_
  refine rvI (a := 0) (As := [.int (xs (i + 1))]) (rest := []) C hS rfl rfl KX7_trim (cX7_trim_ e1) g_501 ⟨rfl, rfl⟩ ⟨(Nat.le_of_ble_eq_true rfl), (Nat.le_of_ble_eq_true rfl)⟩ hl.1 rfl rfl (Nat.le_of_ble_eq_true rfl) hcs dL_law_893 (fun H locs hS => ?_)
  refine lv_aload_n hx hb dL_law_896 rfl (lv_at hl 1 rfl) ?_
  refine rdA C hS hJ hl (k := 1) (by omega) hL rfl dL_law_897 dL_law_898 dL_law_899 dL_law_900 dL_law_901 ?_
  refine rvI (a := 99) (As := [.int (xs (i + 1))]) (rest := [.int r]) C hS rfl rfl KX8_trim (cX8_trim_ e2) g_1117 ⟨rfl, rfl⟩ ⟨(Nat.le_of_ble_eq_true rfl), (Nat.le_of_ble_eq_true rfl)⟩ hl.1 rfl rfl (Nat.le_of_ble_eq_true rfl) hcs dL_law_902 (fun H locs hS => ?_)
  exact lv_icmp_eq (tgt := 1411) hx hb dL_law_905 (by decide) (fun _ => kk _ _ _ hS h2) (fun c => absurd rfl c)
set_option maxRecDepth 100000 in
set_option maxHeartbeats 4000000 in
theorem lc_22 (C : CX G p s m args meth c cL_law 4 (some .boolean) RL) (hS : SR G x H locs) (hJ : LJ G s b L xs) (hl : lv_has ls 4 (lvL G b i)) (hi : i + 6 ≤ L) (hL : L ≤ 3072) (hcs : cells ≤ room_1.cells ∧ slots ≤ room_1.slots) (hC : CI x x)
    (kk : ∀ (H1 : Heap) (locs1 : List Loc) (x1 : XS), SR G x1 H1 locs1 → CI x1 x1 → W p l e room_1 s m args below meth c H1 locs1 cells slots Q (F0 m 1411 ls [])) : W p l e room_1 s m args below meth c H locs cells slots Q (F0 m 910 ls []) := by
  have hx := C.1
  have hb := C.2.1
  obtain ⟨r, x1, x2, e1, e2, h2⟩ := pr_text hC
  refine lv_aload_n hx hb dL_law_910 rfl (lv_at hl 2 rfl) ?_
  refine rvI (a := 0) (As := []) (rest := []) C hS rfl rfl KX7_text (cX7_text_ e1) g_505 ⟨rfl, rfl⟩ ⟨(Nat.le_of_ble_eq_true rfl), (Nat.le_of_ble_eq_true rfl)⟩ hl.1 rfl rfl (Nat.le_of_ble_eq_true rfl) hcs dL_law_911 (fun H locs hS => ?_)
  refine lv_aload_n hx hb dL_law_914 rfl (lv_at hl 1 rfl) ?_
  refine rvI (a := 99) (As := []) (rest := [.int r]) C hS rfl rfl KX8_text (cX8_text_ e2) g_1121 ⟨rfl, rfl⟩ ⟨(Nat.le_of_ble_eq_true rfl), (Nat.le_of_ble_eq_true rfl)⟩ hl.1 rfl rfl (Nat.le_of_ble_eq_true rfl) hcs dL_law_915 (fun H locs hS => ?_)
  exact lv_icmp_eq (tgt := 1411) hx hb dL_law_918 (by decide) (fun _ => kk _ _ _ hS h2) (fun c => absurd rfl c)
set_option maxRecDepth 100000 in
set_option maxHeartbeats 4000000 in
theorem lc_23 (C : CX G p s m args meth c cL_law 4 (some .boolean) RL) (hS : SR G x H locs) (hJ : LJ G s b L xs) (hl : lv_has ls 4 (lvL G b i)) (hi : i + 6 ≤ L) (hL : L ≤ 3072) (hcs : cells ≤ room_1.cells ∧ slots ≤ room_1.slots) (hC : CI x x)
    (kk : ∀ (H1 : Heap) (locs1 : List Loc) (x1 : XS), SR G x1 H1 locs1 → CI x1 x1 → W p l e room_1 s m args below meth c H1 locs1 cells slots Q (F0 m 1411 ls [])) : W p l e room_1 s m args below meth c H locs cells slots Q (F0 m 923 ls []) := by
  have hx := C.1
  have hb := C.2.1
  obtain ⟨r, x1, x2, e1, e2, h2⟩ := pr_textTold (v1 := xs (i + 1)) (v2 := xs (i + 2)) hC
  refine lv_aload_n hx hb dL_law_923 rfl (lv_at hl 2 rfl) ?_
  refine rdA C hS hJ hl (k := 1) (by omega) hL rfl dL_law_924 dL_law_925 dL_law_926 dL_law_927 dL_law_928 ?_
  refine rdA C hS hJ hl (k := 2) (by omega) hL rfl dL_law_929 dL_law_930 dL_law_931 dL_law_932 dL_law_933 ?_
  refine rvI (a := 0) (As := [.int (xs (i + 1)), .int (xs (i + 2))]) (rest := []) C hS rfl rfl KX7_textTold (cX7_textTold_ e1) g_694 ⟨rfl, rfl⟩ ⟨(Nat.le_of_ble_eq_true rfl), (Nat.le_of_ble_eq_true rfl)⟩ hl.1 rfl rfl (Nat.le_of_ble_eq_true rfl) hcs dL_law_934 (fun H locs hS => ?_)
  refine lv_aload_n hx hb dL_law_937 rfl (lv_at hl 1 rfl) ?_
  refine rdA C hS hJ hl (k := 1) (by omega) hL rfl dL_law_938 dL_law_939 dL_law_940 dL_law_941 dL_law_942 ?_
  refine rdA C hS hJ hl (k := 2) (by omega) hL rfl dL_law_943 dL_law_944 dL_law_945 dL_law_946 dL_law_947 ?_
  refine rvI (a := 99) (As := [.int (xs (i + 1)), .int (xs (i + 2))]) (rest := [.int r]) C hS rfl rfl KX8_textTold (cX8_textTold_ e2) g_1168 ⟨rfl, rfl⟩ ⟨(Nat.le_of_ble_eq_true rfl), (Nat.le_of_ble_eq_true rfl)⟩ hl.1 rfl rfl (Nat.le_of_ble_eq_true rfl) hcs dL_law_948 (fun H locs hS => ?_)
  exact lv_icmp_eq (tgt := 1411) hx hb dL_law_951 (by decide) (fun _ => kk _ _ _ hS h2) (fun c => absurd rfl c)
set_option maxRecDepth 100000 in
set_option maxHeartbeats 4000000 in
theorem lc_24 (C : CX G p s m args meth c cL_law 4 (some .boolean) RL) (hS : SR G x H locs) (hJ : LJ G s b L xs) (hl : lv_has ls 4 (lvL G b i)) (hi : i + 6 ≤ L) (hL : L ≤ 3072) (hcs : cells ≤ room_1.cells ∧ slots ≤ room_1.slots) (hC : CI x x)
    (kk : ∀ (H1 : Heap) (locs1 : List Loc) (x1 : XS), SR G x1 H1 locs1 → CI x1 x1 → W p l e room_1 s m args below meth c H1 locs1 cells slots Q (F0 m 1411 ls [])) : W p l e room_1 s m args below meth c H locs cells slots Q (F0 m 956 ls []) := by
  have hx := C.1
  have hb := C.2.1
  obtain ⟨r, x1, x2, e1, e2, h2⟩ := pr_why (v1 := xs (i + 1)) hC
  refine lv_aload_n hx hb dL_law_956 rfl (lv_at hl 2 rfl) ?_
  refine rdA C hS hJ hl (k := 1) (by omega) hL rfl dL_law_957 dL_law_958 dL_law_959 dL_law_960 dL_law_961 ?_
  refine rvI (a := 0) (As := [.int (xs (i + 1))]) (rest := []) C hS rfl rfl KX7_why (cX7_why_ e1) g_698 ⟨rfl, rfl⟩ ⟨(Nat.le_of_ble_eq_true rfl), (Nat.le_of_ble_eq_true rfl)⟩ hl.1 rfl rfl (Nat.le_of_ble_eq_true rfl) hcs dL_law_962 (fun H locs hS => ?_)
  refine lv_aload_n hx hb dL_law_965 rfl (lv_at hl 1 rfl) ?_
  refine rdA C hS hJ hl (k := 1) (by omega) hL rfl dL_law_966 dL_law_967 dL_law_968 dL_law_969 dL_law_970 ?_
  refine rvI (a := 99) (As := [.int (xs (i + 1))]) (rest := [.int r]) C hS rfl rfl KX8_why (cX8_why_ e2) g_1172 ⟨rfl, rfl⟩ ⟨(Nat.le_of_ble_eq_true rfl), (Nat.le_of_ble_eq_true rfl)⟩ hl.1 rfl rfl (Nat.le_of_ble_eq_true rfl) hcs dL_law_971 (fun H locs hS => ?_)
  exact lv_icmp_eq (tgt := 1411) hx hb dL_law_974 (by decide) (fun _ => kk _ _ _ hS h2) (fun c => absurd rfl c)
set_option maxRecDepth 100000 in
set_option maxHeartbeats 4000000 in
theorem lc_25 (C : CX G p s m args meth c cL_law 4 (some .boolean) RL) (hS : SR G x H locs) (hJ : LJ G s b L xs) (hl : lv_has ls 4 (lvL G b i)) (hi : i + 6 ≤ L) (hL : L ≤ 3072) (hcs : cells ≤ room_1.cells ∧ slots ≤ room_1.slots) (hC : CI x x)
    (kk : ∀ (H1 : Heap) (locs1 : List Loc) (x1 : XS), SR G x1 H1 locs1 → CI x1 x1 → W p l e room_1 s m args below meth c H1 locs1 cells slots Q (F0 m 1411 ls [])) : W p l e room_1 s m args below meth c H locs cells slots Q (F0 m 979 ls []) := by
  have hx := C.1
  have hb := C.2.1
  obtain ⟨r, x1, x2, e1, e2, h2⟩ := pr_sheet (v1 := xs (i + 1)) (v2 := xs (i + 2)) (v3 := xs (i + 3)) hC
  refine lv_aload_n hx hb dL_law_979 rfl (lv_at hl 2 rfl) ?_
  refine rdA C hS hJ hl (k := 1) (by omega) hL rfl dL_law_980 dL_law_981 dL_law_982 dL_law_983 dL_law_984 ?_
  refine rdA C hS hJ hl (k := 2) (by omega) hL rfl dL_law_985 dL_law_986 dL_law_987 dL_law_988 dL_law_989 ?_
  refine rdA C hS hJ hl (k := 3) (by omega) hL rfl dL_law_990 dL_law_991 dL_law_992 dL_law_993 dL_law_994 ?_
  refine rvI (a := 0) (As := [.int (xs (i + 1)), .int (xs (i + 2)), .int (xs (i + 3))]) (rest := []) C hS rfl rfl KX7_sheet (cX7_sheet_ e1) g_702 ⟨rfl, rfl⟩ ⟨(Nat.le_of_ble_eq_true rfl), (Nat.le_of_ble_eq_true rfl)⟩ hl.1 rfl rfl (Nat.le_of_ble_eq_true rfl) hcs dL_law_995 (fun H locs hS => ?_)
  refine lv_aload_n hx hb dL_law_998 rfl (lv_at hl 1 rfl) ?_
  refine rdA C hS hJ hl (k := 1) (by omega) hL rfl dL_law_999 dL_law_1000 dL_law_1001 dL_law_1002 dL_law_1003 ?_
  refine rdA C hS hJ hl (k := 2) (by omega) hL rfl dL_law_1004 dL_law_1005 dL_law_1006 dL_law_1007 dL_law_1008 ?_
  refine rdA C hS hJ hl (k := 3) (by omega) hL rfl dL_law_1009 dL_law_1010 dL_law_1011 dL_law_1012 dL_law_1013 ?_
  refine rvI (a := 99) (As := [.int (xs (i + 1)), .int (xs (i + 2)), .int (xs (i + 3))]) (rest := [.int r]) C hS rfl rfl KX8_sheet (cX8_sheet_ e2) g_1176 ⟨rfl, rfl⟩ ⟨(Nat.le_of_ble_eq_true rfl), (Nat.le_of_ble_eq_true rfl)⟩ hl.1 rfl rfl (Nat.le_of_ble_eq_true rfl) hcs dL_law_1014 (fun H locs hS => ?_)
  exact lv_icmp_eq (tgt := 1411) hx hb dL_law_1017 (by decide) (fun _ => kk _ _ _ hS h2) (fun c => absurd rfl c)
set_option maxRecDepth 100000 in
set_option maxHeartbeats 4000000 in
theorem lc_26 (C : CX G p s m args meth c cL_law 4 (some .boolean) RL) (hS : SR G x H locs) (hJ : LJ G s b L xs) (hl : lv_has ls 4 (lvL G b i)) (hi : i + 6 ≤ L) (hL : L ≤ 3072) (hcs : cells ≤ room_1.cells ∧ slots ≤ room_1.slots) (hC : CI x x)
    (kk : ∀ (H1 : Heap) (locs1 : List Loc) (x1 : XS), SR G x1 H1 locs1 → CI x1 x1 → W p l e room_1 s m args below meth c H1 locs1 cells slots Q (F0 m 1411 ls [])) : W p l e room_1 s m args below meth c H locs cells slots Q (F0 m 1022 ls []) := by
  have hx := C.1
  have hb := C.2.1
  obtain ⟨r, x1, x2, e1, e2, h2⟩ := pr_mark (v1 := xs (i + 1)) (v2 := xs (i + 2)) (v3 := xs (i + 3)) hC
  refine lv_aload_n hx hb dL_law_1022 rfl (lv_at hl 2 rfl) ?_
  refine rdA C hS hJ hl (k := 1) (by omega) hL rfl dL_law_1023 dL_law_1024 dL_law_1025 dL_law_1026 dL_law_1027 ?_
  refine rdA C hS hJ hl (k := 2) (by omega) hL rfl dL_law_1028 dL_law_1029 dL_law_1030 dL_law_1031 dL_law_1032 ?_
  refine rdA C hS hJ hl (k := 3) (by omega) hL rfl dL_law_1033 dL_law_1034 dL_law_1035 dL_law_1036 dL_law_1037 ?_
  refine rvI (a := 0) (As := [.int (xs (i + 1)), .int (xs (i + 2)), .int (xs (i + 3))]) (rest := []) C hS rfl rfl KX7_mark (cX7_mark_ e1) g_713 ⟨rfl, rfl⟩ ⟨(Nat.le_of_ble_eq_true rfl), (Nat.le_of_ble_eq_true rfl)⟩ hl.1 rfl rfl (Nat.le_of_ble_eq_true rfl) hcs dL_law_1038 (fun H locs hS => ?_)
  refine lv_aload_n hx hb dL_law_1041 rfl (lv_at hl 1 rfl) ?_
  refine rdA C hS hJ hl (k := 1) (by omega) hL rfl dL_law_1042 dL_law_1043 dL_law_1044 dL_law_1045 dL_law_1046 ?_
  refine rdA C hS hJ hl (k := 2) (by omega) hL rfl dL_law_1047 dL_law_1048 dL_law_1049 dL_law_1050 dL_law_1051 ?_
  refine rdA C hS hJ hl (k := 3) (by omega) hL rfl dL_law_1052 dL_law_1053 dL_law_1054 dL_law_1055 dL_law_1056 ?_
  refine rvI (a := 99) (As := [.int (xs (i + 1)), .int (xs (i + 2)), .int (xs (i + 3))]) (rest := [.int r]) C hS rfl rfl KX8_mark (cX8_mark_ e2) g_1181 ⟨rfl, rfl⟩ ⟨(Nat.le_of_ble_eq_true rfl), (Nat.le_of_ble_eq_true rfl)⟩ hl.1 rfl rfl (Nat.le_of_ble_eq_true rfl) hcs dL_law_1057 (fun H locs hS => ?_)
  exact lv_icmp_eq (tgt := 1411) hx hb dL_law_1060 (by decide) (fun _ => kk _ _ _ hS h2) (fun c => absurd rfl c)
set_option maxRecDepth 100000 in
set_option maxHeartbeats 4000000 in
theorem lc_27 (C : CX G p s m args meth c cL_law 4 (some .boolean) RL) (hS : SR G x H locs) (hJ : LJ G s b L xs) (hl : lv_has ls 4 (lvL G b i)) (hi : i + 6 ≤ L) (hL : L ≤ 3072) (hcs : cells ≤ room_1.cells ∧ slots ≤ room_1.slots) (hC : CI x x)
    (kk : ∀ (H1 : Heap) (locs1 : List Loc) (x1 : XS), SR G x1 H1 locs1 → CI x1 x1 → W p l e room_1 s m args below meth c H1 locs1 cells slots Q (F0 m 1411 ls [])) : W p l e room_1 s m args below meth c H locs cells slots Q (F0 m 1065 ls []) := by
  have hx := C.1
  have hb := C.2.1
  obtain ⟨r, x1, x2, e1, e2, h2⟩ := pr_pour (v1 := xs (i + 1)) hC
  refine lv_aload_n hx hb dL_law_1065 rfl (lv_at hl 2 rfl) ?_
  refine rdA C hS hJ hl (k := 1) (by omega) hL rfl dL_law_1066 dL_law_1067 dL_law_1068 dL_law_1069 dL_law_1070 ?_
  refine rvI (a := 0) (As := [.int (xs (i + 1))]) (rest := []) C hS rfl rfl KX7_pour (cX7_pour_ e1) g_721 ⟨rfl, rfl⟩ ⟨(Nat.le_of_ble_eq_true rfl), (Nat.le_of_ble_eq_true rfl)⟩ hl.1 rfl rfl (Nat.le_of_ble_eq_true rfl) hcs dL_law_1071 (fun H locs hS => ?_)
  refine lv_aload_n hx hb dL_law_1074 rfl (lv_at hl 1 rfl) ?_
  refine rdA C hS hJ hl (k := 1) (by omega) hL rfl dL_law_1075 dL_law_1076 dL_law_1077 dL_law_1078 dL_law_1079 ?_
  refine rvI (a := 99) (As := [.int (xs (i + 1))]) (rest := [.int r]) C hS rfl rfl KX8_pour (cX8_pour_ e2) g_1188 ⟨rfl, rfl⟩ ⟨(Nat.le_of_ble_eq_true rfl), (Nat.le_of_ble_eq_true rfl)⟩ hl.1 rfl rfl (Nat.le_of_ble_eq_true rfl) hcs dL_law_1080 (fun H locs hS => ?_)
  exact lv_icmp_eq (tgt := 1411) hx hb dL_law_1083 (by decide) (fun _ => kk _ _ _ hS h2) (fun c => absurd rfl c)
set_option maxRecDepth 100000 in
set_option maxHeartbeats 4000000 in
theorem lc_28 (C : CX G p s m args meth c cL_law 4 (some .boolean) RL) (hS : SR G x H locs) (hJ : LJ G s b L xs) (hl : lv_has ls 4 (lvL G b i)) (hi : i + 6 ≤ L) (hL : L ≤ 3072) (hcs : cells ≤ room_1.cells ∧ slots ≤ room_1.slots) (hC : CI x x)
    (kk : ∀ (H1 : Heap) (locs1 : List Loc) (x1 : XS), SR G x1 H1 locs1 → CI x1 x1 → W p l e room_1 s m args below meth c H1 locs1 cells slots Q (F0 m 1411 ls [])) : W p l e room_1 s m args below meth c H locs cells slots Q (F0 m 1088 ls []) := by
  have hx := C.1
  have hb := C.2.1
  obtain ⟨r, x1, x2, e1, e2, h2⟩ := pr_reads (v1 := xs (i + 1)) hC
  refine lv_aload_n hx hb dL_law_1088 rfl (lv_at hl 2 rfl) ?_
  refine rdA C hS hJ hl (k := 1) (by omega) hL rfl dL_law_1089 dL_law_1090 dL_law_1091 dL_law_1092 dL_law_1093 ?_
  refine rvI (a := 0) (As := [.int (xs (i + 1))]) (rest := []) C hS rfl rfl KX7_reads (cX7_reads_ e1) g_726 ⟨rfl, rfl⟩ ⟨(Nat.le_of_ble_eq_true rfl), (Nat.le_of_ble_eq_true rfl)⟩ hl.1 rfl rfl (Nat.le_of_ble_eq_true rfl) hcs dL_law_1094 (fun H locs hS => ?_)
  refine lv_aload_n hx hb dL_law_1097 rfl (lv_at hl 1 rfl) ?_
  refine rdA C hS hJ hl (k := 1) (by omega) hL rfl dL_law_1098 dL_law_1099 dL_law_1100 dL_law_1101 dL_law_1102 ?_
  refine rvI (a := 99) (As := [.int (xs (i + 1))]) (rest := [.int r]) C hS rfl rfl KX8_reads (cX8_reads_ e2) g_1192 ⟨rfl, rfl⟩ ⟨(Nat.le_of_ble_eq_true rfl), (Nat.le_of_ble_eq_true rfl)⟩ hl.1 rfl rfl (Nat.le_of_ble_eq_true rfl) hcs dL_law_1103 (fun H locs hS => ?_)
  exact lv_icmp_eq (tgt := 1411) hx hb dL_law_1106 (by decide) (fun _ => kk _ _ _ hS h2) (fun c => absurd rfl c)
set_option maxRecDepth 100000 in
set_option maxHeartbeats 4000000 in
theorem lc_29 (C : CX G p s m args meth c cL_law 4 (some .boolean) RL) (hS : SR G x H locs) (hJ : LJ G s b L xs) (hl : lv_has ls 4 (lvL G b i)) (hi : i + 6 ≤ L) (hL : L ≤ 3072) (hcs : cells ≤ room_1.cells ∧ slots ≤ room_1.slots) (hC : CI x x)
    (kk : ∀ (H1 : Heap) (locs1 : List Loc) (x1 : XS), SR G x1 H1 locs1 → CI x1 x1 → W p l e room_1 s m args below meth c H1 locs1 cells slots Q (F0 m 1411 ls [])) : W p l e room_1 s m args below meth c H locs cells slots Q (F0 m 1111 ls []) := by
  have hx := C.1
  have hb := C.2.1
  obtain ⟨r, x1, x2, e1, e2, h2⟩ := pr_copy (v1 := xs (i + 1)) (v2 := xs (i + 2)) (v3 := xs (i + 3)) (v4 := xs (i + 4)) (v5 := xs (i + 5)) hC
  refine lv_aload_n hx hb dL_law_1111 rfl (lv_at hl 2 rfl) ?_
  refine rdA C hS hJ hl (k := 1) (by omega) hL rfl dL_law_1112 dL_law_1113 dL_law_1114 dL_law_1115 dL_law_1116 ?_
  refine rdA C hS hJ hl (k := 2) (by omega) hL rfl dL_law_1117 dL_law_1118 dL_law_1119 dL_law_1120 dL_law_1121 ?_
  refine rdA C hS hJ hl (k := 3) (by omega) hL rfl dL_law_1122 dL_law_1123 dL_law_1124 dL_law_1125 dL_law_1126 ?_
  refine rdA C hS hJ hl (k := 4) (by omega) hL rfl dL_law_1127 dL_law_1128 dL_law_1129 dL_law_1130 dL_law_1131 ?_
  refine rdA C hS hJ hl (k := 5) (by omega) hL rfl dL_law_1132 dL_law_1133 dL_law_1134 dL_law_1135 dL_law_1136 ?_
  refine rvI (a := 0) (As := [.int (xs (i + 1)), .int (xs (i + 2)), .int (xs (i + 3)), .int (xs (i + 4)), .int (xs (i + 5))]) (rest := []) C hS rfl rfl KX7_copy (cX7_copy_ e1) g_730 ⟨rfl, rfl⟩ ⟨(Nat.le_of_ble_eq_true rfl), (Nat.le_of_ble_eq_true rfl)⟩ hl.1 rfl rfl (Nat.le_of_ble_eq_true rfl) hcs dL_law_1137 (fun H locs hS => ?_)
  refine lv_aload_n hx hb dL_law_1140 rfl (lv_at hl 1 rfl) ?_
  refine rdA C hS hJ hl (k := 1) (by omega) hL rfl dL_law_1141 dL_law_1142 dL_law_1143 dL_law_1144 dL_law_1145 ?_
  refine rdA C hS hJ hl (k := 2) (by omega) hL rfl dL_law_1146 dL_law_1147 dL_law_1148 dL_law_1149 dL_law_1150 ?_
  refine rdA C hS hJ hl (k := 3) (by omega) hL rfl dL_law_1151 dL_law_1152 dL_law_1153 dL_law_1154 dL_law_1155 ?_
  refine rdA C hS hJ hl (k := 4) (by omega) hL rfl dL_law_1156 dL_law_1157 dL_law_1158 dL_law_1159 dL_law_1160 ?_
  refine rdA C hS hJ hl (k := 5) (by omega) hL rfl dL_law_1161 dL_law_1162 dL_law_1163 dL_law_1164 dL_law_1165 ?_
  refine rvI (a := 99) (As := [.int (xs (i + 1)), .int (xs (i + 2)), .int (xs (i + 3)), .int (xs (i + 4)), .int (xs (i + 5))]) (rest := [.int r]) C hS rfl rfl KX8_copy (cX8_copy_ e2) g_1196 ⟨rfl, rfl⟩ ⟨(Nat.le_of_ble_eq_true rfl), (Nat.le_of_ble_eq_true rfl)⟩ hl.1 rfl rfl (Nat.le_of_ble_eq_true rfl) hcs dL_law_1166 (fun H locs hS => ?_)
  exact lv_icmp_eq (tgt := 1411) hx hb dL_law_1169 (by decide) (fun _ => kk _ _ _ hS h2) (fun c => absurd rfl c)
set_option maxRecDepth 100000 in
set_option maxHeartbeats 4000000 in
theorem lc_30 (C : CX G p s m args meth c cL_law 4 (some .boolean) RL) (hS : SR G x H locs) (hJ : LJ G s b L xs) (hl : lv_has ls 4 (lvL G b i)) (hi : i + 6 ≤ L) (hL : L ≤ 3072) (hcs : cells ≤ room_1.cells ∧ slots ≤ room_1.slots) (hC : CI x x)
    (kk : ∀ (H1 : Heap) (locs1 : List Loc) (x1 : XS), SR G x1 H1 locs1 → CI x1 x1 → W p l e room_1 s m args below meth c H1 locs1 cells slots Q (F0 m 1411 ls [])) : W p l e room_1 s m args below meth c H locs cells slots Q (F0 m 1174 ls []) := by
  have hx := C.1
  have hb := C.2.1
  obtain ⟨r, x1, x2, e1, e2, h2⟩ := pr_lay (v1 := xs (i + 1)) (v2 := xs (i + 2)) (v3 := xs (i + 3)) hC
  refine lv_aload_n hx hb dL_law_1174 rfl (lv_at hl 2 rfl) ?_
  refine rdA C hS hJ hl (k := 1) (by omega) hL rfl dL_law_1175 dL_law_1176 dL_law_1177 dL_law_1178 dL_law_1179 ?_
  refine rdA C hS hJ hl (k := 2) (by omega) hL rfl dL_law_1180 dL_law_1181 dL_law_1182 dL_law_1183 dL_law_1184 ?_
  refine rdA C hS hJ hl (k := 3) (by omega) hL rfl dL_law_1185 dL_law_1186 dL_law_1187 dL_law_1188 dL_law_1189 ?_
  refine rvI (a := 0) (As := [.int (xs (i + 1)), .int (xs (i + 2)), .int (xs (i + 3))]) (rest := []) C hS rfl rfl KX7_lay (cX7_lay_ e1) g_741 ⟨rfl, rfl⟩ ⟨(Nat.le_of_ble_eq_true rfl), (Nat.le_of_ble_eq_true rfl)⟩ hl.1 rfl rfl (Nat.le_of_ble_eq_true rfl) hcs dL_law_1190 (fun H locs hS => ?_)
  refine lv_aload_n hx hb dL_law_1193 rfl (lv_at hl 1 rfl) ?_
  refine rdA C hS hJ hl (k := 1) (by omega) hL rfl dL_law_1194 dL_law_1195 dL_law_1196 dL_law_1197 dL_law_1198 ?_
  refine rdA C hS hJ hl (k := 2) (by omega) hL rfl dL_law_1199 dL_law_1200 dL_law_1201 dL_law_1202 dL_law_1203 ?_
  refine rdA C hS hJ hl (k := 3) (by omega) hL rfl dL_law_1204 dL_law_1205 dL_law_1206 dL_law_1207 dL_law_1208 ?_
  refine rvI (a := 99) (As := [.int (xs (i + 1)), .int (xs (i + 2)), .int (xs (i + 3))]) (rest := [.int r]) C hS rfl rfl KX8_lay (cX8_lay_ e2) g_1200 ⟨rfl, rfl⟩ ⟨(Nat.le_of_ble_eq_true rfl), (Nat.le_of_ble_eq_true rfl)⟩ hl.1 rfl rfl (Nat.le_of_ble_eq_true rfl) hcs dL_law_1209 (fun H locs hS => ?_)
  exact lv_icmp_eq (tgt := 1411) hx hb dL_law_1212 (by decide) (fun _ => kk _ _ _ hS h2) (fun c => absurd rfl c)
set_option maxRecDepth 100000 in
set_option maxHeartbeats 4000000 in
theorem lc_31 (C : CX G p s m args meth c cL_law 4 (some .boolean) RL) (hS : SR G x H locs) (hJ : LJ G s b L xs) (hl : lv_has ls 4 (lvL G b i)) (hi : i + 6 ≤ L) (hL : L ≤ 3072) (hcs : cells ≤ room_1.cells ∧ slots ≤ room_1.slots) (hC : CI x x)
    (kk : ∀ (H1 : Heap) (locs1 : List Loc) (x1 : XS), SR G x1 H1 locs1 → CI x1 x1 → W p l e room_1 s m args below meth c H1 locs1 cells slots Q (F0 m 1411 ls [])) : W p l e room_1 s m args below meth c H locs cells slots Q (F0 m 1217 ls []) := by
  have hx := C.1
  have hb := C.2.1
  obtain ⟨r, x1, x2, e1, e2, h2⟩ := pr_ask (v1 := xs (i + 1)) (v2 := xs (i + 2)) hC
  refine lv_aload_n hx hb dL_law_1217 rfl (lv_at hl 2 rfl) ?_
  refine rdA C hS hJ hl (k := 1) (by omega) hL rfl dL_law_1218 dL_law_1219 dL_law_1220 dL_law_1221 dL_law_1222 ?_
  refine rdA C hS hJ hl (k := 2) (by omega) hL rfl dL_law_1223 dL_law_1224 dL_law_1225 dL_law_1226 dL_law_1227 ?_
  refine rvI (a := 0) (As := [.int (xs (i + 1)), .int (xs (i + 2))]) (rest := []) C hS rfl rfl KX7_ask (cX7_ask_ e1) g_754 ⟨rfl, rfl⟩ ⟨(Nat.le_of_ble_eq_true rfl), (Nat.le_of_ble_eq_true rfl)⟩ hl.1 rfl rfl (Nat.le_of_ble_eq_true rfl) hcs dL_law_1228 (fun H locs hS => ?_)
  refine lv_aload_n hx hb dL_law_1231 rfl (lv_at hl 1 rfl) ?_
  refine rdA C hS hJ hl (k := 1) (by omega) hL rfl dL_law_1232 dL_law_1233 dL_law_1234 dL_law_1235 dL_law_1236 ?_
  refine rdA C hS hJ hl (k := 2) (by omega) hL rfl dL_law_1237 dL_law_1238 dL_law_1239 dL_law_1240 dL_law_1241 ?_
  refine rvI (a := 99) (As := [.int (xs (i + 1)), .int (xs (i + 2))]) (rest := [.int r]) C hS rfl rfl KX8_ask (cX8_ask_ e2) g_1207 ⟨rfl, rfl⟩ ⟨(Nat.le_of_ble_eq_true rfl), (Nat.le_of_ble_eq_true rfl)⟩ hl.1 rfl rfl (Nat.le_of_ble_eq_true rfl) hcs dL_law_1242 (fun H locs hS => ?_)
  exact lv_icmp_eq (tgt := 1411) hx hb dL_law_1245 (by decide) (fun _ => kk _ _ _ hS h2) (fun c => absurd rfl c)
set_option maxRecDepth 100000 in
set_option maxHeartbeats 4000000 in
theorem lc_32 (C : CX G p s m args meth c cL_law 4 (some .boolean) RL) (hS : SR G x H locs) (hJ : LJ G s b L xs) (hl : lv_has ls 4 (lvL G b i)) (hi : i + 6 ≤ L) (hL : L ≤ 3072) (hcs : cells ≤ room_1.cells ∧ slots ≤ room_1.slots) (hC : CI x x)
    (kk : ∀ (H1 : Heap) (locs1 : List Loc) (x1 : XS), SR G x1 H1 locs1 → CI x1 x1 → W p l e room_1 s m args below meth c H1 locs1 cells slots Q (F0 m 1411 ls [])) : W p l e room_1 s m args below meth c H locs cells slots Q (F0 m 1250 ls []) := by
  have hx := C.1
  have hb := C.2.1
  obtain ⟨r, x1, x2, e1, e2, h2⟩ := pr_item (v1 := xs (i + 1)) (v2 := xs (i + 2)) hC
  refine lv_aload_n hx hb dL_law_1250 rfl (lv_at hl 2 rfl) ?_
  refine rdA C hS hJ hl (k := 1) (by omega) hL rfl dL_law_1251 dL_law_1252 dL_law_1253 dL_law_1254 dL_law_1255 ?_
  refine rdA C hS hJ hl (k := 2) (by omega) hL rfl dL_law_1256 dL_law_1257 dL_law_1258 dL_law_1259 dL_law_1260 ?_
  refine rvI (a := 0) (As := [.int (xs (i + 1)), .int (xs (i + 2))]) (rest := []) C hS rfl rfl KX7_item (cX7_item_ e1) g_765 ⟨rfl, rfl⟩ ⟨(Nat.le_of_ble_eq_true rfl), (Nat.le_of_ble_eq_true rfl)⟩ hl.1 rfl rfl (Nat.le_of_ble_eq_true rfl) hcs dL_law_1261 (fun H locs hS => ?_)
  refine lv_aload_n hx hb dL_law_1264 rfl (lv_at hl 1 rfl) ?_
  refine rdA C hS hJ hl (k := 1) (by omega) hL rfl dL_law_1265 dL_law_1266 dL_law_1267 dL_law_1268 dL_law_1269 ?_
  refine rdA C hS hJ hl (k := 2) (by omega) hL rfl dL_law_1270 dL_law_1271 dL_law_1272 dL_law_1273 dL_law_1274 ?_
  refine rvI (a := 99) (As := [.int (xs (i + 1)), .int (xs (i + 2))]) (rest := [.int r]) C hS rfl rfl KX8_item (cX8_item_ e2) g_1211 ⟨rfl, rfl⟩ ⟨(Nat.le_of_ble_eq_true rfl), (Nat.le_of_ble_eq_true rfl)⟩ hl.1 rfl rfl (Nat.le_of_ble_eq_true rfl) hcs dL_law_1275 (fun H locs hS => ?_)
  exact lv_icmp_eq (tgt := 1411) hx hb dL_law_1278 (by decide) (fun _ => kk _ _ _ hS h2) (fun c => absurd rfl c)
set_option maxRecDepth 100000 in
set_option maxHeartbeats 4000000 in
theorem lc_33 (C : CX G p s m args meth c cL_law 4 (some .boolean) RL) (hS : SR G x H locs) (hJ : LJ G s b L xs) (hl : lv_has ls 4 (lvL G b i)) (hi : i + 6 ≤ L) (hL : L ≤ 3072) (hcs : cells ≤ room_1.cells ∧ slots ≤ room_1.slots) (hC : CI x x)
    (kk : ∀ (H1 : Heap) (locs1 : List Loc) (x1 : XS), SR G x1 H1 locs1 → CI x1 x1 → W p l e room_1 s m args below meth c H1 locs1 cells slots Q (F0 m 1411 ls [])) : W p l e room_1 s m args below meth c H locs cells slots Q (F0 m 1283 ls []) := by
  have hx := C.1
  have hb := C.2.1
  obtain ⟨r, x1, x2, e1, e2, h2⟩ := pr_rest (v1 := xs (i + 1)) (v2 := xs (i + 2)) hC
  refine lv_aload_n hx hb dL_law_1283 rfl (lv_at hl 2 rfl) ?_
  refine rdA C hS hJ hl (k := 1) (by omega) hL rfl dL_law_1284 dL_law_1285 dL_law_1286 dL_law_1287 dL_law_1288 ?_
  refine rdA C hS hJ hl (k := 2) (by omega) hL rfl dL_law_1289 dL_law_1290 dL_law_1291 dL_law_1292 dL_law_1293 ?_
  refine rvI (a := 0) (As := [.int (xs (i + 1)), .int (xs (i + 2))]) (rest := []) C hS rfl rfl KX7_rest (cX7_rest_ e1) g_769 ⟨rfl, rfl⟩ ⟨(Nat.le_of_ble_eq_true rfl), (Nat.le_of_ble_eq_true rfl)⟩ hl.1 rfl rfl (Nat.le_of_ble_eq_true rfl) hcs dL_law_1294 (fun H locs hS => ?_)
  refine lv_aload_n hx hb dL_law_1297 rfl (lv_at hl 1 rfl) ?_
  refine rdA C hS hJ hl (k := 1) (by omega) hL rfl dL_law_1298 dL_law_1299 dL_law_1300 dL_law_1301 dL_law_1302 ?_
  refine rdA C hS hJ hl (k := 2) (by omega) hL rfl dL_law_1303 dL_law_1304 dL_law_1305 dL_law_1306 dL_law_1307 ?_
  refine rvI (a := 99) (As := [.int (xs (i + 1)), .int (xs (i + 2))]) (rest := [.int r]) C hS rfl rfl KX8_rest (cX8_rest_ e2) g_1215 ⟨rfl, rfl⟩ ⟨(Nat.le_of_ble_eq_true rfl), (Nat.le_of_ble_eq_true rfl)⟩ hl.1 rfl rfl (Nat.le_of_ble_eq_true rfl) hcs dL_law_1308 (fun H locs hS => ?_)
  exact lv_icmp_eq (tgt := 1411) hx hb dL_law_1311 (by decide) (fun _ => kk _ _ _ hS h2) (fun c => absurd rfl c)
set_option maxRecDepth 100000 in
set_option maxHeartbeats 4000000 in
theorem lc_34 (C : CX G p s m args meth c cL_law 4 (some .boolean) RL) (hS : SR G x H locs) (hJ : LJ G s b L xs) (hl : lv_has ls 4 (lvL G b i)) (hi : i + 6 ≤ L) (hL : L ≤ 3072) (hcs : cells ≤ room_1.cells ∧ slots ≤ room_1.slots) (hC : CI x x)
    (kk : ∀ (H1 : Heap) (locs1 : List Loc) (x1 : XS), SR G x1 H1 locs1 → CI x1 x1 → W p l e room_1 s m args below meth c H1 locs1 cells slots Q (F0 m 1411 ls [])) : W p l e room_1 s m args below meth c H locs cells slots Q (F0 m 1316 ls []) := by
  have hx := C.1
  have hb := C.2.1
  obtain ⟨r, x1, x2, e1, e2, h2⟩ := pr_tell (v1 := xs (i + 1)) hC
  refine lv_aload_n hx hb dL_law_1316 rfl (lv_at hl 2 rfl) ?_
  refine rdA C hS hJ hl (k := 1) (by omega) hL rfl dL_law_1317 dL_law_1318 dL_law_1319 dL_law_1320 dL_law_1321 ?_
  refine rvI (a := 0) (As := [.int (xs (i + 1))]) (rest := []) C hS rfl rfl KX7_tell (cX7_tell_ e1) g_774 ⟨rfl, rfl⟩ ⟨(Nat.le_of_ble_eq_true rfl), (Nat.le_of_ble_eq_true rfl)⟩ hl.1 rfl rfl (Nat.le_of_ble_eq_true rfl) hcs dL_law_1322 (fun H locs hS => ?_)
  refine lv_aload_n hx hb dL_law_1325 rfl (lv_at hl 1 rfl) ?_
  refine rdA C hS hJ hl (k := 1) (by omega) hL rfl dL_law_1326 dL_law_1327 dL_law_1328 dL_law_1329 dL_law_1330 ?_
  refine rvI (a := 99) (As := [.int (xs (i + 1))]) (rest := [.int r]) C hS rfl rfl KX8_tell (cX8_tell_ e2) g_1220 ⟨rfl, rfl⟩ ⟨(Nat.le_of_ble_eq_true rfl), (Nat.le_of_ble_eq_true rfl)⟩ hl.1 rfl rfl (Nat.le_of_ble_eq_true rfl) hcs dL_law_1331 (fun H locs hS => ?_)
  exact lv_icmp_eq (tgt := 1411) hx hb dL_law_1334 (by decide) (fun _ => kk _ _ _ hS h2) (fun c => absurd rfl c)
set_option maxRecDepth 100000 in
set_option maxHeartbeats 4000000 in
theorem lc_35 (C : CX G p s m args meth c cL_law 4 (some .boolean) RL) (hS : SR G x H locs) (hJ : LJ G s b L xs) (hl : lv_has ls 4 (lvL G b i)) (hi : i + 6 ≤ L) (hL : L ≤ 3072) (hcs : cells ≤ room_1.cells ∧ slots ≤ room_1.slots) (hC : CI x x)
    (kk : ∀ (H1 : Heap) (locs1 : List Loc) (x1 : XS), SR G x1 H1 locs1 → CI x1 x1 → W p l e room_1 s m args below meth c H1 locs1 cells slots Q (F0 m 1411 ls [])) : W p l e room_1 s m args below meth c H locs cells slots Q (F0 m 1339 ls []) := by
  have hx := C.1
  have hb := C.2.1
  obtain ⟨r, x1, x2, e1, e2, h2⟩ := pr_check (v1 := xs (i + 1)) hC
  refine lv_aload_n hx hb dL_law_1339 rfl (lv_at hl 2 rfl) ?_
  refine rdA C hS hJ hl (k := 1) (by omega) hL rfl dL_law_1340 dL_law_1341 dL_law_1342 dL_law_1343 dL_law_1344 ?_
  refine rvI (a := 0) (As := [.int (xs (i + 1))]) (rest := []) C hS rfl rfl KX7_check (cX7_check_ e1) g_778 ⟨rfl, rfl⟩ ⟨(Nat.le_of_ble_eq_true rfl), (Nat.le_of_ble_eq_true rfl)⟩ hl.1 rfl rfl (Nat.le_of_ble_eq_true rfl) hcs dL_law_1345 (fun H locs hS => ?_)
  refine lv_aload_n hx hb dL_law_1348 rfl (lv_at hl 1 rfl) ?_
  refine rdA C hS hJ hl (k := 1) (by omega) hL rfl dL_law_1349 dL_law_1350 dL_law_1351 dL_law_1352 dL_law_1353 ?_
  refine rvI (a := 99) (As := [.int (xs (i + 1))]) (rest := [.int r]) C hS rfl rfl KX8_check (cX8_check_ e2) g_1224 ⟨rfl, rfl⟩ ⟨(Nat.le_of_ble_eq_true rfl), (Nat.le_of_ble_eq_true rfl)⟩ hl.1 rfl rfl (Nat.le_of_ble_eq_true rfl) hcs dL_law_1354 (fun H locs hS => ?_)
  exact lv_icmp_eq (tgt := 1411) hx hb dL_law_1357 (by decide) (fun _ => kk _ _ _ hS h2) (fun c => absurd rfl c)
set_option maxRecDepth 100000 in
set_option maxHeartbeats 4000000 in
theorem lc_36 (C : CX G p s m args meth c cL_law 4 (some .boolean) RL) (hS : SR G x H locs) (hJ : LJ G s b L xs) (hl : lv_has ls 4 (lvL G b i)) (hi : i + 6 ≤ L) (hL : L ≤ 3072) (hcs : cells ≤ room_1.cells ∧ slots ≤ room_1.slots) (hC : CI x x)
    (kk : ∀ (H1 : Heap) (locs1 : List Loc) (x1 : XS), SR G x1 H1 locs1 → CI x1 x1 → W p l e room_1 s m args below meth c H1 locs1 cells slots Q (F0 m 1411 ls [])) : W p l e room_1 s m args below meth c H locs cells slots Q (F0 m 1362 ls []) := by
  have hx := C.1
  have hb := C.2.1
  obtain ⟨r, x1, x2, e1, e2, h2⟩ := pr_keep hC
  refine lv_aload_n hx hb dL_law_1362 rfl (lv_at hl 2 rfl) ?_
  refine rvI (a := 0) (As := []) (rest := []) C hS rfl rfl KX7_keep (cX7_keep_ e1) g_787 ⟨rfl, rfl⟩ ⟨(Nat.le_of_ble_eq_true rfl), (Nat.le_of_ble_eq_true rfl)⟩ hl.1 rfl rfl (Nat.le_of_ble_eq_true rfl) hcs dL_law_1363 (fun H locs hS => ?_)
  refine lv_aload_n hx hb dL_law_1366 rfl (lv_at hl 1 rfl) ?_
  refine rvI (a := 99) (As := []) (rest := [.int r]) C hS rfl rfl KX8_keep (cX8_keep_ e2) g_1231 ⟨rfl, rfl⟩ ⟨(Nat.le_of_ble_eq_true rfl), (Nat.le_of_ble_eq_true rfl)⟩ hl.1 rfl rfl (Nat.le_of_ble_eq_true rfl) hcs dL_law_1367 (fun H locs hS => ?_)
  exact lv_icmp_eq (tgt := 1411) hx hb dL_law_1370 (by decide) (fun _ => kk _ _ _ hS h2) (fun c => absurd rfl c)
set_option maxRecDepth 100000 in
set_option maxHeartbeats 4000000 in
theorem lc_37 (C : CX G p s m args meth c cL_law 4 (some .boolean) RL) (hS : SR G x H locs) (hJ : LJ G s b L xs) (hl : lv_has ls 4 (lvL G b i)) (hi : i + 6 ≤ L) (hL : L ≤ 3072) (hcs : cells ≤ room_1.cells ∧ slots ≤ room_1.slots) (hC : CI x x)
    (kk : ∀ (H1 : Heap) (locs1 : List Loc) (x1 : XS), SR G x1 H1 locs1 → CI x1 x1 → W p l e room_1 s m args below meth c H1 locs1 cells slots Q (F0 m 1411 ls [])) : W p l e room_1 s m args below meth c H locs cells slots Q (F0 m 1375 ls []) := by
  have hx := C.1
  have hb := C.2.1
  obtain ⟨r, x1, x2, e1, e2, h2⟩ := pr_back hC
  refine lv_aload_n hx hb dL_law_1375 rfl (lv_at hl 2 rfl) ?_
  refine rvI (a := 0) (As := []) (rest := []) C hS rfl rfl KX7_back (cX7_back_ e1) g_791 ⟨rfl, rfl⟩ ⟨(Nat.le_of_ble_eq_true rfl), (Nat.le_of_ble_eq_true rfl)⟩ hl.1 rfl rfl (Nat.le_of_ble_eq_true rfl) hcs dL_law_1376 (fun H locs hS => ?_)
  refine lv_aload_n hx hb dL_law_1379 rfl (lv_at hl 1 rfl) ?_
  refine rvI (a := 99) (As := []) (rest := [.int r]) C hS rfl rfl KX8_back (cX8_back_ e2) g_1235 ⟨rfl, rfl⟩ ⟨(Nat.le_of_ble_eq_true rfl), (Nat.le_of_ble_eq_true rfl)⟩ hl.1 rfl rfl (Nat.le_of_ble_eq_true rfl) hcs dL_law_1380 (fun H locs hS => ?_)
  exact lv_icmp_eq (tgt := 1411) hx hb dL_law_1383 (by decide) (fun _ => kk _ _ _ hS h2) (fun c => absurd rfl c)
set_option maxRecDepth 100000 in
set_option maxHeartbeats 4000000 in
theorem lc_38 (C : CX G p s m args meth c cL_law 4 (some .boolean) RL) (hS : SR G x H locs) (hJ : LJ G s b L xs) (hl : lv_has ls 4 (lvL G b i)) (hi : i + 6 ≤ L) (hL : L ≤ 3072) (hcs : cells ≤ room_1.cells ∧ slots ≤ room_1.slots) (hC : CI x x)
    (kk : ∀ (H1 : Heap) (locs1 : List Loc) (x1 : XS), SR G x1 H1 locs1 → CI x1 x1 → W p l e room_1 s m args below meth c H1 locs1 cells slots Q (F0 m 1411 ls [])) : W p l e room_1 s m args below meth c H locs cells slots Q (F0 m 1388 ls []) := by
  have hx := C.1
  have hb := C.2.1
  obtain ⟨r, x1, x2, e1, e2, h2⟩ := pr_count (v1 := xs (i + 1)) hC
  refine lv_aload_n hx hb dL_law_1388 rfl (lv_at hl 2 rfl) ?_
  refine rdA C hS hJ hl (k := 1) (by omega) hL rfl dL_law_1389 dL_law_1390 dL_law_1391 dL_law_1392 dL_law_1393 ?_
  refine rvI (a := 0) (As := [.int (xs (i + 1))]) (rest := []) C hS rfl rfl KX7_count (cX7_count_ e1) g_795 ⟨rfl, rfl⟩ ⟨(Nat.le_of_ble_eq_true rfl), (Nat.le_of_ble_eq_true rfl)⟩ hl.1 rfl rfl (Nat.le_of_ble_eq_true rfl) hcs dL_law_1394 (fun H locs hS => ?_)
  refine lv_aload_n hx hb dL_law_1397 rfl (lv_at hl 1 rfl) ?_
  refine rdA C hS hJ hl (k := 1) (by omega) hL rfl dL_law_1398 dL_law_1399 dL_law_1400 dL_law_1401 dL_law_1402 ?_
  refine rvI (a := 99) (As := [.int (xs (i + 1))]) (rest := [.int r]) C hS rfl rfl KX8_count (cX8_count_ e2) g_1239 ⟨rfl, rfl⟩ ⟨(Nat.le_of_ble_eq_true rfl), (Nat.le_of_ble_eq_true rfl)⟩ hl.1 rfl rfl (Nat.le_of_ble_eq_true rfl) hcs dL_law_1403 (fun H locs hS => ?_)
  exact lv_icmp_eq (tgt := 1411) hx hb dL_law_1406 (by decide) (fun _ => kk _ _ _ hS h2) (fun c => absurd rfl c)
end LAWC
