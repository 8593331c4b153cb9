/-! THE LAW: its cases -/
section LAWC
variable {p : Program} {l : Launch} {e : Env} {s : State} {m : MethodId} {below : List Frame} {meth : Method} {c : Code} {b L : Nat} {xs : Nat → Int32} {H : Heap} {locs : List Loc} {cells slots : Nat} {Z : State → Prop}
variable {z t u : Nat} {D : va_G} {I : aI} {ls : Array Slot} {i k : Nat} {M : aM} {Wd : aW} {L2 : Int}
theorem law_push2 (C0 : lw_At p s m meth c b L xs) (hL : L ≤ 3072) (hz : z = s.heap.size) (hS : va_S (AAz z) s.heap H locs) (hl : lv_has ls 7 (lwV b z i)) {k P : Nat} (hk : k ≤ 5) (hi : i + k < L) {st : List Value} (d0 : decode code P = .ok (.aload_n 0, 1)) (d1 : decode code (P + 1) = .ok (.iload 4, 2)) (d3 : decode code (P + 3) = .ok (.iconst (k : Int), 1)) (d4 : decode code (P + 4) = .ok (.iadd, 1)) (d5 : decode code (P + 5) = .ok (.iaload, 1))
    (kk : W p l e room_1 s m #[Value.ref b] below meth c H locs cells slots Z (F0 m (P + 6) ls (.int (Int32.ofInt (xs (i + k)).toInt) :: st))) : W p l e room_1 s m #[Value.ref b] below meth c H locs cells slots Z (F0 m P ls st) := by
  refine law_push C0 hL hz hS hl hk hi d0 d1 d3 d4 d5 ?_
  rw [Int32.ofInt_toInt] at kk
  exact kk
theorem case_feed (C0 : lw_At p s m meth c b L xs) (hL : L ≤ 3072) (hz : z = s.heap.size) (hKK : KK z t u D I s s.heap) (hl : lv_has ls 7 (lwV b z i)) (hi : i + 5 < L) (hPS : PS L2 M Wd) (hb : bld_ 126 (M, Wd)) (hbud : bud L2 k cells slots) (hk : k ≤ 512) (hR : Rel z t u D I (M, Wd) H) (hSS : va_S (AAz z) s.heap H locs)
    (tail : ∀ (H1 : Heap) (locs1 : List Loc) (e1 e2 : Nat) (M1 : aM) (W1 : aW) (L3 : Int), PS L3 M1 W1 → bld_ 126 (M1, W1) → bud L3 k e1 e2 → Rel z t u D I (M1, W1) H1 → va_S (AAz z) s.heap H1 locs1 → W p l e room_1 s m #[Value.ref b] below meth c H1 locs1 e1 e2 Z (F0 m 1123 ls [])) : W p l e room_1 s m #[Value.ref b] below meth c H locs cells slots Z (F0 m 176 ls []) := by
  refine lv_aload_n C0.1 C0.2.1 dl_176 rfl (lv_at hl 1 rfl) ?_
  refine law_push2 C0 hL hz hSS hl (k := 1) (P := 177) (by decide) (by omega) dl_177 dl_178 dl_180 dl_181 dl_182 ?_
  refine law_push2 C0 hL hz hSS hl (k := 2) (P := 183) (by decide) (by omega) dl_183 dl_184 dl_186 dl_187 dl_188 ?_
  refine law_push2 C0 hL hz hSS hl (k := 3) (P := 189) (by decide) (by omega) dl_189 dl_190 dl_192 dl_193 dl_194 ?_
  refine law_push2 C0 hL hz hSS hl (k := 4) (P := 195) (by decide) (by omega) dl_195 dl_196 dl_198 dl_199 dl_200 ?_
  refine law_push2 C0 hL hz hSS hl (k := 5) (P := 201) (by decide) (by omega) dl_201 dl_202 dl_204 dl_205 dl_206 ?_
  refine law_two_I (P := 207) (Pm := 241) (as' := [vI (xs (i + 1)).toInt, vI (xs (i + 2)).toInt, vI (xs (i + 3)).toInt, vI (xs (i + 4)).toInt, vI (xs (i + 5)).toInt]) C0 hz hKK mth_119 mth_154 rfl rfl dl_207 dl_241 dl_244 (by decide) (Nat.le_of_ble_eq_true rfl) (Nat.le_of_ble_eq_true rfl) rfl rfl (p_feed hPS (y_in _) (y_in _) (y_in _) (y_in _) (y_in _)) hb hbud hk hR hSS hl.1 (fun H1 locs1 e1 e2 r hS1 kk => ?_) tail
  refine lv_aload_n C0.1 C0.2.1 dl_210 rfl (lv_at hl 2 rfl) ?_
  refine law_push2 C0 hL hz hS1 hl (k := 1) (P := 211) (by decide) (by omega) dl_211 dl_212 dl_214 dl_215 dl_216 ?_
  refine law_push2 C0 hL hz hS1 hl (k := 2) (P := 217) (by decide) (by omega) dl_217 dl_218 dl_220 dl_221 dl_222 ?_
  refine law_push2 C0 hL hz hS1 hl (k := 3) (P := 223) (by decide) (by omega) dl_223 dl_224 dl_226 dl_227 dl_228 ?_
  refine law_push2 C0 hL hz hS1 hl (k := 4) (P := 229) (by decide) (by omega) dl_229 dl_230 dl_232 dl_233 dl_234 ?_
  refine law_push2 C0 hL hz hS1 hl (k := 5) (P := 235) (by decide) (by omega) dl_235 dl_236 dl_238 dl_239 dl_240 ?_
  exact kk
theorem case_land (C0 : lw_At p s m meth c b L xs) (hL : L ≤ 3072) (hz : z = s.heap.size) (hKK : KK z t u D I s s.heap) (hl : lv_has ls 7 (lwV b z i)) (hi : i + 5 < L) (hPS : PS L2 M Wd) (hb : bld_ 126 (M, Wd)) (hbud : bud L2 k cells slots) (hk : k ≤ 512) (hR : Rel z t u D I (M, Wd) H) (hSS : va_S (AAz z) s.heap H locs)
    (tail : ∀ (H1 : Heap) (locs1 : List Loc) (e1 e2 : Nat) (M1 : aM) (W1 : aW) (L3 : Int), PS L3 M1 W1 → bld_ 126 (M1, W1) → bud L3 k e1 e2 → Rel z t u D I (M1, W1) H1 → va_S (AAz z) s.heap H1 locs1 → W p l e room_1 s m #[Value.ref b] below meth c H1 locs1 e1 e2 Z (F0 m 1123 ls [])) : W p l e room_1 s m #[Value.ref b] below meth c H locs cells slots Z (F0 m 249 ls []) := by
  refine lv_aload_n C0.1 C0.2.1 dl_249 rfl (lv_at hl 1 rfl) ?_
  refine law_push2 C0 hL hz hSS hl (k := 1) (P := 250) (by decide) (by omega) dl_250 dl_251 dl_253 dl_254 dl_255 ?_
  refine law_two_I (P := 256) (Pm := 266) (as' := [vI (xs (i + 1)).toInt]) C0 hz hKK mth_120 mth_178 rfl rfl dl_256 dl_266 dl_269 (by decide) (Nat.le_of_ble_eq_true rfl) (Nat.le_of_ble_eq_true rfl) rfl rfl (p_land hPS (y_in _)) hb hbud hk hR hSS hl.1 (fun H1 locs1 e1 e2 r hS1 kk => ?_) tail
  refine lv_aload_n C0.1 C0.2.1 dl_259 rfl (lv_at hl 2 rfl) ?_
  refine law_push2 C0 hL hz hS1 hl (k := 1) (P := 260) (by decide) (by omega) dl_260 dl_261 dl_263 dl_264 dl_265 ?_
  exact kk
theorem case_fault (C0 : lw_At p s m meth c b L xs) (hL : L ≤ 3072) (hz : z = s.heap.size) (hKK : KK z t u D I s s.heap) (hl : lv_has ls 7 (lwV b z i)) (hi : i + 5 < L) (hPS : PS L2 M Wd) (hb : bld_ 126 (M, Wd)) (hbud : bud L2 k cells slots) (hk : k ≤ 512) (hR : Rel z t u D I (M, Wd) H) (hSS : va_S (AAz z) s.heap H locs)
    (tail : ∀ (H1 : Heap) (locs1 : List Loc) (e1 e2 : Nat) (M1 : aM) (W1 : aW) (L3 : Int), PS L3 M1 W1 → bld_ 126 (M1, W1) → bud L3 k e1 e2 → Rel z t u D I (M1, W1) H1 → va_S (AAz z) s.heap H1 locs1 → W p l e room_1 s m #[Value.ref b] below meth c H1 locs1 e1 e2 Z (F0 m 1123 ls [])) : W p l e room_1 s m #[Value.ref b] below meth c H locs cells slots Z (F0 m 274 ls []) := by
  refine lv_aload_n C0.1 C0.2.1 dl_274 rfl (lv_at hl 1 rfl) ?_
  refine law_push2 C0 hL hz hSS hl (k := 1) (P := 275) (by decide) (by omega) dl_275 dl_276 dl_278 dl_279 dl_280 ?_
  refine law_two_I (P := 281) (Pm := 291) (as' := [vI (xs (i + 1)).toInt]) C0 hz hKK mth_121 mth_179 rfl rfl dl_281 dl_291 dl_294 (by decide) (Nat.le_of_ble_eq_true rfl) (Nat.le_of_ble_eq_true rfl) rfl rfl (p_fault hPS (y_in _)) hb hbud hk hR hSS hl.1 (fun H1 locs1 e1 e2 r hS1 kk => ?_) tail
  refine lv_aload_n C0.1 C0.2.1 dl_284 rfl (lv_at hl 2 rfl) ?_
  refine law_push2 C0 hL hz hS1 hl (k := 1) (P := 285) (by decide) (by omega) dl_285 dl_286 dl_288 dl_289 dl_290 ?_
  exact kk
theorem case_weight (C0 : lw_At p s m meth c b L xs) (hL : L ≤ 3072) (hz : z = s.heap.size) (hKK : KK z t u D I s s.heap) (hl : lv_has ls 7 (lwV b z i)) (hi : i + 5 < L) (hPS : PS L2 M Wd) (hb : bld_ 126 (M, Wd)) (hbud : bud L2 k cells slots) (hk : k ≤ 512) (hR : Rel z t u D I (M, Wd) H) (hSS : va_S (AAz z) s.heap H locs)
    (tail : ∀ (H1 : Heap) (locs1 : List Loc) (e1 e2 : Nat) (M1 : aM) (W1 : aW) (L3 : Int), PS L3 M1 W1 → bld_ 126 (M1, W1) → bud L3 k e1 e2 → Rel z t u D I (M1, W1) H1 → va_S (AAz z) s.heap H1 locs1 → W p l e room_1 s m #[Value.ref b] below meth c H1 locs1 e1 e2 Z (F0 m 1123 ls [])) : W p l e room_1 s m #[Value.ref b] below meth c H locs cells slots Z (F0 m 367 ls []) := by
  refine lv_aload_n C0.1 C0.2.1 dl_367 rfl (lv_at hl 1 rfl) ?_
  refine law_push2 C0 hL hz hSS hl (k := 1) (P := 368) (by decide) (by omega) dl_368 dl_369 dl_371 dl_372 dl_373 ?_
  refine law_two_L (P := 374) (Pm := 384) (as' := [vI (xs (i + 1)).toInt]) C0 hz hKK mth_122 mth_195 rfl rfl dl_374 dl_384 dl_387 dl_388 (by decide) (Nat.le_of_ble_eq_true rfl) (Nat.le_of_ble_eq_true rfl) rfl rfl (p_weight hPS (y_in _)) hb hbud hk hR hSS hl.1 (fun H1 locs1 e1 e2 r hS1 kk => ?_) tail
  refine lv_aload_n C0.1 C0.2.1 dl_377 rfl (lv_at hl 2 rfl) ?_
  refine law_push2 C0 hL hz hS1 hl (k := 1) (P := 378) (by decide) (by omega) dl_378 dl_379 dl_381 dl_382 dl_383 ?_
  exact kk
theorem case_likely (C0 : lw_At p s m meth c b L xs) (hL : L ≤ 3072) (hz : z = s.heap.size) (hKK : KK z t u D I s s.heap) (hl : lv_has ls 7 (lwV b z i)) (hi : i + 5 < L) (hPS : PS L2 M Wd) (hb : bld_ 126 (M, Wd)) (hbud : bud L2 k cells slots) (hk : k ≤ 512) (hR : Rel z t u D I (M, Wd) H) (hSS : va_S (AAz z) s.heap H locs)
    (tail : ∀ (H1 : Heap) (locs1 : List Loc) (e1 e2 : Nat) (M1 : aM) (W1 : aW) (L3 : Int), PS L3 M1 W1 → bld_ 126 (M1, W1) → bud L3 k e1 e2 → Rel z t u D I (M1, W1) H1 → va_S (AAz z) s.heap H1 locs1 → W p l e room_1 s m #[Value.ref b] below meth c H1 locs1 e1 e2 Z (F0 m 1123 ls [])) : W p l e room_1 s m #[Value.ref b] below meth c H locs cells slots Z (F0 m 393 ls []) := by
  refine lv_aload_n C0.1 C0.2.1 dl_393 rfl (lv_at hl 1 rfl) ?_
  refine law_push2 C0 hL hz hSS hl (k := 1) (P := 394) (by decide) (by omega) dl_394 dl_395 dl_397 dl_398 dl_399 ?_
  refine law_two_L (P := 400) (Pm := 410) (as' := [vI (xs (i + 1)).toInt]) C0 hz hKK mth_123 mth_196 rfl rfl dl_400 dl_410 dl_413 dl_414 (by decide) (Nat.le_of_ble_eq_true rfl) (Nat.le_of_ble_eq_true rfl) rfl rfl (p_likely hPS (y_in _)) hb hbud hk hR hSS hl.1 (fun H1 locs1 e1 e2 r hS1 kk => ?_) tail
  refine lv_aload_n C0.1 C0.2.1 dl_403 rfl (lv_at hl 2 rfl) ?_
  refine law_push2 C0 hL hz hS1 hl (k := 1) (P := 404) (by decide) (by omega) dl_404 dl_405 dl_407 dl_408 dl_409 ?_
  exact kk
theorem case_shut (C0 : lw_At p s m meth c b L xs) (hL : L ≤ 3072) (hz : z = s.heap.size) (hKK : KK z t u D I s s.heap) (hl : lv_has ls 7 (lwV b z i)) (hi : i + 5 < L) (hPS : PS L2 M Wd) (hb : bld_ 126 (M, Wd)) (hbud : bud L2 k cells slots) (hk : k ≤ 512) (hR : Rel z t u D I (M, Wd) H) (hSS : va_S (AAz z) s.heap H locs)
    (tail : ∀ (H1 : Heap) (locs1 : List Loc) (e1 e2 : Nat) (M1 : aM) (W1 : aW) (L3 : Int), PS L3 M1 W1 → bld_ 126 (M1, W1) → bud L3 k e1 e2 → Rel z t u D I (M1, W1) H1 → va_S (AAz z) s.heap H1 locs1 → W p l e room_1 s m #[Value.ref b] below meth c H1 locs1 e1 e2 Z (F0 m 1123 ls [])) : W p l e room_1 s m #[Value.ref b] below meth c H locs cells slots Z (F0 m 419 ls []) := by
  refine lv_aload_n C0.1 C0.2.1 dl_419 rfl (lv_at hl 1 rfl) ?_
  refine law_push2 C0 hL hz hSS hl (k := 1) (P := 420) (by decide) (by omega) dl_420 dl_421 dl_423 dl_424 dl_425 ?_
  refine law_push2 C0 hL hz hSS hl (k := 2) (P := 426) (by decide) (by omega) dl_426 dl_427 dl_429 dl_430 dl_431 ?_
  refine law_two_L (P := 432) (Pm := 448) (as' := [vI (xs (i + 1)).toInt, vI (xs (i + 2)).toInt]) C0 hz hKK mth_124 mth_197 rfl rfl dl_432 dl_448 dl_451 dl_452 (by decide) (Nat.le_of_ble_eq_true rfl) (Nat.le_of_ble_eq_true rfl) rfl rfl (p_shut hPS (y_in _) (y_in _)) hb hbud hk hR hSS hl.1 (fun H1 locs1 e1 e2 r hS1 kk => ?_) tail
  refine lv_aload_n C0.1 C0.2.1 dl_435 rfl (lv_at hl 2 rfl) ?_
  refine law_push2 C0 hL hz hS1 hl (k := 1) (P := 436) (by decide) (by omega) dl_436 dl_437 dl_439 dl_440 dl_441 ?_
  refine law_push2 C0 hL hz hS1 hl (k := 2) (P := 442) (by decide) (by omega) dl_442 dl_443 dl_445 dl_446 dl_447 ?_
  exact kk
theorem case_knowing (C0 : lw_At p s m meth c b L xs) (hL : L ≤ 3072) (hz : z = s.heap.size) (hKK : KK z t u D I s s.heap) (hl : lv_has ls 7 (lwV b z i)) (hi : i + 5 < L) (hPS : PS L2 M Wd) (hb : bld_ 126 (M, Wd)) (hbud : bud L2 k cells slots) (hk : k ≤ 512) (hR : Rel z t u D I (M, Wd) H) (hSS : va_S (AAz z) s.heap H locs)
    (tail : ∀ (H1 : Heap) (locs1 : List Loc) (e1 e2 : Nat) (M1 : aM) (W1 : aW) (L3 : Int), PS L3 M1 W1 → bld_ 126 (M1, W1) → bud L3 k e1 e2 → Rel z t u D I (M1, W1) H1 → va_S (AAz z) s.heap H1 locs1 → W p l e room_1 s m #[Value.ref b] below meth c H1 locs1 e1 e2 Z (F0 m 1123 ls [])) : W p l e room_1 s m #[Value.ref b] below meth c H locs cells slots Z (F0 m 457 ls []) := by
  refine lv_aload_n C0.1 C0.2.1 dl_457 rfl (lv_at hl 1 rfl) ?_
  refine law_push2 C0 hL hz hSS hl (k := 1) (P := 458) (by decide) (by omega) dl_458 dl_459 dl_461 dl_462 dl_463 ?_
  refine law_two_I (P := 464) (Pm := 474) (as' := [vI (xs (i + 1)).toInt]) C0 hz hKK mth_125 mth_206 rfl rfl dl_464 dl_474 dl_477 (by decide) (Nat.le_of_ble_eq_true rfl) (Nat.le_of_ble_eq_true rfl) rfl rfl (p_knowing hPS (y_in _)) hb hbud hk hR hSS hl.1 (fun H1 locs1 e1 e2 r hS1 kk => ?_) tail
  refine lv_aload_n C0.1 C0.2.1 dl_467 rfl (lv_at hl 2 rfl) ?_
  refine law_push2 C0 hL hz hS1 hl (k := 1) (P := 468) (by decide) (by omega) dl_468 dl_469 dl_471 dl_472 dl_473 ?_
  exact kk
theorem case_mean (C0 : lw_At p s m meth c b L xs) (hL : L ≤ 3072) (hz : z = s.heap.size) (hKK : KK z t u D I s s.heap) (hl : lv_has ls 7 (lwV b z i)) (hi : i + 5 < L) (hPS : PS L2 M Wd) (hb : bld_ 126 (M, Wd)) (hbud : bud L2 k cells slots) (hk : k ≤ 512) (hR : Rel z t u D I (M, Wd) H) (hSS : va_S (AAz z) s.heap H locs)
    (tail : ∀ (H1 : Heap) (locs1 : List Loc) (e1 e2 : Nat) (M1 : aM) (W1 : aW) (L3 : Int), PS L3 M1 W1 → bld_ 126 (M1, W1) → bud L3 k e1 e2 → Rel z t u D I (M1, W1) H1 → va_S (AAz z) s.heap H1 locs1 → W p l e room_1 s m #[Value.ref b] below meth c H1 locs1 e1 e2 Z (F0 m 1123 ls [])) : W p l e room_1 s m #[Value.ref b] below meth c H locs cells slots Z (F0 m 482 ls []) := by
  refine lv_aload_n C0.1 C0.2.1 dl_482 rfl (lv_at hl 1 rfl) ?_
  refine law_push2 C0 hL hz hSS hl (k := 1) (P := 483) (by decide) (by omega) dl_483 dl_484 dl_486 dl_487 dl_488 ?_
  refine law_two_L (P := 489) (Pm := 499) (as' := [vI (xs (i + 1)).toInt]) C0 hz hKK mth_126 mth_234 rfl rfl dl_489 dl_499 dl_502 dl_503 (by decide) (Nat.le_of_ble_eq_true rfl) (Nat.le_of_ble_eq_true rfl) rfl rfl (p_mean hPS (y_in _)) hb hbud hk hR hSS hl.1 (fun H1 locs1 e1 e2 r hS1 kk => ?_) tail
  refine lv_aload_n C0.1 C0.2.1 dl_492 rfl (lv_at hl 2 rfl) ?_
  refine law_push2 C0 hL hz hS1 hl (k := 1) (P := 493) (by decide) (by omega) dl_493 dl_494 dl_496 dl_497 dl_498 ?_
  exact kk
theorem case_worst (C0 : lw_At p s m meth c b L xs) (hL : L ≤ 3072) (hz : z = s.heap.size) (hKK : KK z t u D I s s.heap) (hl : lv_has ls 7 (lwV b z i)) (hi : i + 5 < L) (hPS : PS L2 M Wd) (hb : bld_ 126 (M, Wd)) (hbud : bud L2 k cells slots) (hk : k ≤ 512) (hR : Rel z t u D I (M, Wd) H) (hSS : va_S (AAz z) s.heap H locs)
    (tail : ∀ (H1 : Heap) (locs1 : List Loc) (e1 e2 : Nat) (M1 : aM) (W1 : aW) (L3 : Int), PS L3 M1 W1 → bld_ 126 (M1, W1) → bud L3 k e1 e2 → Rel z t u D I (M1, W1) H1 → va_S (AAz z) s.heap H1 locs1 → W p l e room_1 s m #[Value.ref b] below meth c H1 locs1 e1 e2 Z (F0 m 1123 ls [])) : W p l e room_1 s m #[Value.ref b] below meth c H locs cells slots Z (F0 m 508 ls []) := by
  refine lv_aload_n C0.1 C0.2.1 dl_508 rfl (lv_at hl 1 rfl) ?_
  refine law_push2 C0 hL hz hSS hl (k := 1) (P := 509) (by decide) (by omega) dl_509 dl_510 dl_512 dl_513 dl_514 ?_
  refine law_two_I (P := 515) (Pm := 525) (as' := [vI (xs (i + 1)).toInt]) C0 hz hKK mth_127 mth_235 rfl rfl dl_515 dl_525 dl_528 (by decide) (Nat.le_of_ble_eq_true rfl) (Nat.le_of_ble_eq_true rfl) rfl rfl (p_worst hPS (y_in _)) hb hbud hk hR hSS hl.1 (fun H1 locs1 e1 e2 r hS1 kk => ?_) tail
  refine lv_aload_n C0.1 C0.2.1 dl_518 rfl (lv_at hl 2 rfl) ?_
  refine law_push2 C0 hL hz hS1 hl (k := 1) (P := 519) (by decide) (by omega) dl_519 dl_520 dl_522 dl_523 dl_524 ?_
  exact kk
theorem case_hours (C0 : lw_At p s m meth c b L xs) (hL : L ≤ 3072) (hz : z = s.heap.size) (hKK : KK z t u D I s s.heap) (hl : lv_has ls 7 (lwV b z i)) (hi : i + 5 < L) (hPS : PS L2 M Wd) (hb : bld_ 126 (M, Wd)) (hbud : bud L2 k cells slots) (hk : k ≤ 512) (hR : Rel z t u D I (M, Wd) H) (hSS : va_S (AAz z) s.heap H locs)
    (tail : ∀ (H1 : Heap) (locs1 : List Loc) (e1 e2 : Nat) (M1 : aM) (W1 : aW) (L3 : Int), PS L3 M1 W1 → bld_ 126 (M1, W1) → bud L3 k e1 e2 → Rel z t u D I (M1, W1) H1 → va_S (AAz z) s.heap H1 locs1 → W p l e room_1 s m #[Value.ref b] below meth c H1 locs1 e1 e2 Z (F0 m 1123 ls [])) : W p l e room_1 s m #[Value.ref b] below meth c H locs cells slots Z (F0 m 533 ls []) := by
  refine lv_aload_n C0.1 C0.2.1 dl_533 rfl (lv_at hl 1 rfl) ?_
  refine law_push2 C0 hL hz hSS hl (k := 1) (P := 534) (by decide) (by omega) dl_534 dl_535 dl_537 dl_538 dl_539 ?_
  refine law_push2 C0 hL hz hSS hl (k := 2) (P := 540) (by decide) (by omega) dl_540 dl_541 dl_543 dl_544 dl_545 ?_
  refine law_two_I (P := 546) (Pm := 562) (as' := [vI (xs (i + 1)).toInt, vI (xs (i + 2)).toInt]) C0 hz hKK mth_128 mth_236 rfl rfl dl_546 dl_562 dl_565 (by decide) (Nat.le_of_ble_eq_true rfl) (Nat.le_of_ble_eq_true rfl) rfl rfl (p_hours hPS (y_in _) (y_in _)) hb hbud hk hR hSS hl.1 (fun H1 locs1 e1 e2 r hS1 kk => ?_) tail
  refine lv_aload_n C0.1 C0.2.1 dl_549 rfl (lv_at hl 2 rfl) ?_
  refine law_push2 C0 hL hz hS1 hl (k := 1) (P := 550) (by decide) (by omega) dl_550 dl_551 dl_553 dl_554 dl_555 ?_
  refine law_push2 C0 hL hz hS1 hl (k := 2) (P := 556) (by decide) (by omega) dl_556 dl_557 dl_559 dl_560 dl_561 ?_
  exact kk
end LAWC
