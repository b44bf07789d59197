/-! the law's cases (written by gen_law.py) -/
theorem lv_low {g : Gl} {b : Nat} {i x y : Int32} (k : Nat) (v : Value) (h : (lvL g b i)[k]? = some (some v)) : ((lvL g b i).set 5 (some (.int x)) |>.set 6 (some (.int y)))[k]? = some (some v) := by
  match k, h with
  | 0, h => exact h
  | 1, h => exact h
  | 2, h => exact h
  | 3, h => exact h
  | 4, h => exact h
  | 5, h => cases h
  | 6, h => cases h
  | n + 7, h => simp at h
section LC
variable {X : Cx} {g : Gl} {l : Launch} {Q : State → Prop} {R : Rf} {T : Mm} {b L i : Nat} {xs : Nat → Int32} {ad adK adV : Nat → Nat} {sz : Nat}
theorem lc_0 (K : Ok X g l cL_law RL 7 (some .boolean) room_1) (hG : g.2.2.2.1 = kdL) (hSH : SH g adK adV sz) (hs : SAr X b L xs) (hL : L ≤ 3072) (hi : i + 6 ≤ L) (hiv : IV R T) (kk : ∀ R' V', IV R' V' → Zj X g 7 Q R' V' (lvL g b (nI i)) [] 1319) : Zj X g 7 Q R T (lvL g b (nI i)) [] 220 := by
  have hR := hiv.ty hG
  have k0 : kd g 0 = 11 := by unfold kd; rw [hG]; rfl
  have k105 : kd g 105 = 12 := by unfold kd; rw [hG]; rfl
  obtain ⟨a, V, V', h1, h2, h3⟩ := q_feed hiv (xs (i + 1)) (xs (i + 2)) (xs (i + 3)) (xs (i + 4)) (xs (i + 5))
  refine z_aload_n K dL_law_220 rfl ?_
  refine z_arg (j := 1) K hs hL (by omega) rfl rfl rfl dL_law_221 dL_law_222 dL_law_224 dL_law_225 dL_law_226 ?_
  refine z_arg (j := 2) K hs hL (by omega) rfl rfl rfl dL_law_227 dL_law_228 dL_law_230 dL_law_231 dL_law_232 ?_
  refine z_arg (j := 3) K hs hL (by omega) rfl rfl rfl dL_law_233 dL_law_234 dL_law_236 dL_law_237 dL_law_238 ?_
  refine z_arg (j := 4) K hs hL (by omega) rfl rfl rfl dL_law_239 dL_law_240 dL_law_242 dL_law_243 dL_law_244 ?_
  refine z_arg (j := 5) K hs hL (by omega) rfl rfl rfl dL_law_245 dL_law_246 dL_law_248 dL_law_249 dL_law_250 ?_
  refine z_callVI (v := a) (R' := R) (T' := V) (As := [.int (xs (i + 1)), .int (xs (i + 2)), .int (xs (i + 3)), .int (xs (i + 4)), .int (xs (i + 5))]) (rest := []) K (mX11_feed l hR k0 h1) clX11 k0 ceX11_feed ql_22 ⟨rfl, rfl, rfl, rfl⟩ rfl rfl rfl dL_law_251 ?_
  refine z_aload_n K dL_law_254 rfl ?_
  refine z_arg (j := 1) K hs hL (by omega) rfl rfl rfl dL_law_255 dL_law_256 dL_law_258 dL_law_259 dL_law_260 ?_
  refine z_arg (j := 2) K hs hL (by omega) rfl rfl rfl dL_law_261 dL_law_262 dL_law_264 dL_law_265 dL_law_266 ?_
  refine z_arg (j := 3) K hs hL (by omega) rfl rfl rfl dL_law_267 dL_law_268 dL_law_270 dL_law_271 dL_law_272 ?_
  refine z_arg (j := 4) K hs hL (by omega) rfl rfl rfl dL_law_273 dL_law_274 dL_law_276 dL_law_277 dL_law_278 ?_
  refine z_arg (j := 5) K hs hL (by omega) rfl rfl rfl dL_law_279 dL_law_280 dL_law_282 dL_law_283 dL_law_284 ?_
  refine z_callVI (v := a) (R' := R) (T' := V') (As := [.int (xs (i + 1)), .int (xs (i + 2)), .int (xs (i + 3)), .int (xs (i + 4)), .int (xs (i + 5))]) (rest := [.int a]) K (mX12_feed l (h3.ty hG) k105 h2) clX12 k105 ceX12_feed ql_26 ⟨rfl, rfl, rfl, rfl⟩ rfl rfl rfl dL_law_285 ?_
  exact z_icmp_eq K 1319 dL_law_288 (by decide) (fun _ => kk _ _ h3) (fun c => absurd rfl c)
theorem lc_1 (K : Ok X g l cL_law RL 7 (some .boolean) room_1) (hG : g.2.2.2.1 = kdL) (hSH : SH g adK adV sz) (hs : SAr X b L xs) (hL : L ≤ 3072) (hi : i + 6 ≤ L) (hiv : IV R T) (kk : ∀ R' V', IV R' V' → Zj X g 7 Q R' V' (lvL g b (nI i)) [] 1319) : Zj X g 7 Q R T (lvL g b (nI i)) [] 293 := by
  have hR := hiv.ty hG
  have k0 : kd g 0 = 11 := by unfold kd; rw [hG]; rfl
  have k105 : kd g 105 = 12 := by unfold kd; rw [hG]; rfl
  obtain ⟨a, V, V', h1, h2, h3⟩ := q_end hiv (xs (i + 1))
  refine z_aload_n K dL_law_293 rfl ?_
  refine z_arg (j := 1) K hs hL (by omega) rfl rfl rfl dL_law_294 dL_law_295 dL_law_297 dL_law_298 dL_law_299 ?_
  refine z_callVI (v := a) (R' := R) (T' := V) (As := [.int (xs (i + 1))]) (rest := []) K (mX11_end l hR k0 h1) clX11 k0 ceX11_end ql_27 ⟨rfl, rfl, rfl, rfl⟩ rfl rfl rfl dL_law_300 ?_
  refine z_aload_n K dL_law_303 rfl ?_
  refine z_arg (j := 1) K hs hL (by omega) rfl rfl rfl dL_law_304 dL_law_305 dL_law_307 dL_law_308 dL_law_309 ?_
  refine z_callVI (v := a) (R' := R) (T' := V') (As := [.int (xs (i + 1))]) (rest := [.int a]) K (mX12_end l (h3.ty hG) k105 h2) clX12 k105 ceX12_end ql_31 ⟨rfl, rfl, rfl, rfl⟩ rfl rfl rfl dL_law_310 ?_
  exact z_icmp_eq K 1319 dL_law_313 (by decide) (fun _ => kk _ _ h3) (fun c => absurd rfl c)
theorem lc_2 (K : Ok X g l cL_law RL 7 (some .boolean) room_1) (hG : g.2.2.2.1 = kdL) (hSH : SH g adK adV sz) (hs : SAr X b L xs) (hL : L ≤ 3072) (hi : i + 6 ≤ L) (hiv : IV R T) (kk : ∀ R' V', IV R' V' → Zj X g 7 Q R' V' (lvL g b (nI i)) [] 1319) : Zj X g 7 Q R T (lvL g b (nI i)) [] 318 := by
  have hR := hiv.ty hG
  have k0 : kd g 0 = 11 := by unfold kd; rw [hG]; rfl
  have k105 : kd g 105 = 12 := by unfold kd; rw [hG]; rfl
  obtain ⟨a, V, R', V', h1, h2, h3⟩ := q_falls hiv
  refine z_aload_n K dL_law_318 rfl ?_
  refine z_callVI (v := a) (R' := R') (T' := V) (As := []) (rest := []) K (mX11_falls l hR k0 h1) clX11 k0 ceX11_falls ql_32 ⟨rfl, rfl, rfl, rfl⟩ rfl rfl rfl dL_law_319 ?_
  refine z_aload_n K dL_law_322 rfl ?_
  refine z_callVI (v := a) (R' := R') (T' := V') (As := []) (rest := [.int a]) K (mX12_falls l (h3.ty hG) k105 h2) clX12 k105 ceX12_falls ql_36 ⟨rfl, rfl, rfl, rfl⟩ rfl rfl rfl dL_law_323 ?_
  exact z_icmp_eq K 1319 dL_law_326 (by decide) (fun _ => kk _ _ h3) (fun c => absurd rfl c)
theorem lc_3 (K : Ok X g l cL_law RL 7 (some .boolean) room_1) (hG : g.2.2.2.1 = kdL) (hSH : SH g adK adV sz) (hs : SAr X b L xs) (hL : L ≤ 3072) (hi : i + 6 ≤ L) (hiv : IV R T) (kk : ∀ R' V', IV R' V' → Zj X g 7 Q R' V' (lvL g b (nI i)) [] 1319) : Zj X g 7 Q R T (lvL g b (nI i)) [] 331 := by
  have hR := hiv.ty hG
  have k0 : kd g 0 = 11 := by unfold kd; rw [hG]; rfl
  have k105 : kd g 105 = 12 := by unfold kd; rw [hG]; rfl
  obtain ⟨a, V', h1, h2, h3⟩ := q_fault hiv
  refine z_aload_n K dL_law_331 rfl ?_
  refine z_callVI (v := a) (R' := R) (T' := T) (As := []) (rest := []) K (mX11_fault l hR k0 h1) clX11 k0 ceX11_fault ql_37 ⟨rfl, rfl, rfl, rfl⟩ rfl rfl rfl dL_law_332 ?_
  refine z_aload_n K dL_law_335 rfl ?_
  refine z_callVI (v := a) (R' := R) (T' := V') (As := []) (rest := [.int a]) K (mX12_fault l (h3.ty hG) k105 h2) clX12 k105 ceX12_fault ql_40 ⟨rfl, rfl, rfl, rfl⟩ rfl rfl rfl dL_law_336 ?_
  exact z_icmp_eq K 1319 dL_law_339 (by decide) (fun _ => kk _ _ h3) (fun c => absurd rfl c)
theorem lc_4 (K : Ok X g l cL_law RL 7 (some .boolean) room_1) (hG : g.2.2.2.1 = kdL) (hTH : TH g ad sz) (hl : l.stackTraces = false) (hs : SAr X b L xs) (hL : L ≤ 3072) (hi : i + 6 ≤ L) (hroom : X.2.2.2.2.2.2.2.2.2.2.1 + 1 ≤ room_1.cells ∧ X.2.2.2.2.2.2.2.2.2.2.2.1 + 6 ≤ room_1.slots) (hiv : IV R T) (kk : ∀ R' V', IV R' V' → Zj (Xg X 1 6) g 7 Q R' V' (lvL g b (nI i)) [] 1319) : Zj X g 7 Q R T (lvL g b (nI i)) [] 344 := by
  have hR := hiv.ty hG
  have k0 : kd g 0 = 11 := by unfold kd; rw [hG]; rfl
  have k105 : kd g 105 = 12 := by unfold kd; rw [hG]; rfl
  have k124 : kd g 124 = 30001 := by unfold kd; rw [hG]; rfl
  have K' := K.grow (k := 1) (n := 6) hroom.1 hroom.2
  have hs' : SAr (Xg X 1 6) b L xs := hs
  obtain ⟨o, V, a, V', h1, h2, h3, h4, h5, h6⟩ := r_person hiv (xs (i + 1)) (xs (i + 2))
  obtain ⟨kx, hkx⟩ : ∃ y : Int32, y = if o = none then 1 else 0 := ⟨_, rfl⟩
  refine z_aload_n K dL_law_344 rfl ?_
  refine z_arg (j := 1) K hs hL (by omega) rfl rfl rfl dL_law_345 dL_law_346 dL_law_348 dL_law_349 dL_law_350 ?_
  refine z_arg (j := 2) K hs hL (by omega) rfl rfl rfl dL_law_351 dL_law_352 dL_law_354 dL_law_355 dL_law_356 ?_
  refine z_aload_n K dL_law_357 rfl ?_
  have hM := mL_person (x1 := xs (i + 1)) (x2 := xs (i + 2)) hTH hl hR k0 k124 h1
  rw [← hkx] at hM h3
  refine z_callSx (R' := R) (T' := outL o V) (As := [.ref (g.2.2.1 0), .int (xs (i + 1)), .int (xs (i + 2)), .ref (g.2.2.1 124)]) (rest := []) (n := 4) K hM qlPc qlPs qlI qlP41 (by decide +kernel) ⟨rfl, rfl⟩ hroom rfl rfl rfl dL_law_358 ?_
  refine z_istore K' dL_law_361 rfl rfl ?_
  refine z_aload_n K' dL_law_363 rfl ?_
  refine z_arg (j := 1) K' hs' hL (by omega) rfl rfl rfl dL_law_364 dL_law_365 dL_law_367 dL_law_368 dL_law_369 ?_
  refine z_arg (j := 2) K' hs' hL (by omega) rfl rfl rfl dL_law_370 dL_law_371 dL_law_373 dL_law_374 dL_law_375 ?_
  refine z_callVI (v := a) (R' := R) (T' := V') (As := [.int (xs (i + 1)), .int (xs (i + 2))]) (rest := []) K' (mX12_person l hR k105 h2) clX12 k105 ceX12_person ql_46 ⟨rfl, rfl, rfl, rfl⟩ rfl rfl rfl dL_law_376 ?_
  refine z_istore K' dL_law_379 rfl rfl ?_
  refine z_aload_n K' dL_law_381 rfl ?_
  refine z_callVI (v := V'.1 105 0) (R' := R) (T' := V') (As := []) (rest := []) K' (mX12_thrown l hR k105 i_thrown) clX12 k105 ceX12_thrown ql_47 ⟨rfl, rfl, rfl, rfl⟩ rfl rfl rfl dL_law_382 ?_
  refine z_iload K' dL_law_385 rfl ?_
  have hend : Zj (Xg X 1 6) g 7 Q R V' ((lvL g b (nI i)).set 5 (some (.int kx)) |>.set 6 (some (.int a))) [] 409 := z_goto K' 1319 dL_law_409 (by decide) (z_lvsub lv_low (kk R V' h5))
  refine z_icmp_eq K' 392 dL_law_387 (by decide) (fun _ => ?_) (fun c => absurd h3 c)
  refine z_iload K' dL_law_392 rfl ?_
  refine z_if_ne K' 409 dL_law_394 (by decide) (fun _ => hend) (fun c => ?_)
  have ho : o = some a := h4.resolve_left (fun e => by rw [hkx, if_pos e] at c; exact absurd c (by decide))
  have hz : V'.2 124 (0 : Int32).toNatClampNeg = a.toInt64 := h6 a ho
  refine z_aload_n K' dL_law_397 rfl ?_
  refine z_iconst K' 0 dL_law_398 rfl ?_
  refine z_lald K' k124 rfl rfl rfl (by unfold vp_in; decide) dL_law_399 ?_
  refine z_iload K' dL_law_400 rfl ?_
  refine z_i2l K' dL_law_402 ?_
  refine z_lcmp K' dL_law_403 ?_
  exact z_if_eq K' 409 dL_law_404 (by decide) (fun _ => hend) (fun c => absurd ((lg_cmp_eq _ _).mpr hz) c)
theorem lc_5 (K : Ok X g l cL_law RL 7 (some .boolean) room_1) (hG : g.2.2.2.1 = kdL) (hSH : SH g adK adV sz) (hs : SAr X b L xs) (hL : L ≤ 3072) (hi : i + 6 ≤ L) (hiv : IV R T) (kk : ∀ R' V', IV R' V' → Zj X g 7 Q R' V' (lvL g b (nI i)) [] 1319) : Zj X g 7 Q R T (lvL g b (nI i)) [] 412 := by
  have hR := hiv.ty hG
  have k0 : kd g 0 = 11 := by unfold kd; rw [hG]; rfl
  have k105 : kd g 105 = 12 := by unfold kd; rw [hG]; rfl
  obtain ⟨a, V, V', h1, h2, h3⟩ := q_item hiv (xs (i + 1)) (xs (i + 2))
  refine z_aload_n K dL_law_412 rfl ?_
  refine z_arg (j := 1) K hs hL (by omega) rfl rfl rfl dL_law_413 dL_law_414 dL_law_416 dL_law_417 dL_law_418 ?_
  refine z_arg (j := 2) K hs hL (by omega) rfl rfl rfl dL_law_419 dL_law_420 dL_law_422 dL_law_423 dL_law_424 ?_
  refine z_callVI (v := a) (R' := R) (T' := V) (As := [.int (xs (i + 1)), .int (xs (i + 2))]) (rest := []) K (mX11_item l hR k0 h1) clX11 k0 ceX11_item ql_50 ⟨rfl, rfl, rfl, rfl⟩ rfl rfl rfl dL_law_425 ?_
  refine z_aload_n K dL_law_428 rfl ?_
  refine z_arg (j := 1) K hs hL (by omega) rfl rfl rfl dL_law_429 dL_law_430 dL_law_432 dL_law_433 dL_law_434 ?_
  refine z_arg (j := 2) K hs hL (by omega) rfl rfl rfl dL_law_435 dL_law_436 dL_law_438 dL_law_439 dL_law_440 ?_
  refine z_callVI (v := a) (R' := R) (T' := V') (As := [.int (xs (i + 1)), .int (xs (i + 2))]) (rest := [.int a]) K (mX12_item l (h3.ty hG) k105 h2) clX12 k105 ceX12_item ql_53 ⟨rfl, rfl, rfl, rfl⟩ rfl rfl rfl dL_law_441 ?_
  exact z_icmp_eq K 1319 dL_law_444 (by decide) (fun _ => kk _ _ h3) (fun c => absurd rfl c)
theorem lc_6 (K : Ok X g l cL_law RL 7 (some .boolean) room_1) (hG : g.2.2.2.1 = kdL) (hSH : SH g adK adV sz) (hs : SAr X b L xs) (hL : L ≤ 3072) (hi : i + 6 ≤ L) (hiv : IV R T) (kk : ∀ R' V', IV R' V' → Zj X g 7 Q R' V' (lvL g b (nI i)) [] 1319) : Zj X g 7 Q R T (lvL g b (nI i)) [] 449 := by
  have hR := hiv.ty hG
  have k0 : kd g 0 = 11 := by unfold kd; rw [hG]; rfl
  have k105 : kd g 105 = 12 := by unfold kd; rw [hG]; rfl
  obtain ⟨a, V', h1, h2, h3⟩ := q_join hiv (xs (i + 1)) (xs (i + 2))
  refine z_aload_n K dL_law_449 rfl ?_
  refine z_arg (j := 1) K hs hL (by omega) rfl rfl rfl dL_law_450 dL_law_451 dL_law_453 dL_law_454 dL_law_455 ?_
  refine z_arg (j := 2) K hs hL (by omega) rfl rfl rfl dL_law_456 dL_law_457 dL_law_459 dL_law_460 dL_law_461 ?_
  refine z_callVI (v := a) (R' := R) (T' := T) (As := [.int (xs (i + 1)), .int (xs (i + 2))]) (rest := []) K (mX11_join l hR k0 h1) clX11 k0 ceX11_join ql_54 ⟨rfl, rfl, rfl, rfl⟩ rfl rfl rfl dL_law_462 ?_
  refine z_aload_n K dL_law_465 rfl ?_
  refine z_arg (j := 1) K hs hL (by omega) rfl rfl rfl dL_law_466 dL_law_467 dL_law_469 dL_law_470 dL_law_471 ?_
  refine z_arg (j := 2) K hs hL (by omega) rfl rfl rfl dL_law_472 dL_law_473 dL_law_475 dL_law_476 dL_law_477 ?_
  refine z_callVI (v := a) (R' := R) (T' := V') (As := [.int (xs (i + 1)), .int (xs (i + 2))]) (rest := [.int a]) K (mX12_join l (h3.ty hG) k105 h2) clX12 k105 ceX12_join ql_57 ⟨rfl, rfl, rfl, rfl⟩ rfl rfl rfl dL_law_478 ?_
  exact z_icmp_eq K 1319 dL_law_481 (by decide) (fun _ => kk _ _ h3) (fun c => absurd rfl c)
theorem lc_7 (K : Ok X g l cL_law RL 7 (some .boolean) room_1) (hG : g.2.2.2.1 = kdL) (hSH : SH g adK adV sz) (hs : SAr X b L xs) (hL : L ≤ 3072) (hi : i + 6 ≤ L) (hiv : IV R T) (kk : ∀ R' V', IV R' V' → Zj X g 7 Q R' V' (lvL g b (nI i)) [] 1319) : Zj X g 7 Q R T (lvL g b (nI i)) [] 486 := by
  have hR := hiv.ty hG
  have k0 : kd g 0 = 11 := by unfold kd; rw [hG]; rfl
  have k105 : kd g 105 = 12 := by unfold kd; rw [hG]; rfl
  obtain ⟨a, V', h1, h2, h3⟩ := q_now hiv (xs (i + 1))
  refine z_aload_n K dL_law_486 rfl ?_
  refine z_arg (j := 1) K hs hL (by omega) rfl rfl rfl dL_law_487 dL_law_488 dL_law_490 dL_law_491 dL_law_492 ?_
  refine z_callVI (v := a) (R' := R) (T' := T) (As := [.int (xs (i + 1))]) (rest := []) K (mX11_now l hR k0 h1) clX11 k0 ceX11_now ql_58 ⟨rfl, rfl, rfl, rfl⟩ rfl rfl rfl dL_law_493 ?_
  refine z_aload_n K dL_law_496 rfl ?_
  refine z_arg (j := 1) K hs hL (by omega) rfl rfl rfl dL_law_497 dL_law_498 dL_law_500 dL_law_501 dL_law_502 ?_
  refine z_callVI (v := a) (R' := R) (T' := V') (As := [.int (xs (i + 1))]) (rest := [.int a]) K (mX12_now l (h3.ty hG) k105 h2) clX12 k105 ceX12_now ql_62 ⟨rfl, rfl, rfl, rfl⟩ rfl rfl rfl dL_law_503 ?_
  exact z_icmp_eq K 1319 dL_law_506 (by decide) (fun _ => kk _ _ h3) (fun c => absurd rfl c)
theorem lc_8 (K : Ok X g l cL_law RL 7 (some .boolean) room_1) (hG : g.2.2.2.1 = kdL) (hSH : SH g adK adV sz) (hs : SAr X b L xs) (hL : L ≤ 3072) (hi : i + 6 ≤ L) (hiv : IV R T) (kk : ∀ R' V', IV R' V' → Zj X g 7 Q R' V' (lvL g b (nI i)) [] 1319) : Zj X g 7 Q R T (lvL g b (nI i)) [] 511 := by
  have hR := hiv.ty hG
  have k0 : kd g 0 = 11 := by unfold kd; rw [hG]; rfl
  have k105 : kd g 105 = 12 := by unfold kd; rw [hG]; rfl
  obtain ⟨a, V, V', h1, h2, h3⟩ := q_go hiv (xs (i + 1))
  refine z_aload_n K dL_law_511 rfl ?_
  refine z_arg (j := 1) K hs hL (by omega) rfl rfl rfl dL_law_512 dL_law_513 dL_law_515 dL_law_516 dL_law_517 ?_
  refine z_callVI (v := a) (R' := R) (T' := V) (As := [.int (xs (i + 1))]) (rest := []) K (mX11_go l hR k0 h1) clX11 k0 ceX11_go ql_63 ⟨rfl, rfl, rfl, rfl⟩ rfl rfl rfl dL_law_518 ?_
  refine z_aload_n K dL_law_521 rfl ?_
  refine z_arg (j := 1) K hs hL (by omega) rfl rfl rfl dL_law_522 dL_law_523 dL_law_525 dL_law_526 dL_law_527 ?_
  refine z_callVI (v := a) (R' := R) (T' := V') (As := [.int (xs (i + 1))]) (rest := [.int a]) K (mX12_go l (h3.ty hG) k105 h2) clX12 k105 ceX12_go ql_66 ⟨rfl, rfl, rfl, rfl⟩ rfl rfl rfl dL_law_528 ?_
  exact z_icmp_eq K 1319 dL_law_531 (by decide) (fun _ => kk _ _ h3) (fun c => absurd rfl c)
theorem lc_9 (K : Ok X g l cL_law RL 7 (some .boolean) room_1) (hG : g.2.2.2.1 = kdL) (hSH : SH g adK adV sz) (hs : SAr X b L xs) (hL : L ≤ 3072) (hi : i + 6 ≤ L) (hiv : IV R T) (kk : ∀ R' V', IV R' V' → Zj X g 7 Q R' V' (lvL g b (nI i)) [] 1319) : Zj X g 7 Q R T (lvL g b (nI i)) [] 536 := by
  have hR := hiv.ty hG
  have k0 : kd g 0 = 11 := by unfold kd; rw [hG]; rfl
  have k105 : kd g 105 = 12 := by unfold kd; rw [hG]; rfl
  obtain ⟨a, V, V', h1, h2, h3⟩ := q_free hiv (xs (i + 1))
  refine z_aload_n K dL_law_536 rfl ?_
  refine z_arg (j := 1) K hs hL (by omega) rfl rfl rfl dL_law_537 dL_law_538 dL_law_540 dL_law_541 dL_law_542 ?_
  refine z_callVI (v := a) (R' := R) (T' := V) (As := [.int (xs (i + 1))]) (rest := []) K (mX11_free l hR k0 h1) clX11 k0 ceX11_free ql_67 ⟨rfl, rfl, rfl, rfl⟩ rfl rfl rfl dL_law_543 ?_
  refine z_aload_n K dL_law_546 rfl ?_
  refine z_arg (j := 1) K hs hL (by omega) rfl rfl rfl dL_law_547 dL_law_548 dL_law_550 dL_law_551 dL_law_552 ?_
  refine z_callVI (v := a) (R' := R) (T' := V') (As := [.int (xs (i + 1))]) (rest := [.int a]) K (mX12_free l (h3.ty hG) k105 h2) clX12 k105 ceX12_free ql_70 ⟨rfl, rfl, rfl, rfl⟩ rfl rfl rfl dL_law_553 ?_
  exact z_icmp_eq K 1319 dL_law_556 (by decide) (fun _ => kk _ _ h3) (fun c => absurd rfl c)
theorem lc_10 (K : Ok X g l cL_law RL 7 (some .boolean) room_1) (hG : g.2.2.2.1 = kdL) (hSH : SH g adK adV sz) (hs : SAr X b L xs) (hL : L ≤ 3072) (hi : i + 6 ≤ L) (hiv : IV R T) (kk : ∀ R' V', IV R' V' → Zj X g 7 Q R' V' (lvL g b (nI i)) [] 1319) : Zj X g 7 Q R T (lvL g b (nI i)) [] 561 := by
  have hR := hiv.ty hG
  have k0 : kd g 0 = 11 := by unfold kd; rw [hG]; rfl
  have k105 : kd g 105 = 12 := by unfold kd; rw [hG]; rfl
  obtain ⟨a, V, V', h1, h2, h3⟩ := q_unload hiv (xs (i + 1))
  refine z_aload_n K dL_law_561 rfl ?_
  refine z_arg (j := 1) K hs hL (by omega) rfl rfl rfl dL_law_562 dL_law_563 dL_law_565 dL_law_566 dL_law_567 ?_
  refine z_callVI (v := a) (R' := R) (T' := V) (As := [.int (xs (i + 1))]) (rest := []) K (mX11_unload l hR k0 h1) clX11 k0 ceX11_unload ql_71 ⟨rfl, rfl, rfl, rfl⟩ rfl rfl rfl dL_law_568 ?_
  refine z_aload_n K dL_law_571 rfl ?_
  refine z_arg (j := 1) K hs hL (by omega) rfl rfl rfl dL_law_572 dL_law_573 dL_law_575 dL_law_576 dL_law_577 ?_
  refine z_callVI (v := a) (R' := R) (T' := V') (As := [.int (xs (i + 1))]) (rest := [.int a]) K (mX12_unload l (h3.ty hG) k105 h2) clX12 k105 ceX12_unload ql_74 ⟨rfl, rfl, rfl, rfl⟩ rfl rfl rfl dL_law_578 ?_
  exact z_icmp_eq K 1319 dL_law_581 (by decide) (fun _ => kk _ _ h3) (fun c => absurd rfl c)
theorem lc_11 (K : Ok X g l cL_law RL 7 (some .boolean) room_1) (hG : g.2.2.2.1 = kdL) (hSH : SH g adK adV sz) (hs : SAr X b L xs) (hL : L ≤ 3072) (hi : i + 6 ≤ L) (hiv : IV R T) (kk : ∀ R' V', IV R' V' → Zj X g 7 Q R' V' (lvL g b (nI i)) [] 1319) : Zj X g 7 Q R T (lvL g b (nI i)) [] 586 := by
  have hR := hiv.ty hG
  have k0 : kd g 0 = 11 := by unfold kd; rw [hG]; rfl
  have k105 : kd g 105 = 12 := by unfold kd; rw [hG]; rfl
  obtain ⟨a, V, V', h1, h2, h3⟩ := q_load hiv (xs (i + 1))
  refine z_aload_n K dL_law_586 rfl ?_
  refine z_arg (j := 1) K hs hL (by omega) rfl rfl rfl dL_law_587 dL_law_588 dL_law_590 dL_law_591 dL_law_592 ?_
  refine z_callVI (v := a) (R' := R) (T' := V) (As := [.int (xs (i + 1))]) (rest := []) K (mX11_load l hR k0 h1) clX11 k0 ceX11_load ql_75 ⟨rfl, rfl, rfl, rfl⟩ rfl rfl rfl dL_law_593 ?_
  refine z_aload_n K dL_law_596 rfl ?_
  refine z_arg (j := 1) K hs hL (by omega) rfl rfl rfl dL_law_597 dL_law_598 dL_law_600 dL_law_601 dL_law_602 ?_
  refine z_callVI (v := a) (R' := R) (T' := V') (As := [.int (xs (i + 1))]) (rest := [.int a]) K (mX12_load l (h3.ty hG) k105 h2) clX12 k105 ceX12_load ql_78 ⟨rfl, rfl, rfl, rfl⟩ rfl rfl rfl dL_law_603 ?_
  exact z_icmp_eq K 1319 dL_law_606 (by decide) (fun _ => kk _ _ h3) (fun c => absurd rfl c)
theorem lc_12 (K : Ok X g l cL_law RL 7 (some .boolean) room_1) (hG : g.2.2.2.1 = kdL) (hSH : SH g adK adV sz) (hs : SAr X b L xs) (hL : L ≤ 3072) (hi : i + 6 ≤ L) (hiv : IV R T) (kk : ∀ R' V', IV R' V' → Zj X g 7 Q R' V' (lvL g b (nI i)) [] 1319) : Zj X g 7 Q R T (lvL g b (nI i)) [] 611 := by
  have hR := hiv.ty hG
  have k0 : kd g 0 = 11 := by unfold kd; rw [hG]; rfl
  have k105 : kd g 105 = 12 := by unfold kd; rw [hG]; rfl
  obtain ⟨a, V, V', h1, h2, h3⟩ := q_bind hiv (xs (i + 1))
  refine z_aload_n K dL_law_611 rfl ?_
  refine z_arg (j := 1) K hs hL (by omega) rfl rfl rfl dL_law_612 dL_law_613 dL_law_615 dL_law_616 dL_law_617 ?_
  refine z_callVI (v := a) (R' := R) (T' := V) (As := [.int (xs (i + 1))]) (rest := []) K (mX11_bind l hR k0 h1) clX11 k0 ceX11_bind ql_79 ⟨rfl, rfl, rfl, rfl⟩ rfl rfl rfl dL_law_618 ?_
  refine z_aload_n K dL_law_621 rfl ?_
  refine z_arg (j := 1) K hs hL (by omega) rfl rfl rfl dL_law_622 dL_law_623 dL_law_625 dL_law_626 dL_law_627 ?_
  refine z_callVI (v := a) (R' := R) (T' := V') (As := [.int (xs (i + 1))]) (rest := [.int a]) K (mX12_bind l (h3.ty hG) k105 h2) clX12 k105 ceX12_bind ql_82 ⟨rfl, rfl, rfl, rfl⟩ rfl rfl rfl dL_law_628 ?_
  exact z_icmp_eq K 1319 dL_law_631 (by decide) (fun _ => kk _ _ h3) (fun c => absurd rfl c)
theorem lc_13 (K : Ok X g l cL_law RL 7 (some .boolean) room_1) (hG : g.2.2.2.1 = kdL) (hSH : SH g adK adV sz) (hs : SAr X b L xs) (hL : L ≤ 3072) (hi : i + 6 ≤ L) (hiv : IV R T) (kk : ∀ R' V', IV R' V' → Zj X g 7 Q R' V' (lvL g b (nI i)) [] 1319) : Zj X g 7 Q R T (lvL g b (nI i)) [] 636 := by
  have hR := hiv.ty hG
  have k0 : kd g 0 = 11 := by unfold kd; rw [hG]; rfl
  have k105 : kd g 105 = 12 := by unfold kd; rw [hG]; rfl
  obtain ⟨a, V, V', h1, h2, h3⟩ := q_days hiv (xs (i + 1))
  refine z_aload_n K dL_law_636 rfl ?_
  refine z_arg (j := 1) K hs hL (by omega) rfl rfl rfl dL_law_637 dL_law_638 dL_law_640 dL_law_641 dL_law_642 ?_
  refine z_callVI (v := a) (R' := R) (T' := V) (As := [.int (xs (i + 1))]) (rest := []) K (mX11_days l hR k0 h1) clX11 k0 ceX11_days ql_83 ⟨rfl, rfl, rfl, rfl⟩ rfl rfl rfl dL_law_643 ?_
  refine z_aload_n K dL_law_646 rfl ?_
  refine z_arg (j := 1) K hs hL (by omega) rfl rfl rfl dL_law_647 dL_law_648 dL_law_650 dL_law_651 dL_law_652 ?_
  refine z_callVI (v := a) (R' := R) (T' := V') (As := [.int (xs (i + 1))]) (rest := [.int a]) K (mX12_days l (h3.ty hG) k105 h2) clX12 k105 ceX12_days ql_86 ⟨rfl, rfl, rfl, rfl⟩ rfl rfl rfl dL_law_653 ?_
  exact z_icmp_eq K 1319 dL_law_656 (by decide) (fun _ => kk _ _ h3) (fun c => absurd rfl c)
theorem lc_14 (K : Ok X g l cL_law RL 7 (some .boolean) room_1) (hG : g.2.2.2.1 = kdL) (hSH : SH g adK adV sz) (hs : SAr X b L xs) (hL : L ≤ 3072) (hi : i + 6 ≤ L) (hiv : IV R T) (kk : ∀ R' V', IV R' V' → Zj X g 7 Q R' V' (lvL g b (nI i)) [] 1319) : Zj X g 7 Q R T (lvL g b (nI i)) [] 661 := by
  have hR := hiv.ty hG
  have k0 : kd g 0 = 11 := by unfold kd; rw [hG]; rfl
  have k105 : kd g 105 = 12 := by unfold kd; rw [hG]; rfl
  obtain ⟨a, V, V', h1, h2, h3⟩ := q_undo hiv
  refine z_aload_n K dL_law_661 rfl ?_
  refine z_callVI (v := a) (R' := R) (T' := V) (As := []) (rest := []) K (mX11_undo l hR k0 h1) clX11 k0 ceX11_undo ql_87 ⟨rfl, rfl, rfl, rfl⟩ rfl rfl rfl dL_law_662 ?_
  refine z_aload_n K dL_law_665 rfl ?_
  refine z_callVI (v := a) (R' := R) (T' := V') (As := []) (rest := [.int a]) K (mX12_undo l (h3.ty hG) k105 h2) clX12 k105 ceX12_undo ql_90 ⟨rfl, rfl, rfl, rfl⟩ rfl rfl rfl dL_law_666 ?_
  exact z_icmp_eq K 1319 dL_law_669 (by decide) (fun _ => kk _ _ h3) (fun c => absurd rfl c)
theorem lc_15 (K : Ok X g l cL_law RL 7 (some .boolean) room_1) (hG : g.2.2.2.1 = kdL) (hSH : SH g adK adV sz) (hs : SAr X b L xs) (hL : L ≤ 3072) (hi : i + 6 ≤ L) (hiv : IV R T) (kk : ∀ R' V', IV R' V' → Zj X g 7 Q R' V' (lvL g b (nI i)) [] 1319) : Zj X g 7 Q R T (lvL g b (nI i)) [] 674 := by
  have hR := hiv.ty hG
  have k0 : kd g 0 = 11 := by unfold kd; rw [hG]; rfl
  have k105 : kd g 105 = 12 := by unfold kd; rw [hG]; rfl
  obtain ⟨a, V, V', h1, h2, h3⟩ := q_fate hiv (xs (i + 1))
  refine z_aload_n K dL_law_674 rfl ?_
  refine z_arg (j := 1) K hs hL (by omega) rfl rfl rfl dL_law_675 dL_law_676 dL_law_678 dL_law_679 dL_law_680 ?_
  refine z_callVI (v := a) (R' := R) (T' := V) (As := [.int (xs (i + 1))]) (rest := []) K (mX11_fate l hR k0 h1) clX11 k0 ceX11_fate ql_91 ⟨rfl, rfl, rfl, rfl⟩ rfl rfl rfl dL_law_681 ?_
  refine z_aload_n K dL_law_684 rfl ?_
  refine z_arg (j := 1) K hs hL (by omega) rfl rfl rfl dL_law_685 dL_law_686 dL_law_688 dL_law_689 dL_law_690 ?_
  refine z_callVI (v := a) (R' := R) (T' := V') (As := [.int (xs (i + 1))]) (rest := [.int a]) K (mX12_fate l (h3.ty hG) k105 h2) clX12 k105 ceX12_fate ql_94 ⟨rfl, rfl, rfl, rfl⟩ rfl rfl rfl dL_law_691 ?_
  exact z_icmp_eq K 1319 dL_law_694 (by decide) (fun _ => kk _ _ h3) (fun c => absurd rfl c)
theorem lc_16 (K : Ok X g l cL_law RL 7 (some .boolean) room_1) (hG : g.2.2.2.1 = kdL) (hSH : SH g adK adV sz) (hs : SAr X b L xs) (hL : L ≤ 3072) (hi : i + 6 ≤ L) (hiv : IV R T) (kk : ∀ R' V', IV R' V' → Zj X g 7 Q R' V' (lvL g b (nI i)) [] 1319) : Zj X g 7 Q R T (lvL g b (nI i)) [] 699 := by
  have hR := hiv.ty hG
  have k0 : kd g 0 = 11 := by unfold kd; rw [hG]; rfl
  have k105 : kd g 105 = 12 := by unfold kd; rw [hG]; rfl
  obtain ⟨a, V, V', h1, h2, h3⟩ := q_straw hiv (xs (i + 1))
  refine z_aload_n K dL_law_699 rfl ?_
  refine z_arg (j := 1) K hs hL (by omega) rfl rfl rfl dL_law_700 dL_law_701 dL_law_703 dL_law_704 dL_law_705 ?_
  refine z_callVI (v := a) (R' := R) (T' := V) (As := [.int (xs (i + 1))]) (rest := []) K (mX11_straw l hR k0 h1) clX11 k0 ceX11_straw ql_95 ⟨rfl, rfl, rfl, rfl⟩ rfl rfl rfl dL_law_706 ?_
  refine z_aload_n K dL_law_709 rfl ?_
  refine z_arg (j := 1) K hs hL (by omega) rfl rfl rfl dL_law_710 dL_law_711 dL_law_713 dL_law_714 dL_law_715 ?_
  refine z_callVI (v := a) (R' := R) (T' := V') (As := [.int (xs (i + 1))]) (rest := [.int a]) K (mX12_straw l (h3.ty hG) k105 h2) clX12 k105 ceX12_straw ql_98 ⟨rfl, rfl, rfl, rfl⟩ rfl rfl rfl dL_law_716 ?_
  exact z_icmp_eq K 1319 dL_law_719 (by decide) (fun _ => kk _ _ h3) (fun c => absurd rfl c)
theorem lc_17 (K : Ok X g l cL_law RL 7 (some .boolean) room_1) (hG : g.2.2.2.1 = kdL) (hSH : SH g adK adV sz) (hs : SAr X b L xs) (hL : L ≤ 3072) (hi : i + 6 ≤ L) (hiv : IV R T) (kk : ∀ R' V', IV R' V' → Zj X g 7 Q R' V' (lvL g b (nI i)) [] 1319) : Zj X g 7 Q R T (lvL g b (nI i)) [] 724 := by
  have hR := hiv.ty hG
  have k0 : kd g 0 = 11 := by unfold kd; rw [hG]; rfl
  have k105 : kd g 105 = 12 := by unfold kd; rw [hG]; rfl
  obtain ⟨a, V, V', h1, h2, h3⟩ := q_lighten hiv (xs (i + 1))
  refine z_aload_n K dL_law_724 rfl ?_
  refine z_arg (j := 1) K hs hL (by omega) rfl rfl rfl dL_law_725 dL_law_726 dL_law_728 dL_law_729 dL_law_730 ?_
  refine z_callVI (v := a) (R' := R) (T' := V) (As := [.int (xs (i + 1))]) (rest := []) K (mX11_lighten l hR k0 h1) clX11 k0 ceX11_lighten ql_99 ⟨rfl, rfl, rfl, rfl⟩ rfl rfl rfl dL_law_731 ?_
  refine z_aload_n K dL_law_734 rfl ?_
  refine z_arg (j := 1) K hs hL (by omega) rfl rfl rfl dL_law_735 dL_law_736 dL_law_738 dL_law_739 dL_law_740 ?_
  refine z_callVI (v := a) (R' := R) (T' := V') (As := [.int (xs (i + 1))]) (rest := [.int a]) K (mX12_lighten l (h3.ty hG) k105 h2) clX12 k105 ceX12_lighten ql_102 ⟨rfl, rfl, rfl, rfl⟩ rfl rfl rfl dL_law_741 ?_
  exact z_icmp_eq K 1319 dL_law_744 (by decide) (fun _ => kk _ _ h3) (fun c => absurd rfl c)
theorem lc_18 (K : Ok X g l cL_law RL 7 (some .boolean) room_1) (hG : g.2.2.2.1 = kdL) (hSH : SH g adK adV sz) (hs : SAr X b L xs) (hL : L ≤ 3072) (hi : i + 6 ≤ L) (hiv : IV R T) (kk : ∀ R' V', IV R' V' → Zj X g 7 Q R' V' (lvL g b (nI i)) [] 1319) : Zj X g 7 Q R T (lvL g b (nI i)) [] 749 := by
  have hR := hiv.ty hG
  have k0 : kd g 0 = 11 := by unfold kd; rw [hG]; rfl
  have k105 : kd g 105 = 12 := by unfold kd; rw [hG]; rfl
  obtain ⟨a, V', h1, h2, h3⟩ := q_lightened hiv
  refine z_aload_n K dL_law_749 rfl ?_
  refine z_callVI (v := a) (R' := R) (T' := T) (As := []) (rest := []) K (mX11_lightened l hR k0 h1) clX11 k0 ceX11_lightened ql_103 ⟨rfl, rfl, rfl, rfl⟩ rfl rfl rfl dL_law_750 ?_
  refine z_aload_n K dL_law_753 rfl ?_
  refine z_callVI (v := a) (R' := R) (T' := V') (As := []) (rest := [.int a]) K (mX12_lightened l (h3.ty hG) k105 h2) clX12 k105 ceX12_lightened ql_106 ⟨rfl, rfl, rfl, rfl⟩ rfl rfl rfl dL_law_754 ?_
  exact z_icmp_eq K 1319 dL_law_757 (by decide) (fun _ => kk _ _ h3) (fun c => absurd rfl c)
theorem lc_19 (K : Ok X g l cL_law RL 7 (some .boolean) room_1) (hG : g.2.2.2.1 = kdL) (hSH : SH g adK adV sz) (hs : SAr X b L xs) (hL : L ≤ 3072) (hi : i + 6 ≤ L) (hiv : IV R T) (kk : ∀ R' V', IV R' V' → Zj X g 7 Q R' V' (lvL g b (nI i)) [] 1319) : Zj X g 7 Q R T (lvL g b (nI i)) [] 762 := by
  have hR := hiv.ty hG
  have k0 : kd g 0 = 11 := by unfold kd; rw [hG]; rfl
  have k105 : kd g 105 = 12 := by unfold kd; rw [hG]; rfl
  obtain ⟨a, V, V', h1, h2, h3⟩ := q_keep hiv (xs (i + 1))
  refine z_aload_n K dL_law_762 rfl ?_
  refine z_arg (j := 1) K hs hL (by omega) rfl rfl rfl dL_law_763 dL_law_764 dL_law_766 dL_law_767 dL_law_768 ?_
  refine z_callVI (v := a) (R' := R) (T' := V) (As := [.int (xs (i + 1))]) (rest := []) K (mX11_keep l hR k0 h1) clX11 k0 ceX11_keep ql_107 ⟨rfl, rfl, rfl, rfl⟩ rfl rfl rfl dL_law_769 ?_
  refine z_aload_n K dL_law_772 rfl ?_
  refine z_arg (j := 1) K hs hL (by omega) rfl rfl rfl dL_law_773 dL_law_774 dL_law_776 dL_law_777 dL_law_778 ?_
  refine z_callVI (v := a) (R' := R) (T' := V') (As := [.int (xs (i + 1))]) (rest := [.int a]) K (mX12_keep l (h3.ty hG) k105 h2) clX12 k105 ceX12_keep ql_110 ⟨rfl, rfl, rfl, rfl⟩ rfl rfl rfl dL_law_779 ?_
  exact z_icmp_eq K 1319 dL_law_782 (by decide) (fun _ => kk _ _ h3) (fun c => absurd rfl c)
theorem lc_20 (K : Ok X g l cL_law RL 7 (some .boolean) room_1) (hG : g.2.2.2.1 = kdL) (hSH : SH g adK adV sz) (hs : SAr X b L xs) (hL : L ≤ 3072) (hi : i + 6 ≤ L) (hiv : IV R T) (kk : ∀ R' V', IV R' V' → Zj X g 7 Q R' V' (lvL g b (nI i)) [] 1319) : Zj X g 7 Q R T (lvL g b (nI i)) [] 787 := by
  have hR := hiv.ty hG
  have k0 : kd g 0 = 11 := by unfold kd; rw [hG]; rfl
  have k105 : kd g 105 = 12 := by unfold kd; rw [hG]; rfl
  obtain ⟨a, V', h1, h2, h3⟩ := q_keeps hiv
  refine z_aload_n K dL_law_787 rfl ?_
  refine z_callVI (v := a) (R' := R) (T' := T) (As := []) (rest := []) K (mX11_keeps l hR k0 h1) clX11 k0 ceX11_keeps ql_111 ⟨rfl, rfl, rfl, rfl⟩ rfl rfl rfl dL_law_788 ?_
  refine z_aload_n K dL_law_791 rfl ?_
  refine z_callVI (v := a) (R' := R) (T' := V') (As := []) (rest := [.int a]) K (mX12_keeps l (h3.ty hG) k105 h2) clX12 k105 ceX12_keeps ql_114 ⟨rfl, rfl, rfl, rfl⟩ rfl rfl rfl dL_law_792 ?_
  exact z_icmp_eq K 1319 dL_law_795 (by decide) (fun _ => kk _ _ h3) (fun c => absurd rfl c)
theorem lc_21 (K : Ok X g l cL_law RL 7 (some .boolean) room_1) (hG : g.2.2.2.1 = kdL) (hSH : SH g adK adV sz) (hs : SAr X b L xs) (hL : L ≤ 3072) (hi : i + 6 ≤ L) (hiv : IV R T) (kk : ∀ R' V', IV R' V' → Zj X g 7 Q R' V' (lvL g b (nI i)) [] 1319) : Zj X g 7 Q R T (lvL g b (nI i)) [] 800 := by
  have hR := hiv.ty hG
  have k0 : kd g 0 = 11 := by unfold kd; rw [hG]; rfl
  have k105 : kd g 105 = 12 := by unfold kd; rw [hG]; rfl
  obtain ⟨a, V, V', h1, h2, h3⟩ := q_apart hiv (xs (i + 1)) (xs (i + 2))
  refine z_aload_n K dL_law_800 rfl ?_
  refine z_arg (j := 1) K hs hL (by omega) rfl rfl rfl dL_law_801 dL_law_802 dL_law_804 dL_law_805 dL_law_806 ?_
  refine z_arg (j := 2) K hs hL (by omega) rfl rfl rfl dL_law_807 dL_law_808 dL_law_810 dL_law_811 dL_law_812 ?_
  refine z_callVI (v := a) (R' := R) (T' := V) (As := [.int (xs (i + 1)), .int (xs (i + 2))]) (rest := []) K (mX11_apart l hR k0 h1) clX11 k0 ceX11_apart ql_115 ⟨rfl, rfl, rfl, rfl⟩ rfl rfl rfl dL_law_813 ?_
  refine z_aload_n K dL_law_816 rfl ?_
  refine z_arg (j := 1) K hs hL (by omega) rfl rfl rfl dL_law_817 dL_law_818 dL_law_820 dL_law_821 dL_law_822 ?_
  refine z_arg (j := 2) K hs hL (by omega) rfl rfl rfl dL_law_823 dL_law_824 dL_law_826 dL_law_827 dL_law_828 ?_
  refine z_callVI (v := a) (R' := R) (T' := V') (As := [.int (xs (i + 1)), .int (xs (i + 2))]) (rest := [.int a]) K (mX12_apart l (h3.ty hG) k105 h2) clX12 k105 ceX12_apart ql_118 ⟨rfl, rfl, rfl, rfl⟩ rfl rfl rfl dL_law_829 ?_
  exact z_icmp_eq K 1319 dL_law_832 (by decide) (fun _ => kk _ _ h3) (fun c => absurd rfl c)
theorem lc_22 (K : Ok X g l cL_law RL 7 (some .boolean) room_1) (hG : g.2.2.2.1 = kdL) (hSH : SH g adK adV sz) (hs : SAr X b L xs) (hL : L ≤ 3072) (hi : i + 6 ≤ L) (hiv : IV R T) (kk : ∀ R' V', IV R' V' → Zj X g 7 Q R' V' (lvL g b (nI i)) [] 1319) : Zj X g 7 Q R T (lvL g b (nI i)) [] 837 := by
  have hR := hiv.ty hG
  have k0 : kd g 0 = 11 := by unfold kd; rw [hG]; rfl
  have k105 : kd g 105 = 12 := by unfold kd; rw [hG]; rfl
  obtain ⟨a, V', h1, h2, h3⟩ := q_crack hiv (xs (i + 1))
  refine z_aload_n K dL_law_837 rfl ?_
  refine z_arg (j := 1) K hs hL (by omega) rfl rfl rfl dL_law_838 dL_law_839 dL_law_841 dL_law_842 dL_law_843 ?_
  refine z_callVI (v := a) (R' := R) (T' := T) (As := [.int (xs (i + 1))]) (rest := []) K (mX11_crack l hR k0 h1) clX11 k0 ceX11_crack ql_119 ⟨rfl, rfl, rfl, rfl⟩ rfl rfl rfl dL_law_844 ?_
  refine z_aload_n K dL_law_847 rfl ?_
  refine z_arg (j := 1) K hs hL (by omega) rfl rfl rfl dL_law_848 dL_law_849 dL_law_851 dL_law_852 dL_law_853 ?_
  refine z_callVI (v := a) (R' := R) (T' := V') (As := [.int (xs (i + 1))]) (rest := [.int a]) K (mX12_crack l (h3.ty hG) k105 h2) clX12 k105 ceX12_crack ql_122 ⟨rfl, rfl, rfl, rfl⟩ rfl rfl rfl dL_law_854 ?_
  exact z_icmp_eq K 1319 dL_law_857 (by decide) (fun _ => kk _ _ h3) (fun c => absurd rfl c)
theorem lc_23 (K : Ok X g l cL_law RL 7 (some .boolean) room_1) (hG : g.2.2.2.1 = kdL) (hSH : SH g adK adV sz) (hs : SAr X b L xs) (hL : L ≤ 3072) (hi : i + 6 ≤ L) (hiv : IV R T) (kk : ∀ R' V', IV R' V' → Zj X g 7 Q R' V' (lvL g b (nI i)) [] 1319) : Zj X g 7 Q R T (lvL g b (nI i)) [] 862 := by
  have hR := hiv.ty hG
  have k0 : kd g 0 = 11 := by unfold kd; rw [hG]; rfl
  have k105 : kd g 105 = 12 := by unfold kd; rw [hG]; rfl
  obtain ⟨a, V', h1, h2, h3⟩ := q_drops hiv (xs (i + 1))
  refine z_aload_n K dL_law_862 rfl ?_
  refine z_arg (j := 1) K hs hL (by omega) rfl rfl rfl dL_law_863 dL_law_864 dL_law_866 dL_law_867 dL_law_868 ?_
  refine z_callVI (v := a) (R' := R) (T' := T) (As := [.int (xs (i + 1))]) (rest := []) K (mX11_drops l hR k0 h1) clX11 k0 ceX11_drops ql_123 ⟨rfl, rfl, rfl, rfl⟩ rfl rfl rfl dL_law_869 ?_
  refine z_aload_n K dL_law_872 rfl ?_
  refine z_arg (j := 1) K hs hL (by omega) rfl rfl rfl dL_law_873 dL_law_874 dL_law_876 dL_law_877 dL_law_878 ?_
  refine z_callVI (v := a) (R' := R) (T' := V') (As := [.int (xs (i + 1))]) (rest := [.int a]) K (mX12_drops l (h3.ty hG) k105 h2) clX12 k105 ceX12_drops ql_126 ⟨rfl, rfl, rfl, rfl⟩ rfl rfl rfl dL_law_879 ?_
  exact z_icmp_eq K 1319 dL_law_882 (by decide) (fun _ => kk _ _ h3) (fun c => absurd rfl c)
theorem lc_24 (K : Ok X g l cL_law RL 7 (some .boolean) room_1) (hG : g.2.2.2.1 = kdL) (hSH : SH g adK adV sz) (hs : SAr X b L xs) (hL : L ≤ 3072) (hi : i + 6 ≤ L) (hiv : IV R T) (kk : ∀ R' V', IV R' V' → Zj X g 7 Q R' V' (lvL g b (nI i)) [] 1319) : Zj X g 7 Q R T (lvL g b (nI i)) [] 887 := by
  have hR := hiv.ty hG
  have k0 : kd g 0 = 11 := by unfold kd; rw [hG]; rfl
  have k105 : kd g 105 = 12 := by unfold kd; rw [hG]; rfl
  obtain ⟨a, V, V', h1, h2, h3⟩ := q_who hiv
  refine z_aload_n K dL_law_887 rfl ?_
  refine z_callVI (v := a) (R' := R) (T' := V) (As := []) (rest := []) K (mX11_who l hR k0 h1) clX11 k0 ceX11_who ql_127 ⟨rfl, rfl, rfl, rfl⟩ rfl rfl rfl dL_law_888 ?_
  refine z_aload_n K dL_law_891 rfl ?_
  refine z_callVI (v := a) (R' := R) (T' := V') (As := []) (rest := [.int a]) K (mX12_who l (h3.ty hG) k105 h2) clX12 k105 ceX12_who ql_130 ⟨rfl, rfl, rfl, rfl⟩ rfl rfl rfl dL_law_892 ?_
  exact z_icmp_eq K 1319 dL_law_895 (by decide) (fun _ => kk _ _ h3) (fun c => absurd rfl c)
theorem lc_25 (K : Ok X g l cL_law RL 7 (some .boolean) room_1) (hG : g.2.2.2.1 = kdL) (hSH : SH g adK adV sz) (hs : SAr X b L xs) (hL : L ≤ 3072) (hi : i + 6 ≤ L) (hiv : IV R T) (kk : ∀ R' V', IV R' V' → Zj X g 7 Q R' V' (lvL g b (nI i)) [] 1319) : Zj X g 7 Q R T (lvL g b (nI i)) [] 900 := by
  have hR := hiv.ty hG
  have k0 : kd g 0 = 11 := by unfold kd; rw [hG]; rfl
  have k105 : kd g 105 = 12 := by unfold kd; rw [hG]; rfl
  obtain ⟨a, V, V', h1, h2, h3⟩ := q_heights hiv
  refine z_aload_n K dL_law_900 rfl ?_
  refine z_callVI (v := a) (R' := R) (T' := V) (As := []) (rest := []) K (mX11_heights l hR k0 h1) clX11 k0 ceX11_heights ql_131 ⟨rfl, rfl, rfl, rfl⟩ rfl rfl rfl dL_law_901 ?_
  refine z_aload_n K dL_law_904 rfl ?_
  refine z_callVI (v := a) (R' := R) (T' := V') (As := []) (rest := [.int a]) K (mX12_heights l (h3.ty hG) k105 h2) clX12 k105 ceX12_heights ql_134 ⟨rfl, rfl, rfl, rfl⟩ rfl rfl rfl dL_law_905 ?_
  exact z_icmp_eq K 1319 dL_law_908 (by decide) (fun _ => kk _ _ h3) (fun c => absurd rfl c)
theorem lc_26 (K : Ok X g l cL_law RL 7 (some .boolean) room_1) (hG : g.2.2.2.1 = kdL) (hSH : SH g adK adV sz) (hs : SAr X b L xs) (hL : L ≤ 3072) (hi : i + 6 ≤ L) (hiv : IV R T) (kk : ∀ R' V', IV R' V' → Zj X g 7 Q R' V' (lvL g b (nI i)) [] 1319) : Zj X g 7 Q R T (lvL g b (nI i)) [] 913 := by
  have hR := hiv.ty hG
  have k0 : kd g 0 = 11 := by unfold kd; rw [hG]; rfl
  have k105 : kd g 105 = 12 := by unfold kd; rw [hG]; rfl
  obtain ⟨a, V', h1, h2, h3⟩ := q_lowest hiv
  refine z_aload_n K dL_law_913 rfl ?_
  refine z_callVI (v := a) (R' := R) (T' := T) (As := []) (rest := []) K (mX11_lowest l hR k0 h1) clX11 k0 ceX11_lowest ql_135 ⟨rfl, rfl, rfl, rfl⟩ rfl rfl rfl dL_law_914 ?_
  refine z_aload_n K dL_law_917 rfl ?_
  refine z_callVI (v := a) (R' := R) (T' := V') (As := []) (rest := [.int a]) K (mX12_lowest l (h3.ty hG) k105 h2) clX12 k105 ceX12_lowest ql_138 ⟨rfl, rfl, rfl, rfl⟩ rfl rfl rfl dL_law_918 ?_
  exact z_icmp_eq K 1319 dL_law_921 (by decide) (fun _ => kk _ _ h3) (fun c => absurd rfl c)
theorem lc_27 (K : Ok X g l cL_law RL 7 (some .boolean) room_1) (hG : g.2.2.2.1 = kdL) (hSH : SH g adK adV sz) (hs : SAr X b L xs) (hL : L ≤ 3072) (hi : i + 6 ≤ L) (hiv : IV R T) (kk : ∀ R' V', IV R' V' → Zj X g 7 Q R' V' (lvL g b (nI i)) [] 1319) : Zj X g 7 Q R T (lvL g b (nI i)) [] 926 := by
  have hR := hiv.ty hG
  have k0 : kd g 0 = 11 := by unfold kd; rw [hG]; rfl
  have k105 : kd g 105 = 12 := by unfold kd; rw [hG]; rfl
  obtain ⟨a, V', h1, h2, h3⟩ := q_watch hiv
  refine z_aload_n K dL_law_926 rfl ?_
  refine z_callVI (v := a) (R' := R) (T' := T) (As := []) (rest := []) K (mX11_watch l hR k0 h1) clX11 k0 ceX11_watch ql_139 ⟨rfl, rfl, rfl, rfl⟩ rfl rfl rfl dL_law_927 ?_
  refine z_aload_n K dL_law_930 rfl ?_
  refine z_callVI (v := a) (R' := R) (T' := V') (As := []) (rest := [.int a]) K (mX12_watch l (h3.ty hG) k105 h2) clX12 k105 ceX12_watch ql_142 ⟨rfl, rfl, rfl, rfl⟩ rfl rfl rfl dL_law_931 ?_
  exact z_icmp_eq K 1319 dL_law_934 (by decide) (fun _ => kk _ _ h3) (fun c => absurd rfl c)
theorem lc_28 (K : Ok X g l cL_law RL 7 (some .boolean) room_1) (hG : g.2.2.2.1 = kdL) (hSH : SH g adK adV sz) (hs : SAr X b L xs) (hL : L ≤ 3072) (hi : i + 6 ≤ L) (hiv : IV R T) (kk : ∀ R' V', IV R' V' → Zj X g 7 Q R' V' (lvL g b (nI i)) [] 1319) : Zj X g 7 Q R T (lvL g b (nI i)) [] 939 := by
  have hR := hiv.ty hG
  have k0 : kd g 0 = 11 := by unfold kd; rw [hG]; rfl
  have k105 : kd g 105 = 12 := by unfold kd; rw [hG]; rfl
  obtain ⟨a, V', h1, h2, h3⟩ := q_heaviest hiv
  refine z_aload_n K dL_law_939 rfl ?_
  refine z_callVI (v := a) (R' := R) (T' := T) (As := []) (rest := []) K (mX11_heaviest l hR k0 h1) clX11 k0 ceX11_heaviest ql_143 ⟨rfl, rfl, rfl, rfl⟩ rfl rfl rfl dL_law_940 ?_
  refine z_aload_n K dL_law_943 rfl ?_
  refine z_callVI (v := a) (R' := R) (T' := V') (As := []) (rest := [.int a]) K (mX12_heaviest l (h3.ty hG) k105 h2) clX12 k105 ceX12_heaviest ql_146 ⟨rfl, rfl, rfl, rfl⟩ rfl rfl rfl dL_law_944 ?_
  exact z_icmp_eq K 1319 dL_law_947 (by decide) (fun _ => kk _ _ h3) (fun c => absurd rfl c)
theorem lc_29 (K : Ok X g l cL_law RL 7 (some .boolean) room_1) (hG : g.2.2.2.1 = kdL) (hTH : TH g ad sz) (hl : l.stackTraces = false) (hs : SAr X b L xs) (hL : L ≤ 3072) (hi : i + 6 ≤ L) (hroom : X.2.2.2.2.2.2.2.2.2.2.1 + 1 ≤ room_1.cells ∧ X.2.2.2.2.2.2.2.2.2.2.2.1 + 6 ≤ room_1.slots) (hiv : IV R T) (kk : ∀ R' V', IV R' V' → Zj (Xg X 1 6) g 7 Q R' V' (lvL g b (nI i)) [] 1319) : Zj X g 7 Q R T (lvL g b (nI i)) [] 952 := by
  have hR := hiv.ty hG
  have k0 : kd g 0 = 11 := by unfold kd; rw [hG]; rfl
  have k105 : kd g 105 = 12 := by unfold kd; rw [hG]; rfl
  have k124 : kd g 124 = 30001 := by unfold kd; rw [hG]; rfl
  have K' := K.grow (k := 1) (n := 6) hroom.1 hroom.2
  have hs' : SAr (Xg X 1 6) b L xs := hs
  obtain ⟨o, V, a, V', h1, h2, h3, h4, h5, h6⟩ := r_mean hiv (xs (i + 1)) (xs (i + 2))
  obtain ⟨kx, hkx⟩ : ∃ y : Int32, y = if o = none then 1 else 0 := ⟨_, rfl⟩
  refine z_aload_n K dL_law_952 rfl ?_
  refine z_arg (j := 1) K hs hL (by omega) rfl rfl rfl dL_law_953 dL_law_954 dL_law_956 dL_law_957 dL_law_958 ?_
  refine z_arg (j := 2) K hs hL (by omega) rfl rfl rfl dL_law_959 dL_law_960 dL_law_962 dL_law_963 dL_law_964 ?_
  refine z_aload_n K dL_law_965 rfl ?_
  have hM := mL_mean (x1 := xs (i + 1)) (x2 := xs (i + 2)) hTH hl hR k0 k124 h1
  rw [← hkx] at hM h3
  refine z_callSx (R' := R) (T' := outL o V) (As := [.ref (g.2.2.1 0), .int (xs (i + 1)), .int (xs (i + 2)), .ref (g.2.2.1 124)]) (rest := []) (n := 4) K hM qlMc qlMs qlI qlM147 (by decide +kernel) ⟨rfl, rfl⟩ hroom rfl rfl rfl dL_law_966 ?_
  refine z_istore K' dL_law_969 rfl rfl ?_
  refine z_aload_n K' dL_law_971 rfl ?_
  refine z_arg (j := 1) K' hs' hL (by omega) rfl rfl rfl dL_law_972 dL_law_973 dL_law_975 dL_law_976 dL_law_977 ?_
  refine z_arg (j := 2) K' hs' hL (by omega) rfl rfl rfl dL_law_978 dL_law_979 dL_law_981 dL_law_982 dL_law_983 ?_
  refine z_callVI (v := a) (R' := R) (T' := V') (As := [.int (xs (i + 1)), .int (xs (i + 2))]) (rest := []) K' (mX12_mean l hR k105 h2) clX12 k105 ceX12_mean ql_149 ⟨rfl, rfl, rfl, rfl⟩ rfl rfl rfl dL_law_984 ?_
  refine z_istore K' dL_law_987 rfl rfl ?_
  refine z_aload_n K' dL_law_989 rfl ?_
  refine z_callVI (v := V'.1 105 0) (R' := R) (T' := V') (As := []) (rest := []) K' (mX12_thrown l hR k105 i_thrown) clX12 k105 ceX12_thrown ql_47 ⟨rfl, rfl, rfl, rfl⟩ rfl rfl rfl dL_law_990 ?_
  refine z_iload K' dL_law_993 rfl ?_
  have hend : Zj (Xg X 1 6) g 7 Q R V' ((lvL g b (nI i)).set 5 (some (.int kx)) |>.set 6 (some (.int a))) [] 1017 := z_goto K' 1319 dL_law_1017 (by decide) (z_lvsub lv_low (kk R V' h5))
  refine z_icmp_eq K' 1000 dL_law_995 (by decide) (fun _ => ?_) (fun c => absurd h3 c)
  refine z_iload K' dL_law_1000 rfl ?_
  refine z_if_ne K' 1017 dL_law_1002 (by decide) (fun _ => hend) (fun c => ?_)
  have ho : o = some a := h4.resolve_left (fun e => by rw [hkx, if_pos e] at c; exact absurd c (by decide))
  have hz : V'.2 124 (0 : Int32).toNatClampNeg = a.toInt64 := h6 a ho
  refine z_aload_n K' dL_law_1005 rfl ?_
  refine z_iconst K' 0 dL_law_1006 rfl ?_
  refine z_lald K' k124 rfl rfl rfl (by unfold vp_in; decide) dL_law_1007 ?_
  refine z_iload K' dL_law_1008 rfl ?_
  refine z_i2l K' dL_law_1010 ?_
  refine z_lcmp K' dL_law_1011 ?_
  exact z_if_eq K' 1017 dL_law_1012 (by decide) (fun _ => hend) (fun c => absurd ((lg_cmp_eq _ _).mpr hz) c)
theorem lc_30 (K : Ok X g l cL_law RL 7 (some .boolean) room_1) (hG : g.2.2.2.1 = kdL) (hSH : SH g adK adV sz) (hs : SAr X b L xs) (hL : L ≤ 3072) (hi : i + 6 ≤ L) (hiv : IV R T) (kk : ∀ R' V', IV R' V' → Zj X g 7 Q R' V' (lvL g b (nI i)) [] 1319) : Zj X g 7 Q R T (lvL g b (nI i)) [] 1020 := by
  have hR := hiv.ty hG
  have k0 : kd g 0 = 11 := by unfold kd; rw [hG]; rfl
  have k105 : kd g 105 = 12 := by unfold kd; rw [hG]; rfl
  obtain ⟨a, V, V', h1, h2, h3⟩ := q_tag hiv (xs (i + 1))
  refine z_aload_n K dL_law_1020 rfl ?_
  refine z_arg (j := 1) K hs hL (by omega) rfl rfl rfl dL_law_1021 dL_law_1022 dL_law_1024 dL_law_1025 dL_law_1026 ?_
  refine z_callVI (v := a) (R' := R) (T' := V) (As := [.int (xs (i + 1))]) (rest := []) K (mX11_tag l hR hSH k0 h1) clX11 k0 ceX11_tag ql_150 ⟨rfl, rfl, rfl, rfl⟩ rfl rfl rfl dL_law_1027 ?_
  refine z_aload_n K dL_law_1030 rfl ?_
  refine z_arg (j := 1) K hs hL (by omega) rfl rfl rfl dL_law_1031 dL_law_1032 dL_law_1034 dL_law_1035 dL_law_1036 ?_
  refine z_callVI (v := a) (R' := R) (T' := V') (As := [.int (xs (i + 1))]) (rest := [.int a]) K (mX12_tag l (h3.ty hG) k105 h2) clX12 k105 ceX12_tag ql_153 ⟨rfl, rfl, rfl, rfl⟩ rfl rfl rfl dL_law_1037 ?_
  exact z_icmp_eq K 1319 dL_law_1040 (by decide) (fun _ => kk _ _ h3) (fun c => absurd rfl c)
theorem lc_31 (K : Ok X g l cL_law RL 7 (some .boolean) room_1) (hG : g.2.2.2.1 = kdL) (hSH : SH g adK adV sz) (hs : SAr X b L xs) (hL : L ≤ 3072) (hi : i + 6 ≤ L) (hiv : IV R T) (kk : ∀ R' V', IV R' V' → Zj X g 7 Q R' V' (lvL g b (nI i)) [] 1319) : Zj X g 7 Q R T (lvL g b (nI i)) [] 1045 := by
  have hR := hiv.ty hG
  have k0 : kd g 0 = 11 := by unfold kd; rw [hG]; rfl
  have k105 : kd g 105 = 12 := by unfold kd; rw [hG]; rfl
  obtain ⟨a, V', h1, h2, h3⟩ := q_byteAt hiv (xs (i + 1))
  refine z_aload_n K dL_law_1045 rfl ?_
  refine z_arg (j := 1) K hs hL (by omega) rfl rfl rfl dL_law_1046 dL_law_1047 dL_law_1049 dL_law_1050 dL_law_1051 ?_
  refine z_callVI (v := a) (R' := R) (T' := T) (As := [.int (xs (i + 1))]) (rest := []) K (mX11_byteAt l hR k0 h1) clX11 k0 ceX11_byteAt ql_154 ⟨rfl, rfl, rfl, rfl⟩ rfl rfl rfl dL_law_1052 ?_
  refine z_aload_n K dL_law_1055 rfl ?_
  refine z_arg (j := 1) K hs hL (by omega) rfl rfl rfl dL_law_1056 dL_law_1057 dL_law_1059 dL_law_1060 dL_law_1061 ?_
  refine z_callVI (v := a) (R' := R) (T' := V') (As := [.int (xs (i + 1))]) (rest := [.int a]) K (mX12_byteAt l (h3.ty hG) k105 h2) clX12 k105 ceX12_byteAt ql_157 ⟨rfl, rfl, rfl, rfl⟩ rfl rfl rfl dL_law_1062 ?_
  exact z_icmp_eq K 1319 dL_law_1065 (by decide) (fun _ => kk _ _ h3) (fun c => absurd rfl c)
theorem lc_32 (K : Ok X g l cL_law RL 7 (some .boolean) room_1) (hG : g.2.2.2.1 = kdL) (hSH : SH g adK adV sz) (hs : SAr X b L xs) (hL : L ≤ 3072) (hi : i + 6 ≤ L) (hiv : IV R T) (kk : ∀ R' V', IV R' V' → Zj X g 7 Q R' V' (lvL g b (nI i)) [] 1319) : Zj X g 7 Q R T (lvL g b (nI i)) [] 1070 := by
  have hR := hiv.ty hG
  have k0 : kd g 0 = 11 := by unfold kd; rw [hG]; rfl
  have k105 : kd g 105 = 12 := by unfold kd; rw [hG]; rfl
  obtain ⟨a, V, V', h1, h2, h3⟩ := q_drawn hiv (xs (i + 1)) (xs (i + 2))
  refine z_aload_n K dL_law_1070 rfl ?_
  refine z_arg (j := 1) K hs hL (by omega) rfl rfl rfl dL_law_1071 dL_law_1072 dL_law_1074 dL_law_1075 dL_law_1076 ?_
  refine z_arg (j := 2) K hs hL (by omega) rfl rfl rfl dL_law_1077 dL_law_1078 dL_law_1080 dL_law_1081 dL_law_1082 ?_
  refine z_callVI (v := a) (R' := R) (T' := V) (As := [.int (xs (i + 1)), .int (xs (i + 2))]) (rest := []) K (mX11_drawn l hR k0 h1) clX11 k0 ceX11_drawn ql_158 ⟨rfl, rfl, rfl, rfl⟩ rfl rfl rfl dL_law_1083 ?_
  refine z_aload_n K dL_law_1086 rfl ?_
  refine z_arg (j := 1) K hs hL (by omega) rfl rfl rfl dL_law_1087 dL_law_1088 dL_law_1090 dL_law_1091 dL_law_1092 ?_
  refine z_arg (j := 2) K hs hL (by omega) rfl rfl rfl dL_law_1093 dL_law_1094 dL_law_1096 dL_law_1097 dL_law_1098 ?_
  refine z_callVI (v := a) (R' := R) (T' := V') (As := [.int (xs (i + 1)), .int (xs (i + 2))]) (rest := [.int a]) K (mX12_drawn l (h3.ty hG) k105 h2) clX12 k105 ceX12_drawn ql_161 ⟨rfl, rfl, rfl, rfl⟩ rfl rfl rfl dL_law_1099 ?_
  exact z_icmp_eq K 1319 dL_law_1102 (by decide) (fun _ => kk _ _ h3) (fun c => absurd rfl c)
theorem lc_33 (K : Ok X g l cL_law RL 7 (some .boolean) room_1) (hG : g.2.2.2.1 = kdL) (hSH : SH g adK adV sz) (hs : SAr X b L xs) (hL : L ≤ 3072) (hi : i + 6 ≤ L) (hiv : IV R T) (kk : ∀ R' V', IV R' V' → Zj X g 7 Q R' V' (lvL g b (nI i)) [] 1319) : Zj X g 7 Q R T (lvL g b (nI i)) [] 1107 := by
  have hR := hiv.ty hG
  have k0 : kd g 0 = 11 := by unfold kd; rw [hG]; rfl
  have k105 : kd g 105 = 12 := by unfold kd; rw [hG]; rfl
  obtain ⟨a, V, V', h1, h2, h3⟩ := q_odds hiv (xs (i + 1)) (xs (i + 2)) (xs (i + 3))
  refine z_aload_n K dL_law_1107 rfl ?_
  refine z_arg (j := 1) K hs hL (by omega) rfl rfl rfl dL_law_1108 dL_law_1109 dL_law_1111 dL_law_1112 dL_law_1113 ?_
  refine z_arg (j := 2) K hs hL (by omega) rfl rfl rfl dL_law_1114 dL_law_1115 dL_law_1117 dL_law_1118 dL_law_1119 ?_
  refine z_arg (j := 3) K hs hL (by omega) rfl rfl rfl dL_law_1120 dL_law_1121 dL_law_1123 dL_law_1124 dL_law_1125 ?_
  refine z_callVI (v := a) (R' := R) (T' := V) (As := [.int (xs (i + 1)), .int (xs (i + 2)), .int (xs (i + 3))]) (rest := []) K (mX11_odds l hR k0 h1) clX11 k0 ceX11_odds ql_162 ⟨rfl, rfl, rfl, rfl⟩ rfl rfl rfl dL_law_1126 ?_
  refine z_aload_n K dL_law_1129 rfl ?_
  refine z_arg (j := 1) K hs hL (by omega) rfl rfl rfl dL_law_1130 dL_law_1131 dL_law_1133 dL_law_1134 dL_law_1135 ?_
  refine z_arg (j := 2) K hs hL (by omega) rfl rfl rfl dL_law_1136 dL_law_1137 dL_law_1139 dL_law_1140 dL_law_1141 ?_
  refine z_arg (j := 3) K hs hL (by omega) rfl rfl rfl dL_law_1142 dL_law_1143 dL_law_1145 dL_law_1146 dL_law_1147 ?_
  refine z_callVI (v := a) (R' := R) (T' := V') (As := [.int (xs (i + 1)), .int (xs (i + 2)), .int (xs (i + 3))]) (rest := [.int a]) K (mX12_odds l (h3.ty hG) k105 h2) clX12 k105 ceX12_odds ql_166 ⟨rfl, rfl, rfl, rfl⟩ rfl rfl rfl dL_law_1148 ?_
  exact z_icmp_eq K 1319 dL_law_1151 (by decide) (fun _ => kk _ _ h3) (fun c => absurd rfl c)
theorem lc_34 (K : Ok X g l cL_law RL 7 (some .boolean) room_1) (hG : g.2.2.2.1 = kdL) (hSH : SH g adK adV sz) (hs : SAr X b L xs) (hL : L ≤ 3072) (hi : i + 6 ≤ L) (hiv : IV R T) (kk : ∀ R' V', IV R' V' → Zj X g 7 Q R' V' (lvL g b (nI i)) [] 1319) : Zj X g 7 Q R T (lvL g b (nI i)) [] 1156 := by
  have hR := hiv.ty hG
  have k0 : kd g 0 = 11 := by unfold kd; rw [hG]; rfl
  have k105 : kd g 105 = 12 := by unfold kd; rw [hG]; rfl
  obtain ⟨a, V, V', h1, h2, h3⟩ := q_book hiv (xs (i + 1))
  refine z_aload_n K dL_law_1156 rfl ?_
  refine z_arg (j := 1) K hs hL (by omega) rfl rfl rfl dL_law_1157 dL_law_1158 dL_law_1160 dL_law_1161 dL_law_1162 ?_
  refine z_callVI (v := a) (R' := R) (T' := V) (As := [.int (xs (i + 1))]) (rest := []) K (mX11_book l hR k0 h1) clX11 k0 ceX11_book ql_167 ⟨rfl, rfl, rfl, rfl⟩ rfl rfl rfl dL_law_1163 ?_
  refine z_aload_n K dL_law_1166 rfl ?_
  refine z_arg (j := 1) K hs hL (by omega) rfl rfl rfl dL_law_1167 dL_law_1168 dL_law_1170 dL_law_1171 dL_law_1172 ?_
  refine z_callVI (v := a) (R' := R) (T' := V') (As := [.int (xs (i + 1))]) (rest := [.int a]) K (mX12_book l (h3.ty hG) k105 h2) clX12 k105 ceX12_book ql_170 ⟨rfl, rfl, rfl, rfl⟩ rfl rfl rfl dL_law_1173 ?_
  exact z_icmp_eq K 1319 dL_law_1176 (by decide) (fun _ => kk _ _ h3) (fun c => absurd rfl c)
theorem lc_35 (K : Ok X g l cL_law RL 7 (some .boolean) room_1) (hG : g.2.2.2.1 = kdL) (hSH : SH g adK adV sz) (hs : SAr X b L xs) (hL : L ≤ 3072) (hi : i + 6 ≤ L) (hiv : IV R T) (kk : ∀ R' V', IV R' V' → Zj X g 7 Q R' V' (lvL g b (nI i)) [] 1319) : Zj X g 7 Q R T (lvL g b (nI i)) [] 1181 := by
  have hR := hiv.ty hG
  have k0 : kd g 0 = 11 := by unfold kd; rw [hG]; rfl
  have k105 : kd g 105 = 12 := by unfold kd; rw [hG]; rfl
  obtain ⟨a, V', h1, h2, h3⟩ := q_told hiv (xs (i + 1))
  refine z_aload_n K dL_law_1181 rfl ?_
  refine z_arg (j := 1) K hs hL (by omega) rfl rfl rfl dL_law_1182 dL_law_1183 dL_law_1185 dL_law_1186 dL_law_1187 ?_
  refine z_callVI (v := a) (R' := R) (T' := T) (As := [.int (xs (i + 1))]) (rest := []) K (mX11_told l hR k0 h1) clX11 k0 ceX11_told ql_171 ⟨rfl, rfl, rfl, rfl⟩ rfl rfl rfl dL_law_1188 ?_
  refine z_aload_n K dL_law_1191 rfl ?_
  refine z_arg (j := 1) K hs hL (by omega) rfl rfl rfl dL_law_1192 dL_law_1193 dL_law_1195 dL_law_1196 dL_law_1197 ?_
  refine z_callVI (v := a) (R' := R) (T' := V') (As := [.int (xs (i + 1))]) (rest := [.int a]) K (mX12_told l (h3.ty hG) k105 h2) clX12 k105 ceX12_told ql_174 ⟨rfl, rfl, rfl, rfl⟩ rfl rfl rfl dL_law_1198 ?_
  exact z_icmp_eq K 1319 dL_law_1201 (by decide) (fun _ => kk _ _ h3) (fun c => absurd rfl c)
theorem lc_36 (K : Ok X g l cL_law RL 7 (some .boolean) room_1) (hG : g.2.2.2.1 = kdL) (hSH : SH g adK adV sz) (hs : SAr X b L xs) (hL : L ≤ 3072) (hi : i + 6 ≤ L) (hiv : IV R T) (kk : ∀ R' V', IV R' V' → Zj X g 7 Q R' V' (lvL g b (nI i)) [] 1319) : Zj X g 7 Q R T (lvL g b (nI i)) [] 1206 := by
  have hR := hiv.ty hG
  have k0 : kd g 0 = 11 := by unfold kd; rw [hG]; rfl
  have k105 : kd g 105 = 12 := by unfold kd; rw [hG]; rfl
  obtain ⟨a, V, R', V', h1, h2, h3⟩ := q_sentence hiv
  refine z_aload_n K dL_law_1206 rfl ?_
  refine z_callVI (v := a) (R' := R') (T' := V) (As := []) (rest := []) K (mX11_sentence l hR k0 h1) clX11 k0 ceX11_sentence ql_175 ⟨rfl, rfl, rfl, rfl⟩ rfl rfl rfl dL_law_1207 ?_
  refine z_aload_n K dL_law_1210 rfl ?_
  refine z_callVI (v := a) (R' := R') (T' := V') (As := []) (rest := [.int a]) K (mX12_sentence l (h3.ty hG) k105 h2) clX12 k105 ceX12_sentence ql_178 ⟨rfl, rfl, rfl, rfl⟩ rfl rfl rfl dL_law_1211 ?_
  exact z_icmp_eq K 1319 dL_law_1214 (by decide) (fun _ => kk _ _ h3) (fun c => absurd rfl c)
theorem lc_37 (K : Ok X g l cL_law RL 7 (some .boolean) room_1) (hG : g.2.2.2.1 = kdL) (hSH : SH g adK adV sz) (hs : SAr X b L xs) (hL : L ≤ 3072) (hi : i + 6 ≤ L) (hiv : IV R T) (kk : ∀ R' V', IV R' V' → Zj X g 7 Q R' V' (lvL g b (nI i)) [] 1319) : Zj X g 7 Q R T (lvL g b (nI i)) [] 1219 := by
  have hR := hiv.ty hG
  have k0 : kd g 0 = 11 := by unfold kd; rw [hG]; rfl
  have k105 : kd g 105 = 12 := by unfold kd; rw [hG]; rfl
  obtain ⟨a, V, V', h1, h2, h3⟩ := q_said hiv (xs (i + 1))
  refine z_aload_n K dL_law_1219 rfl ?_
  refine z_arg (j := 1) K hs hL (by omega) rfl rfl rfl dL_law_1220 dL_law_1221 dL_law_1223 dL_law_1224 dL_law_1225 ?_
  refine z_callVI (v := a) (R' := R) (T' := V) (As := [.int (xs (i + 1))]) (rest := []) K (mX11_said l hR k0 h1) clX11 k0 ceX11_said ql_179 ⟨rfl, rfl, rfl, rfl⟩ rfl rfl rfl dL_law_1226 ?_
  refine z_aload_n K dL_law_1229 rfl ?_
  refine z_arg (j := 1) K hs hL (by omega) rfl rfl rfl dL_law_1230 dL_law_1231 dL_law_1233 dL_law_1234 dL_law_1235 ?_
  refine z_callVI (v := a) (R' := R) (T' := V') (As := [.int (xs (i + 1))]) (rest := [.int a]) K (mX12_said l (h3.ty hG) k105 h2) clX12 k105 ceX12_said ql_182 ⟨rfl, rfl, rfl, rfl⟩ rfl rfl rfl dL_law_1236 ?_
  exact z_icmp_eq K 1319 dL_law_1239 (by decide) (fun _ => kk _ _ h3) (fun c => absurd rfl c)
theorem lc_38 (K : Ok X g l cL_law RL 7 (some .boolean) room_1) (hG : g.2.2.2.1 = kdL) (hSH : SH g adK adV sz) (hs : SAr X b L xs) (hL : L ≤ 3072) (hi : i + 6 ≤ L) (hiv : IV R T) (kk : ∀ R' V', IV R' V' → Zj X g 7 Q R' V' (lvL g b (nI i)) [] 1319) : Zj X g 7 Q R T (lvL g b (nI i)) [] 1244 := by
  have hR := hiv.ty hG
  have k0 : kd g 0 = 11 := by unfold kd; rw [hG]; rfl
  have k105 : kd g 105 = 12 := by unfold kd; rw [hG]; rfl
  obtain ⟨a, V, V', h1, h2, h3⟩ := q_image hiv (xs (i + 1))
  refine z_aload_n K dL_law_1244 rfl ?_
  refine z_arg (j := 1) K hs hL (by omega) rfl rfl rfl dL_law_1245 dL_law_1246 dL_law_1248 dL_law_1249 dL_law_1250 ?_
  refine z_callVI (v := a) (R' := R) (T' := V) (As := [.int (xs (i + 1))]) (rest := []) K (mX11_image l hR k0 h1) clX11 k0 ceX11_image ql_183 ⟨rfl, rfl, rfl, rfl⟩ rfl rfl rfl dL_law_1251 ?_
  refine z_aload_n K dL_law_1254 rfl ?_
  refine z_arg (j := 1) K hs hL (by omega) rfl rfl rfl dL_law_1255 dL_law_1256 dL_law_1258 dL_law_1259 dL_law_1260 ?_
  refine z_callVI (v := a) (R' := R) (T' := V') (As := [.int (xs (i + 1))]) (rest := [.int a]) K (mX12_image l (h3.ty hG) k105 h2) clX12 k105 ceX12_image ql_186 ⟨rfl, rfl, rfl, rfl⟩ rfl rfl rfl dL_law_1261 ?_
  exact z_icmp_eq K 1319 dL_law_1264 (by decide) (fun _ => kk _ _ h3) (fun c => absurd rfl c)
theorem lc_39 (K : Ok X g l cL_law RL 7 (some .boolean) room_1) (hG : g.2.2.2.1 = kdL) (hSH : SH g adK adV sz) (hs : SAr X b L xs) (hL : L ≤ 3072) (hi : i + 6 ≤ L) (hiv : IV R T) (kk : ∀ R' V', IV R' V' → Zj X g 7 Q R' V' (lvL g b (nI i)) [] 1319) : Zj X g 7 Q R T (lvL g b (nI i)) [] 1269 := by
  have hR := hiv.ty hG
  have k0 : kd g 0 = 11 := by unfold kd; rw [hG]; rfl
  have k105 : kd g 105 = 12 := by unfold kd; rw [hG]; rfl
  obtain ⟨a, V, V', h1, h2, h3⟩ := q_restore hiv (xs (i + 1))
  refine z_aload_n K dL_law_1269 rfl ?_
  refine z_arg (j := 1) K hs hL (by omega) rfl rfl rfl dL_law_1270 dL_law_1271 dL_law_1273 dL_law_1274 dL_law_1275 ?_
  refine z_callVI (v := a) (R' := R) (T' := V) (As := [.int (xs (i + 1))]) (rest := []) K (mX11_restore l hR k0 h1) clX11 k0 ceX11_restore ql_187 ⟨rfl, rfl, rfl, rfl⟩ rfl rfl rfl dL_law_1276 ?_
  refine z_aload_n K dL_law_1279 rfl ?_
  refine z_arg (j := 1) K hs hL (by omega) rfl rfl rfl dL_law_1280 dL_law_1281 dL_law_1283 dL_law_1284 dL_law_1285 ?_
  refine z_callVI (v := a) (R' := R) (T' := V') (As := [.int (xs (i + 1))]) (rest := [.int a]) K (mX12_restore l (h3.ty hG) k105 h2) clX12 k105 ceX12_restore ql_190 ⟨rfl, rfl, rfl, rfl⟩ rfl rfl rfl dL_law_1286 ?_
  exact z_icmp_eq K 1319 dL_law_1289 (by decide) (fun _ => kk _ _ h3) (fun c => absurd rfl c)
theorem lc_40 (K : Ok X g l cL_law RL 7 (some .boolean) room_1) (hG : g.2.2.2.1 = kdL) (hSH : SH g adK adV sz) (hs : SAr X b L xs) (hL : L ≤ 3072) (hi : i + 6 ≤ L) (hiv : IV R T) (kk : ∀ R' V', IV R' V' → Zj X g 7 Q R' V' (lvL g b (nI i)) [] 1319) : Zj X g 7 Q R T (lvL g b (nI i)) [] 1294 := by
  have hR := hiv.ty hG
  have k0 : kd g 0 = 11 := by unfold kd; rw [hG]; rfl
  have k105 : kd g 105 = 12 := by unfold kd; rw [hG]; rfl
  obtain ⟨a, V', h1, h2, h3⟩ := q_count hiv (xs (i + 1))
  refine z_aload_n K dL_law_1294 rfl ?_
  refine z_arg (j := 1) K hs hL (by omega) rfl rfl rfl dL_law_1295 dL_law_1296 dL_law_1298 dL_law_1299 dL_law_1300 ?_
  refine z_callVI (v := a) (R' := R) (T' := T) (As := [.int (xs (i + 1))]) (rest := []) K (mX11_count l hR k0 h1) clX11 k0 ceX11_count ql_191 ⟨rfl, rfl, rfl, rfl⟩ rfl rfl rfl dL_law_1301 ?_
  refine z_aload_n K dL_law_1304 rfl ?_
  refine z_arg (j := 1) K hs hL (by omega) rfl rfl rfl dL_law_1305 dL_law_1306 dL_law_1308 dL_law_1309 dL_law_1310 ?_
  refine z_callVI (v := a) (R' := R) (T' := V') (As := [.int (xs (i + 1))]) (rest := [.int a]) K (mX12_count l (h3.ty hG) k105 h2) clX12 k105 ceX12_count ql_194 ⟨rfl, rfl, rfl, rfl⟩ rfl rfl rfl dL_law_1311 ?_
  exact z_icmp_eq K 1319 dL_law_1314 (by decide) (fun _ => kk _ _ h3) (fun c => absurd rfl c)
end LC
