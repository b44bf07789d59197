abbrev fsX12 : List Value := [.int 0, .null, .int 0, .int 0, .int 0, .int 0, .null, .null, .null, .null, .null, .int 0, .int 0, .int 0, .int 0, .int 0, .int 0, .long 0, .int 0, .int 0, .int 0, .null, .null, .int 0, .int 0, .int 0, .int 0, .int 0, .null, .int 0, .int 0, .int 0, .null, .null, .null, .int 0, .int 0, .int 0, .null, .int 0, .null, .int 0, .int 0, .int 0, .int 0, .int 0, .null, .null, .null, .null]
abbrev rmX12_init : Room := { frames := 1, cells := 18, slots := 2298, locals := 21 }
def pX12_init_390 (R : Rf) (a0 : Nat) (e414 : Mm → Option (Mm)) (r390 : Mm → Int32 → Option (Mm)) (T : Mm) (x1 : Int32) : Option (Mm) :=
  if 80 ≤ x1 then e414 T else ix x1 80 (ix x1 270 (lt (wI T (R a0 6) x1.toNatClampNeg (T.1 (R a0 7) x1.toNatClampNeg)) (fun (T26 : Mm) => lt (x1 + 1) (fun (v27 : Int32) => r390 T26 v27))))
def pX12_init_414 (R : Rf) (a0 : Nat) (T : Mm) : Option (Mm) :=
  some T
def pX12_initZ (R : Rf) (T : Mm) (a0 : Nat) : Option Mm :=
  ix 0 24 (lt (wJ T (R a0 10) (0 : Int32).toNatClampNeg 439721159795) (fun (T1 : Mm) => ix 1 24 (lt (wJ T1 (R a0 10) (1 : Int32).toNatClampNeg 1918986606) (fun (T2 : Mm) => ix 2 24 (lt (wJ T2 (R a0 10) (2 : Int32).toNatClampNeg 123581014175598) (fun (T3 : Mm) => ix 3 24 (lt (wJ T3 (R a0 10) (3 : Int32).toNatClampNeg 1769235821) (fun (T4 : Mm) => ix 4 24 (lt (wJ T4 (R a0 10) (4 : Int32).toNatClampNeg 1785686382) (fun (T5 : Mm) => ix 5 24 (lt (wJ T5 (R a0 10) (5 : Int32).toNatClampNeg 1735353715) (fun (T6 : Mm) => ix 6 24 (lt (wJ T6 (R a0 10) (6 : Int32).toNatClampNeg 440005911923) (fun (T7 : Mm) => ix 7 24 (lt (wJ T7 (R a0 10) (7 : Int32).toNatClampNeg 129117126091108) (fun (T8 : Mm) => ix 8 24 (lt (wJ T8 (R a0 10) (8 : Int32).toNatClampNeg 1819238756) (fun (T9 : Mm) => ix 9 24 (lt (wJ T9 (R a0 10) (9 : Int32).toNatClampNeg 1651076708) (fun (T10 : Mm) => ix 10 24 (lt (wJ T10 (R a0 10) (10 : Int32).toNatClampNeg 6578553) (fun (T11 : Mm) => ix 11 24 (lt (wJ T11 (R a0 10) (11 : Int32).toNatClampNeg 28530) (fun (T12 : Mm) => ix 12 24 (lt (wJ T12 (R a0 10) (12 : Int32).toNatClampNeg 6385252) (fun (T13 : Mm) => ix 13 24 (lt (wJ T13 (R a0 10) (13 : Int32).toNatClampNeg 7237492) (fun (T14 : Mm) => ix 14 24 (lt (wJ T14 (R a0 10) (14 : Int32).toNatClampNeg 491327153273) (fun (T15 : Mm) => ix 15 24 (lt (wJ T15 (R a0 10) (15 : Int32).toNatClampNeg 29380524387167847) (fun (T16 : Mm) => ix 16 24 (lt (wJ T16 (R a0 10) (16 : Int32).toNatClampNeg 123623913055588) (fun (T17 : Mm) => ix 17 24 (lt (wJ T17 (R a0 10) (17 : Int32).toNatClampNeg 7304564) (fun (T18 : Mm) => ix 18 24 (lt (wJ T18 (R a0 10) (18 : Int32).toNatClampNeg 512853240933) (fun (T19 : Mm) => ix 19 24 (lt (wJ T19 (R a0 10) (19 : Int32).toNatClampNeg 6840691) (fun (T20 : Mm) => ix 20 24 (lt (wJ T20 (R a0 10) (20 : Int32).toNatClampNeg 131277443786868) (fun (T21 : Mm) => ix 21 24 (lt (wJ T21 (R a0 10) (21 : Int32).toNatClampNeg 482671228019) (fun (T22 : Mm) => ix 22 24 (lt (wJ T22 (R a0 10) (22 : Int32).toNatClampNeg 495874892151) (fun (T23 : Mm) => ix 23 24 (lt (wJ T23 (R a0 10) (23 : Int32).toNatClampNeg 121450625394034) (fun (T24 : Mm) => bd1 (pX12_clears R T24 a0) (fun (T25 : Mm) => zl2 (pX12_init_390 R a0 (pX12_init_414 R a0)) FU T25 0)))))))))))))))))))))))))))))))))))))))))))))))))
set_option maxRecDepth 100000 in
set_option maxHeartbeats 4000000 in
theorem wX12_init_390 {X : Cx} {g : Gl} {l : Launch} {R : Rf} {a0 : Nat} (K : Ok X g l cX12_init RX12 2 none rmX12_init) (hR : Ty g R) (k0 : kd g a0 = 12) {r : Mm} {Q : State → Prop} (hQ : ∀ {lv : List (Option Value)} {pc : Nat}, decode cX12_init pc = .ok (.return_, 1) → Zj X g 2 Q R r lv [] pc) {e414 : Mm → Option (Mm)} (he414 : ∀ (T : Mm), e414 T = some r → Zj X g 2 (Q) R T [none, none] [] 414) : ∀ (n : Nat) (T : Mm) (x1 : Int32), zl2 (pX12_init_390 R a0 e414) n T x1 = some r → Zj X g 2 (Q) R T [some (.ref (g.2.2.1 a0)), some (.int x1)] [] 390 := by
  intro n
  induction n with
  | zero =>
    intro T x1 h
    exact absurd h (by simp [zl2])
  | succ n hr390 =>
    intro T x1 h
    rw [zl2_s] at h
    unfold pX12_init_390 at h
    refine z_iload_n K dX12_init_390 rfl ?_
    refine z_bipush K 80 dX12_init_391 rfl ?_
    refine z_icmp_ge K 414 dX12_init_393 (by decide) (fun c => ?_) (fun c => ?_)
    · have h := ite_t h c
      refine Zj.mask [false, false] ?_
      exact he414 _ h
    · have h := ite_f h c
      refine z_aload_n K dX12_init_396 rfl ?_
      refine z_getR K clX12 k0 6 rfl rfl q1344 dX12_init_397 ?_
      refine z_iload_n K dX12_init_400 rfl ?_
      refine z_aload_n K dX12_init_401 rfl ?_
      refine z_getR K clX12 k0 7 rfl rfl q1345 dX12_init_402 ?_
      refine z_iload_n K dX12_init_405 rfl ?_
      obtain ⟨hi, h⟩ := ix_e h
      refine z_iald K (hR.at (k := 7) (t := 20080) k0 rfl rfl) rfl rfl rfl hi dX12_init_406 ?_
      obtain ⟨hi, h⟩ := ix_e h
      refine z_iast K (hR.at (k := 6) (t := 20270) k0 rfl rfl) rfl rfl rfl hi dX12_init_407 ?_
      refine z_iinc K 1 dX12_init_408 rfl rfl rfl rfl ?_
      refine z_goto K 390 dX12_init_411 (by decide) ?_
      refine Zj.mask [true, true] ?_
      exact hr390 _ _ h
set_option maxRecDepth 100000 in
set_option maxHeartbeats 4000000 in
theorem wX12_init_414 {X : Cx} {g : Gl} {l : Launch} {R : Rf} {a0 : Nat} (K : Ok X g l cX12_init RX12 2 none rmX12_init) (hR : Ty g R) (k0 : kd g a0 = 12) {r : Mm} {Q : State → Prop} (hQ : ∀ {lv : List (Option Value)} {pc : Nat}, decode cX12_init pc = .ok (.return_, 1) → Zj X g 2 Q R r lv [] pc) (T : Mm) (h : pX12_init_414 R a0 T = some r) : Zj X g 2 (Q) R T [none, none] [] 414 := by
  unfold pX12_init_414 at h
  obtain rfl := Option.some.inj h
  exact hQ dX12_init_414
set_option maxRecDepth 100000 in
set_option maxHeartbeats 4000000 in
theorem wX12_initZ {X : Cx} {g : Gl} {l : Launch} {R : Rf} {T : Mm} {a0 : Nat} (K : Ok X g l cX12_init RX12 2 none rmX12_init) (hR : Ty g R) (k0 : kd g a0 = 12) {r : Mm} {Q : State → Prop} (hQ : ∀ {lv : List (Option Value)} {pc : Nat}, decode cX12_init pc = .ok (.return_, 1) → Zj X g 2 Q R r lv [] pc) (h : pX12_initZ R T a0 = some r) : Zj X g 2 Q R T [some (.ref (g.2.2.1 a0)), none] [] 150 := by
  unfold pX12_initZ at h
  refine z_aload_n K dX12_init_150 rfl ?_
  refine z_getR K clX12 k0 10 rfl rfl q1348 dX12_init_151 ?_
  refine z_iconst K 0 dX12_init_154 rfl ?_
  refine z_ldc2 K 439721159795 q1310 dX12_init_155 ?_
  obtain ⟨hi, h⟩ := ix_e h
  refine z_last K (hR.at (k := 10) (t := 30024) k0 rfl rfl) rfl rfl rfl hi dX12_init_158 ?_
  refine z_aload_n K dX12_init_159 rfl ?_
  refine z_getR K clX12 k0 10 rfl rfl q1348 dX12_init_160 ?_
  refine z_iconst K 1 dX12_init_163 rfl ?_
  refine z_ldc2 K 1918986606 q1311 dX12_init_164 ?_
  obtain ⟨hi, h⟩ := ix_e h
  refine z_last K (hR.at (k := 10) (t := 30024) k0 rfl rfl) rfl rfl rfl hi dX12_init_167 ?_
  refine z_aload_n K dX12_init_168 rfl ?_
  refine z_getR K clX12 k0 10 rfl rfl q1348 dX12_init_169 ?_
  refine z_iconst K 2 dX12_init_172 rfl ?_
  refine z_ldc2 K 123581014175598 q1312 dX12_init_173 ?_
  obtain ⟨hi, h⟩ := ix_e h
  refine z_last K (hR.at (k := 10) (t := 30024) k0 rfl rfl) rfl rfl rfl hi dX12_init_176 ?_
  refine z_aload_n K dX12_init_177 rfl ?_
  refine z_getR K clX12 k0 10 rfl rfl q1348 dX12_init_178 ?_
  refine z_iconst K 3 dX12_init_181 rfl ?_
  refine z_ldc2 K 1769235821 q1313 dX12_init_182 ?_
  obtain ⟨hi, h⟩ := ix_e h
  refine z_last K (hR.at (k := 10) (t := 30024) k0 rfl rfl) rfl rfl rfl hi dX12_init_185 ?_
  refine z_aload_n K dX12_init_186 rfl ?_
  refine z_getR K clX12 k0 10 rfl rfl q1348 dX12_init_187 ?_
  refine z_iconst K 4 dX12_init_190 rfl ?_
  refine z_ldc2 K 1785686382 q1314 dX12_init_191 ?_
  obtain ⟨hi, h⟩ := ix_e h
  refine z_last K (hR.at (k := 10) (t := 30024) k0 rfl rfl) rfl rfl rfl hi dX12_init_194 ?_
  refine z_aload_n K dX12_init_195 rfl ?_
  refine z_getR K clX12 k0 10 rfl rfl q1348 dX12_init_196 ?_
  refine z_iconst K 5 dX12_init_199 rfl ?_
  refine z_ldc2 K 1735353715 q1315 dX12_init_200 ?_
  obtain ⟨hi, h⟩ := ix_e h
  refine z_last K (hR.at (k := 10) (t := 30024) k0 rfl rfl) rfl rfl rfl hi dX12_init_203 ?_
  refine z_aload_n K dX12_init_204 rfl ?_
  refine z_getR K clX12 k0 10 rfl rfl q1348 dX12_init_205 ?_
  refine z_bipush K 6 dX12_init_208 rfl ?_
  refine z_ldc2 K 440005911923 q1316 dX12_init_210 ?_
  obtain ⟨hi, h⟩ := ix_e h
  refine z_last K (hR.at (k := 10) (t := 30024) k0 rfl rfl) rfl rfl rfl hi dX12_init_213 ?_
  refine z_aload_n K dX12_init_214 rfl ?_
  refine z_getR K clX12 k0 10 rfl rfl q1348 dX12_init_215 ?_
  refine z_bipush K 7 dX12_init_218 rfl ?_
  refine z_ldc2 K 129117126091108 q1317 dX12_init_220 ?_
  obtain ⟨hi, h⟩ := ix_e h
  refine z_last K (hR.at (k := 10) (t := 30024) k0 rfl rfl) rfl rfl rfl hi dX12_init_223 ?_
  refine z_aload_n K dX12_init_224 rfl ?_
  refine z_getR K clX12 k0 10 rfl rfl q1348 dX12_init_225 ?_
  refine z_bipush K 8 dX12_init_228 rfl ?_
  refine z_ldc2 K 1819238756 q1318 dX12_init_230 ?_
  obtain ⟨hi, h⟩ := ix_e h
  refine z_last K (hR.at (k := 10) (t := 30024) k0 rfl rfl) rfl rfl rfl hi dX12_init_233 ?_
  refine z_aload_n K dX12_init_234 rfl ?_
  refine z_getR K clX12 k0 10 rfl rfl q1348 dX12_init_235 ?_
  refine z_bipush K 9 dX12_init_238 rfl ?_
  refine z_ldc2 K 1651076708 q1319 dX12_init_240 ?_
  obtain ⟨hi, h⟩ := ix_e h
  refine z_last K (hR.at (k := 10) (t := 30024) k0 rfl rfl) rfl rfl rfl hi dX12_init_243 ?_
  refine z_aload_n K dX12_init_244 rfl ?_
  refine z_getR K clX12 k0 10 rfl rfl q1348 dX12_init_245 ?_
  refine z_bipush K 10 dX12_init_248 rfl ?_
  refine z_ldc2 K 6578553 q1320 dX12_init_250 ?_
  obtain ⟨hi, h⟩ := ix_e h
  refine z_last K (hR.at (k := 10) (t := 30024) k0 rfl rfl) rfl rfl rfl hi dX12_init_253 ?_
  refine z_aload_n K dX12_init_254 rfl ?_
  refine z_getR K clX12 k0 10 rfl rfl q1348 dX12_init_255 ?_
  refine z_bipush K 11 dX12_init_258 rfl ?_
  refine z_ldc2 K 28530 q1321 dX12_init_260 ?_
  obtain ⟨hi, h⟩ := ix_e h
  refine z_last K (hR.at (k := 10) (t := 30024) k0 rfl rfl) rfl rfl rfl hi dX12_init_263 ?_
  refine z_aload_n K dX12_init_264 rfl ?_
  refine z_getR K clX12 k0 10 rfl rfl q1348 dX12_init_265 ?_
  refine z_bipush K 12 dX12_init_268 rfl ?_
  refine z_ldc2 K 6385252 q1322 dX12_init_270 ?_
  obtain ⟨hi, h⟩ := ix_e h
  refine z_last K (hR.at (k := 10) (t := 30024) k0 rfl rfl) rfl rfl rfl hi dX12_init_273 ?_
  refine z_aload_n K dX12_init_274 rfl ?_
  refine z_getR K clX12 k0 10 rfl rfl q1348 dX12_init_275 ?_
  refine z_bipush K 13 dX12_init_278 rfl ?_
  refine z_ldc2 K 7237492 q1323 dX12_init_280 ?_
  obtain ⟨hi, h⟩ := ix_e h
  refine z_last K (hR.at (k := 10) (t := 30024) k0 rfl rfl) rfl rfl rfl hi dX12_init_283 ?_
  refine z_aload_n K dX12_init_284 rfl ?_
  refine z_getR K clX12 k0 10 rfl rfl q1348 dX12_init_285 ?_
  refine z_bipush K 14 dX12_init_288 rfl ?_
  refine z_ldc2 K 491327153273 q1324 dX12_init_290 ?_
  obtain ⟨hi, h⟩ := ix_e h
  refine z_last K (hR.at (k := 10) (t := 30024) k0 rfl rfl) rfl rfl rfl hi dX12_init_293 ?_
  refine z_aload_n K dX12_init_294 rfl ?_
  refine z_getR K clX12 k0 10 rfl rfl q1348 dX12_init_295 ?_
  refine z_bipush K 15 dX12_init_298 rfl ?_
  refine z_ldc2 K 29380524387167847 q1325 dX12_init_300 ?_
  obtain ⟨hi, h⟩ := ix_e h
  refine z_last K (hR.at (k := 10) (t := 30024) k0 rfl rfl) rfl rfl rfl hi dX12_init_303 ?_
  refine z_aload_n K dX12_init_304 rfl ?_
  refine z_getR K clX12 k0 10 rfl rfl q1348 dX12_init_305 ?_
  refine z_bipush K 16 dX12_init_308 rfl ?_
  refine z_ldc2 K 123623913055588 q1326 dX12_init_310 ?_
  obtain ⟨hi, h⟩ := ix_e h
  refine z_last K (hR.at (k := 10) (t := 30024) k0 rfl rfl) rfl rfl rfl hi dX12_init_313 ?_
  refine z_aload_n K dX12_init_314 rfl ?_
  refine z_getR K clX12 k0 10 rfl rfl q1348 dX12_init_315 ?_
  refine z_bipush K 17 dX12_init_318 rfl ?_
  refine z_ldc2 K 7304564 q1327 dX12_init_320 ?_
  obtain ⟨hi, h⟩ := ix_e h
  refine z_last K (hR.at (k := 10) (t := 30024) k0 rfl rfl) rfl rfl rfl hi dX12_init_323 ?_
  refine z_aload_n K dX12_init_324 rfl ?_
  refine z_getR K clX12 k0 10 rfl rfl q1348 dX12_init_325 ?_
  refine z_bipush K 18 dX12_init_328 rfl ?_
  refine z_ldc2 K 512853240933 q1328 dX12_init_330 ?_
  obtain ⟨hi, h⟩ := ix_e h
  refine z_last K (hR.at (k := 10) (t := 30024) k0 rfl rfl) rfl rfl rfl hi dX12_init_333 ?_
  refine z_aload_n K dX12_init_334 rfl ?_
  refine z_getR K clX12 k0 10 rfl rfl q1348 dX12_init_335 ?_
  refine z_bipush K 19 dX12_init_338 rfl ?_
  refine z_ldc2 K 6840691 q1329 dX12_init_340 ?_
  obtain ⟨hi, h⟩ := ix_e h
  refine z_last K (hR.at (k := 10) (t := 30024) k0 rfl rfl) rfl rfl rfl hi dX12_init_343 ?_
  refine z_aload_n K dX12_init_344 rfl ?_
  refine z_getR K clX12 k0 10 rfl rfl q1348 dX12_init_345 ?_
  refine z_bipush K 20 dX12_init_348 rfl ?_
  refine z_ldc2 K 131277443786868 q1330 dX12_init_350 ?_
  obtain ⟨hi, h⟩ := ix_e h
  refine z_last K (hR.at (k := 10) (t := 30024) k0 rfl rfl) rfl rfl rfl hi dX12_init_353 ?_
  refine z_aload_n K dX12_init_354 rfl ?_
  refine z_getR K clX12 k0 10 rfl rfl q1348 dX12_init_355 ?_
  refine z_bipush K 21 dX12_init_358 rfl ?_
  refine z_ldc2 K 482671228019 q1331 dX12_init_360 ?_
  obtain ⟨hi, h⟩ := ix_e h
  refine z_last K (hR.at (k := 10) (t := 30024) k0 rfl rfl) rfl rfl rfl hi dX12_init_363 ?_
  refine z_aload_n K dX12_init_364 rfl ?_
  refine z_getR K clX12 k0 10 rfl rfl q1348 dX12_init_365 ?_
  refine z_bipush K 22 dX12_init_368 rfl ?_
  refine z_ldc2 K 495874892151 q1332 dX12_init_370 ?_
  obtain ⟨hi, h⟩ := ix_e h
  refine z_last K (hR.at (k := 10) (t := 30024) k0 rfl rfl) rfl rfl rfl hi dX12_init_373 ?_
  refine z_aload_n K dX12_init_374 rfl ?_
  refine z_getR K clX12 k0 10 rfl rfl q1348 dX12_init_375 ?_
  refine z_bipush K 23 dX12_init_378 rfl ?_
  refine z_ldc2 K 121450625394034 q1333 dX12_init_380 ?_
  obtain ⟨hi, h⟩ := ix_e h
  refine z_last K (hR.at (k := 10) (t := 30024) k0 rfl rfl) rfl rfl rfl hi dX12_init_383 ?_
  refine z_aload_n K dX12_init_384 rfl ?_
  obtain ⟨T25, hc, h⟩ := bd1_e h
  refine z_callVV K (mX12_clears l hR k0 hc) clX12 k0 ceX12_clears q1334 ⟨rfl, rfl, rfl, rfl⟩ rfl rfl rfl dX12_init_385 ?_
  refine z_iconst K 0 dX12_init_388 rfl ?_
  refine z_istore_n K dX12_init_389 rfl rfl ?_
  refine Zj.mask [true, true] ?_
  exact wX12_init_390 K hR k0 hQ (wX12_init_414 K hR k0 hQ) FU _ _ h
abbrev shX12 : List Nat := [12, 10940, 20270, 20080, 20135, 30030, 30024, 20072, 20009, 20006, 40031, 20011, 10024, 20004, 20045, 40045, 20540, 30030, 40002]
def reX12 : Rf := fun _ k => match k with
  | 1 => 1
  | 6 => 2
  | 7 => 3
  | 8 => 4
  | 9 => 5
  | 10 => 6
  | 21 => 7
  | 22 => 8
  | 28 => 9
  | 32 => 10
  | 33 => 11
  | 34 => 12
  | 38 => 13
  | 40 => 14
  | 46 => 15
  | 47 => 16
  | 48 => 17
  | 49 => 18
  | _ => 0
abbrev glX12 (D : va_G) (cy : Nat → ClassId) (q : Nat) (r : Nat → Nat) (E : State → Prop) : Gl := (D, cy, fun i => if i = 0 then q else r (i - 1), shX12, E)
theorem Kp_SX {g : Gl} {zz : (Nat → Nat) × (Nat → Nat) × Nat} (hin : ∀ z : Nat, Aw g z → zz.2.2 ≤ z) (hg : g.2.2.2.2 = fun U => SX zz.1 zz.2.1 (fun q => zz.2.2 ≤ q) U U.heap) : Kp g := by
  unfold Kp
  rw [hg]
  exact ⟨fun s U hW hq h => SX.keep hW (fun a ha hna => hq a ha (fun z => hna (hin a z))) h, fun s U hv hh h => SX.same hv hh h⟩
def zeroM : Mm := (fun _ _ => 0, fun _ _ => 0)
def sgX12 (cy : Nat → ClassId) (q : Nat) (u : (Nat → Nat) × Mm) : va_W := [(q, .inr (12, [.int (u.2.1 0 0), .ref (u.1 0), .int (u.2.1 0 2), .int (u.2.1 0 3), .int (u.2.1 0 4), .int (u.2.1 0 5), .ref (u.1 1), .ref (u.1 2), .ref (u.1 3), .ref (u.1 4), .ref (u.1 5), .int (u.2.1 0 11), .int (u.2.1 0 12), .int (u.2.1 0 13), .int (u.2.1 0 14), .int (u.2.1 0 15), .int (u.2.1 0 16), .long (u.2.2 0 17), .int (u.2.1 0 18), .int (u.2.1 0 19), .int (u.2.1 0 20), .ref (u.1 6), .ref (u.1 7), .int (u.2.1 0 23), .int (u.2.1 0 24), .int (u.2.1 0 25), .int (u.2.1 0 26), .int (u.2.1 0 27), .ref (u.1 8), .int (u.2.1 0 29), .int (u.2.1 0 30), .int (u.2.1 0 31), .ref (u.1 9), .ref (u.1 10), .ref (u.1 11), .int (u.2.1 0 35), .int (u.2.1 0 36), .int (u.2.1 0 37), .ref (u.1 12), .int (u.2.1 0 39), .ref (u.1 13), .int (u.2.1 0 41), .int (u.2.1 0 42), .int (u.2.1 0 43), .int (u.2.1 0 44), .int (u.2.1 0 45), .ref (u.1 14), .ref (u.1 15), .ref (u.1 16), .ref (u.1 17)])), (u.1 0, .inl (cy 0, 940, .inl (u.2.1 1))), (u.1 1, .inl (cy 1, 270, .inl (u.2.1 2))), (u.1 2, .inl (cy 1, 80, .inl (u.2.1 3))), (u.1 3, .inl (cy 1, 135, .inl (u.2.1 4))), (u.1 4, .inl (cy 2, 30, .inr (.inl (u.2.2 5)))), (u.1 5, .inl (cy 2, 24, .inr (.inl (u.2.2 6)))), (u.1 6, .inl (cy 1, 72, .inl (u.2.1 7))), (u.1 7, .inl (cy 1, 9, .inl (u.2.1 8))), (u.1 8, .inl (cy 1, 6, .inl (u.2.1 9))), (u.1 9, .inl (cy 3, 31, .inl (u.2.1 10))), (u.1 10, .inl (cy 1, 11, .inl (u.2.1 11))), (u.1 11, .inl (cy 0, 24, .inl (u.2.1 12))), (u.1 12, .inl (cy 1, 4, .inl (u.2.1 13))), (u.1 13, .inl (cy 1, 45, .inl (u.2.1 14))), (u.1 14, .inl (cy 3, 45, .inl (u.2.1 15))), (u.1 15, .inl (cy 1, 540, .inl (u.2.1 16))), (u.1 16, .inl (cy 2, 30, .inr (.inl (u.2.2 17)))), (u.1 17, .inl (cy 3, 2, .inl (u.2.1 18)))]
set_option maxRecDepth 100000 in
theorem wsX12_eq {D : va_G} {cy : Nat → ClassId} {q : Nat} {r : Nat → Nat} {E : State → Prop} {T : Mm} : wsOf (glX12 D cy q r E) reX12 T = [(q, .inr (12, [.int (T.1 0 0), .ref (r 0), .int (T.1 0 2), .int (T.1 0 3), .int (T.1 0 4), .int (T.1 0 5), .ref (r 1), .ref (r 2), .ref (r 3), .ref (r 4), .ref (r 5), .int (T.1 0 11), .int (T.1 0 12), .int (T.1 0 13), .int (T.1 0 14), .int (T.1 0 15), .int (T.1 0 16), .long (T.2 0 17), .int (T.1 0 18), .int (T.1 0 19), .int (T.1 0 20), .ref (r 6), .ref (r 7), .int (T.1 0 23), .int (T.1 0 24), .int (T.1 0 25), .int (T.1 0 26), .int (T.1 0 27), .ref (r 8), .int (T.1 0 29), .int (T.1 0 30), .int (T.1 0 31), .ref (r 9), .ref (r 10), .ref (r 11), .int (T.1 0 35), .int (T.1 0 36), .int (T.1 0 37), .ref (r 12), .int (T.1 0 39), .ref (r 13), .int (T.1 0 41), .int (T.1 0 42), .int (T.1 0 43), .int (T.1 0 44), .int (T.1 0 45), .ref (r 14), .ref (r 15), .ref (r 16), .ref (r 17)])), (r 0, .inl (cy 0, 940, .inl (T.1 1))), (r 1, .inl (cy 1, 270, .inl (T.1 2))), (r 2, .inl (cy 1, 80, .inl (T.1 3))), (r 3, .inl (cy 1, 135, .inl (T.1 4))), (r 4, .inl (cy 2, 30, .inr (.inl (T.2 5)))), (r 5, .inl (cy 2, 24, .inr (.inl (T.2 6)))), (r 6, .inl (cy 1, 72, .inl (T.1 7))), (r 7, .inl (cy 1, 9, .inl (T.1 8))), (r 8, .inl (cy 1, 6, .inl (T.1 9))), (r 9, .inl (cy 3, 31, .inl (T.1 10))), (r 10, .inl (cy 1, 11, .inl (T.1 11))), (r 11, .inl (cy 0, 24, .inl (T.1 12))), (r 12, .inl (cy 1, 4, .inl (T.1 13))), (r 13, .inl (cy 1, 45, .inl (T.1 14))), (r 14, .inl (cy 3, 45, .inl (T.1 15))), (r 15, .inl (cy 1, 540, .inl (T.1 16))), (r 16, .inl (cy 2, 30, .inr (.inl (T.2 17)))), (r 17, .inl (cy 3, 2, .inl (T.1 18)))] := by
  have h : wsOf (glX12 D cy q r E) reX12 T = [((glX12 D cy q r E).2.2.1 0, ce (glX12 D cy q r E) reX12 T 0), ((glX12 D cy q r E).2.2.1 1, ce (glX12 D cy q r E) reX12 T 1), ((glX12 D cy q r E).2.2.1 2, ce (glX12 D cy q r E) reX12 T 2), ((glX12 D cy q r E).2.2.1 3, ce (glX12 D cy q r E) reX12 T 3), ((glX12 D cy q r E).2.2.1 4, ce (glX12 D cy q r E) reX12 T 4), ((glX12 D cy q r E).2.2.1 5, ce (glX12 D cy q r E) reX12 T 5), ((glX12 D cy q r E).2.2.1 6, ce (glX12 D cy q r E) reX12 T 6), ((glX12 D cy q r E).2.2.1 7, ce (glX12 D cy q r E) reX12 T 7), ((glX12 D cy q r E).2.2.1 8, ce (glX12 D cy q r E) reX12 T 8), ((glX12 D cy q r E).2.2.1 9, ce (glX12 D cy q r E) reX12 T 9), ((glX12 D cy q r E).2.2.1 10, ce (glX12 D cy q r E) reX12 T 10), ((glX12 D cy q r E).2.2.1 11, ce (glX12 D cy q r E) reX12 T 11), ((glX12 D cy q r E).2.2.1 12, ce (glX12 D cy q r E) reX12 T 12), ((glX12 D cy q r E).2.2.1 13, ce (glX12 D cy q r E) reX12 T 13), ((glX12 D cy q r E).2.2.1 14, ce (glX12 D cy q r E) reX12 T 14), ((glX12 D cy q r E).2.2.1 15, ce (glX12 D cy q r E) reX12 T 15), ((glX12 D cy q r E).2.2.1 16, ce (glX12 D cy q r E) reX12 T 16), ((glX12 D cy q r E).2.2.1 17, ce (glX12 D cy q r E) reX12 T 17), ((glX12 D cy q r E).2.2.1 18, ce (glX12 D cy q r E) reX12 T 18)] := rfl
  rw [h, ce_obj (i := 0) (c := 12) rfl rfl, ce_I (i := 1) (c := 10940) (n := 940) (e := 0) rfl rfl rfl rfl rfl, ce_I (i := 2) (c := 20270) (n := 270) (e := 1) rfl rfl rfl rfl rfl, ce_I (i := 3) (c := 20080) (n := 80) (e := 1) rfl rfl rfl rfl rfl, ce_I (i := 4) (c := 20135) (n := 135) (e := 1) rfl rfl rfl rfl rfl, ce_J (i := 5) (c := 30030) (n := 30) rfl rfl rfl, ce_J (i := 6) (c := 30024) (n := 24) rfl rfl rfl, ce_I (i := 7) (c := 20072) (n := 72) (e := 1) rfl rfl rfl rfl rfl, ce_I (i := 8) (c := 20009) (n := 9) (e := 1) rfl rfl rfl rfl rfl, ce_I (i := 9) (c := 20006) (n := 6) (e := 1) rfl rfl rfl rfl rfl, ce_I (i := 10) (c := 40031) (n := 31) (e := 3) rfl rfl rfl rfl rfl, ce_I (i := 11) (c := 20011) (n := 11) (e := 1) rfl rfl rfl rfl rfl, ce_I (i := 12) (c := 10024) (n := 24) (e := 0) rfl rfl rfl rfl rfl, ce_I (i := 13) (c := 20004) (n := 4) (e := 1) rfl rfl rfl rfl rfl, ce_I (i := 14) (c := 20045) (n := 45) (e := 1) rfl rfl rfl rfl rfl, ce_I (i := 15) (c := 40045) (n := 45) (e := 3) rfl rfl rfl rfl rfl, ce_I (i := 16) (c := 20540) (n := 540) (e := 1) rfl rfl rfl rfl rfl, ce_J (i := 17) (c := 30030) (n := 30) rfl rfl rfl, ce_I (i := 18) (c := 40002) (n := 2) (e := 3) rfl rfl rfl rfl rfl]
  rfl
theorem tyX12_w {D : va_G} {cy : Nat → ClassId} {q : Nat} {r : Nat → Nat} {E : State → Prop} : Ty (glX12 D cy q r E) reX12 := by
  refine Ty_of ?_ ?_
  · show ∀ i, i < shX12.length → ∀ k, k < 64 → rk (shX12.getD i 999) k = 999 ∨ shX12.getD (reX12 i k) 999 = rk (shX12.getD i 999) k
    decide +kernel
  · show ∀ i, i < shX12.length → ∀ k, 64 ≤ k → rk (shX12.getD i 999) k = 999
    intro i hi k hk
    exact rk_far ((by decide +kernel : ∀ i, i < shX12.length → shX12.getD i 999 ≠ 50008 ∧ shX12.getD i 999 ≠ 60002 ∧ shX12.getD i 999 ≠ 70005) i hi) hk
set_option maxRecDepth 100000 in
set_option maxHeartbeats 4000000 in
theorem ctX12 {zz : (Nat → Nat) × (Nat → Nat) × Nat} {l : Launch} {D : va_G} {cy : Nat → ClassId} {r : Mm} (h : pX12_initZ reX12 zeroM 0 = some r) : CT zz l D cy yX12_init cX12_init 2 rmX12_init 12 fsX12 (fun u : (Nat → Nat) × Mm => u.2 = r) (sgX12 cy) := by
  refine y_ct2 (own := RX12) (by decide +kernel) rfl rfl rfl (fun X A q K hA1 => ?_)
  refine y_aload_n K dX12_init_0 rfl ?_
  refine y_objInit K p1309 p135 p136 dX12_init_1 (by decide) (by decide) ?_
  refine y_aload_n K dX12_init_4 rfl ?_
  refine y_sipush K 940 dX12_init_5 rfl ?_
  refine y_newa K 0 (940, .inl (fun _ => 0)) p238 rfl rfl (fun _ => rfl) (by decide) rfl (by decide) (by decide) (by decide) dX12_init_8 (fun q1 => ?_)
  refine y_putF K clX12 tyX12_ok nmX12 0 rfl 1 rfl p1339 rfl rfl rfl rfl rfl dX12_init_10 ?_
  refine y_is (ws' := [(q, .inr (12, [.int 0, .ref q1, .int 0, .int 0, .int 0, .int 0, .null, .null, .null, .null, .null, .int 0, .int 0, .int 0, .int 0, .int 0, .int 0, .long 0, .int 0, .int 0, .int 0, .null, .null, .int 0, .int 0, .int 0, .int 0, .int 0, .null, .int 0, .int 0, .int 0, .null, .null, .null, .int 0, .int 0, .int 0, .null, .int 0, .null, .int 0, .int 0, .int 0, .int 0, .int 0, .null, .null, .null, .null])), (q1, .inl (cy 0, 940, .inl (fun _ => 0)))]) rfl ?_
  refine y_aload_n K dX12_init_13 rfl ?_
  refine y_sipush K 270 dX12_init_14 rfl ?_
  refine y_newa K 1 (270, .inl (fun _ => 0)) p236 rfl rfl (fun _ => rfl) (by decide) rfl (by decide) (by decide) (by decide) dX12_init_17 (fun q2 => ?_)
  refine y_putF K clX12 tyX12_ok nmX12 0 rfl 6 rfl p1344 rfl rfl rfl rfl rfl dX12_init_19 ?_
  refine y_is (ws' := [(q, .inr (12, [.int 0, .ref q1, .int 0, .int 0, .int 0, .int 0, .ref q2, .null, .null, .null, .null, .int 0, .int 0, .int 0, .int 0, .int 0, .int 0, .long 0, .int 0, .int 0, .int 0, .null, .null, .int 0, .int 0, .int 0, .int 0, .int 0, .null, .int 0, .int 0, .int 0, .null, .null, .null, .int 0, .int 0, .int 0, .null, .int 0, .null, .int 0, .int 0, .int 0, .int 0, .int 0, .null, .null, .null, .null])), (q1, .inl (cy 0, 940, .inl (fun _ => 0))), (q2, .inl (cy 1, 270, .inl (fun _ => 0)))]) rfl ?_
  refine y_aload_n K dX12_init_22 rfl ?_
  refine y_bipush K 80 dX12_init_23 rfl ?_
  refine y_newa K 1 (80, .inl (fun _ => 0)) p236 rfl rfl (fun _ => rfl) (by decide) rfl (by decide) (by decide) (by decide) dX12_init_25 (fun q3 => ?_)
  refine y_putF K clX12 tyX12_ok nmX12 0 rfl 7 rfl p1345 rfl rfl rfl rfl rfl dX12_init_27 ?_
  refine y_is (ws' := [(q, .inr (12, [.int 0, .ref q1, .int 0, .int 0, .int 0, .int 0, .ref q2, .ref q3, .null, .null, .null, .int 0, .int 0, .int 0, .int 0, .int 0, .int 0, .long 0, .int 0, .int 0, .int 0, .null, .null, .int 0, .int 0, .int 0, .int 0, .int 0, .null, .int 0, .int 0, .int 0, .null, .null, .null, .int 0, .int 0, .int 0, .null, .int 0, .null, .int 0, .int 0, .int 0, .int 0, .int 0, .null, .null, .null, .null])), (q1, .inl (cy 0, 940, .inl (fun _ => 0))), (q2, .inl (cy 1, 270, .inl (fun _ => 0))), (q3, .inl (cy 1, 80, .inl (fun _ => 0)))]) rfl ?_
  refine y_aload_n K dX12_init_30 rfl ?_
  refine y_sipush K 135 dX12_init_31 rfl ?_
  refine y_newa K 1 (135, .inl (fun _ => 0)) p236 rfl rfl (fun _ => rfl) (by decide) rfl (by decide) (by decide) (by decide) dX12_init_34 (fun q4 => ?_)
  refine y_putF K clX12 tyX12_ok nmX12 0 rfl 8 rfl p1346 rfl rfl rfl rfl rfl dX12_init_36 ?_
  refine y_is (ws' := [(q, .inr (12, [.int 0, .ref q1, .int 0, .int 0, .int 0, .int 0, .ref q2, .ref q3, .ref q4, .null, .null, .int 0, .int 0, .int 0, .int 0, .int 0, .int 0, .long 0, .int 0, .int 0, .int 0, .null, .null, .int 0, .int 0, .int 0, .int 0, .int 0, .null, .int 0, .int 0, .int 0, .null, .null, .null, .int 0, .int 0, .int 0, .null, .int 0, .null, .int 0, .int 0, .int 0, .int 0, .int 0, .null, .null, .null, .null])), (q1, .inl (cy 0, 940, .inl (fun _ => 0))), (q2, .inl (cy 1, 270, .inl (fun _ => 0))), (q3, .inl (cy 1, 80, .inl (fun _ => 0))), (q4, .inl (cy 1, 135, .inl (fun _ => 0)))]) rfl ?_
  refine y_aload_n K dX12_init_39 rfl ?_
  refine y_bipush K 30 dX12_init_40 rfl ?_
  refine y_newa K 2 (30, .inr (.inl (fun _ => 0))) p237 rfl rfl (fun _ => rfl) (by decide) rfl (by decide) (by decide) (by decide) dX12_init_42 (fun q5 => ?_)
  refine y_putF K clX12 tyX12_ok nmX12 0 rfl 9 rfl p1347 rfl rfl rfl rfl rfl dX12_init_44 ?_
  refine y_is (ws' := [(q, .inr (12, [.int 0, .ref q1, .int 0, .int 0, .int 0, .int 0, .ref q2, .ref q3, .ref q4, .ref q5, .null, .int 0, .int 0, .int 0, .int 0, .int 0, .int 0, .long 0, .int 0, .int 0, .int 0, .null, .null, .int 0, .int 0, .int 0, .int 0, .int 0, .null, .int 0, .int 0, .int 0, .null, .null, .null, .int 0, .int 0, .int 0, .null, .int 0, .null, .int 0, .int 0, .int 0, .int 0, .int 0, .null, .null, .null, .null])), (q1, .inl (cy 0, 940, .inl (fun _ => 0))), (q2, .inl (cy 1, 270, .inl (fun _ => 0))), (q3, .inl (cy 1, 80, .inl (fun _ => 0))), (q4, .inl (cy 1, 135, .inl (fun _ => 0))), (q5, .inl (cy 2, 30, .inr (.inl (fun _ => 0))))]) rfl ?_
  refine y_aload_n K dX12_init_47 rfl ?_
  refine y_bipush K 24 dX12_init_48 rfl ?_
  refine y_newa K 2 (24, .inr (.inl (fun _ => 0))) p237 rfl rfl (fun _ => rfl) (by decide) rfl (by decide) (by decide) (by decide) dX12_init_50 (fun q6 => ?_)
  refine y_putF K clX12 tyX12_ok nmX12 0 rfl 10 rfl p1348 rfl rfl rfl rfl rfl dX12_init_52 ?_
  refine y_is (ws' := [(q, .inr (12, [.int 0, .ref q1, .int 0, .int 0, .int 0, .int 0, .ref q2, .ref q3, .ref q4, .ref q5, .ref q6, .int 0, .int 0, .int 0, .int 0, .int 0, .int 0, .long 0, .int 0, .int 0, .int 0, .null, .null, .int 0, .int 0, .int 0, .int 0, .int 0, .null, .int 0, .int 0, .int 0, .null, .null, .null, .int 0, .int 0, .int 0, .null, .int 0, .null, .int 0, .int 0, .int 0, .int 0, .int 0, .null, .null, .null, .null])), (q1, .inl (cy 0, 940, .inl (fun _ => 0))), (q2, .inl (cy 1, 270, .inl (fun _ => 0))), (q3, .inl (cy 1, 80, .inl (fun _ => 0))), (q4, .inl (cy 1, 135, .inl (fun _ => 0))), (q5, .inl (cy 2, 30, .inr (.inl (fun _ => 0)))), (q6, .inl (cy 2, 24, .inr (.inl (fun _ => 0))))]) rfl ?_
  refine y_aload_n K dX12_init_55 rfl ?_
  refine y_bipush K 72 dX12_init_56 rfl ?_
  refine y_newa K 1 (72, .inl (fun _ => 0)) p236 rfl rfl (fun _ => rfl) (by decide) rfl (by decide) (by decide) (by decide) dX12_init_58 (fun q7 => ?_)
  refine y_putF K clX12 tyX12_ok nmX12 0 rfl 21 rfl p1359 rfl rfl rfl rfl rfl dX12_init_60 ?_
  refine y_is (ws' := [(q, .inr (12, [.int 0, .ref q1, .int 0, .int 0, .int 0, .int 0, .ref q2, .ref q3, .ref q4, .ref q5, .ref q6, .int 0, .int 0, .int 0, .int 0, .int 0, .int 0, .long 0, .int 0, .int 0, .int 0, .ref q7, .null, .int 0, .int 0, .int 0, .int 0, .int 0, .null, .int 0, .int 0, .int 0, .null, .null, .null, .int 0, .int 0, .int 0, .null, .int 0, .null, .int 0, .int 0, .int 0, .int 0, .int 0, .null, .null, .null, .null])), (q1, .inl (cy 0, 940, .inl (fun _ => 0))), (q2, .inl (cy 1, 270, .inl (fun _ => 0))), (q3, .inl (cy 1, 80, .inl (fun _ => 0))), (q4, .inl (cy 1, 135, .inl (fun _ => 0))), (q5, .inl (cy 2, 30, .inr (.inl (fun _ => 0)))), (q6, .inl (cy 2, 24, .inr (.inl (fun _ => 0)))), (q7, .inl (cy 1, 72, .inl (fun _ => 0)))]) rfl ?_
  refine y_aload_n K dX12_init_63 rfl ?_
  refine y_bipush K 9 dX12_init_64 rfl ?_
  refine y_newa K 1 (9, .inl (fun _ => 0)) p236 rfl rfl (fun _ => rfl) (by decide) rfl (by decide) (by decide) (by decide) dX12_init_66 (fun q8 => ?_)
  refine y_putF K clX12 tyX12_ok nmX12 0 rfl 22 rfl p1360 rfl rfl rfl rfl rfl dX12_init_68 ?_
  refine y_is (ws' := [(q, .inr (12, [.int 0, .ref q1, .int 0, .int 0, .int 0, .int 0, .ref q2, .ref q3, .ref q4, .ref q5, .ref q6, .int 0, .int 0, .int 0, .int 0, .int 0, .int 0, .long 0, .int 0, .int 0, .int 0, .ref q7, .ref q8, .int 0, .int 0, .int 0, .int 0, .int 0, .null, .int 0, .int 0, .int 0, .null, .null, .null, .int 0, .int 0, .int 0, .null, .int 0, .null, .int 0, .int 0, .int 0, .int 0, .int 0, .null, .null, .null, .null])), (q1, .inl (cy 0, 940, .inl (fun _ => 0))), (q2, .inl (cy 1, 270, .inl (fun _ => 0))), (q3, .inl (cy 1, 80, .inl (fun _ => 0))), (q4, .inl (cy 1, 135, .inl (fun _ => 0))), (q5, .inl (cy 2, 30, .inr (.inl (fun _ => 0)))), (q6, .inl (cy 2, 24, .inr (.inl (fun _ => 0)))), (q7, .inl (cy 1, 72, .inl (fun _ => 0))), (q8, .inl (cy 1, 9, .inl (fun _ => 0)))]) rfl ?_
  refine y_aload_n K dX12_init_71 rfl ?_
  refine y_bipush K 6 dX12_init_72 rfl ?_
  refine y_newa K 1 (6, .inl (fun _ => 0)) p236 rfl rfl (fun _ => rfl) (by decide) rfl (by decide) (by decide) (by decide) dX12_init_74 (fun q9 => ?_)
  refine y_putF K clX12 tyX12_ok nmX12 0 rfl 28 rfl p1366 rfl rfl rfl rfl rfl dX12_init_76 ?_
  refine y_is (ws' := [(q, .inr (12, [.int 0, .ref q1, .int 0, .int 0, .int 0, .int 0, .ref q2, .ref q3, .ref q4, .ref q5, .ref q6, .int 0, .int 0, .int 0, .int 0, .int 0, .int 0, .long 0, .int 0, .int 0, .int 0, .ref q7, .ref q8, .int 0, .int 0, .int 0, .int 0, .int 0, .ref q9, .int 0, .int 0, .int 0, .null, .null, .null, .int 0, .int 0, .int 0, .null, .int 0, .null, .int 0, .int 0, .int 0, .int 0, .int 0, .null, .null, .null, .null])), (q1, .inl (cy 0, 940, .inl (fun _ => 0))), (q2, .inl (cy 1, 270, .inl (fun _ => 0))), (q3, .inl (cy 1, 80, .inl (fun _ => 0))), (q4, .inl (cy 1, 135, .inl (fun _ => 0))), (q5, .inl (cy 2, 30, .inr (.inl (fun _ => 0)))), (q6, .inl (cy 2, 24, .inr (.inl (fun _ => 0)))), (q7, .inl (cy 1, 72, .inl (fun _ => 0))), (q8, .inl (cy 1, 9, .inl (fun _ => 0))), (q9, .inl (cy 1, 6, .inl (fun _ => 0)))]) rfl ?_
  refine y_aload_n K dX12_init_79 rfl ?_
  refine y_bipush K 31 dX12_init_80 rfl ?_
  refine y_newa K 3 (31, .inl (fun _ => 0)) p1489 rfl rfl (fun _ => rfl) (by decide) rfl (by decide) (by decide) (by decide) dX12_init_82 (fun q10 => ?_)
  refine y_putF K clX12 tyX12_ok nmX12 0 rfl 32 rfl p1370 rfl rfl rfl rfl rfl dX12_init_84 ?_
  refine y_is (ws' := [(q, .inr (12, [.int 0, .ref q1, .int 0, .int 0, .int 0, .int 0, .ref q2, .ref q3, .ref q4, .ref q5, .ref q6, .int 0, .int 0, .int 0, .int 0, .int 0, .int 0, .long 0, .int 0, .int 0, .int 0, .ref q7, .ref q8, .int 0, .int 0, .int 0, .int 0, .int 0, .ref q9, .int 0, .int 0, .int 0, .ref q10, .null, .null, .int 0, .int 0, .int 0, .null, .int 0, .null, .int 0, .int 0, .int 0, .int 0, .int 0, .null, .null, .null, .null])), (q1, .inl (cy 0, 940, .inl (fun _ => 0))), (q2, .inl (cy 1, 270, .inl (fun _ => 0))), (q3, .inl (cy 1, 80, .inl (fun _ => 0))), (q4, .inl (cy 1, 135, .inl (fun _ => 0))), (q5, .inl (cy 2, 30, .inr (.inl (fun _ => 0)))), (q6, .inl (cy 2, 24, .inr (.inl (fun _ => 0)))), (q7, .inl (cy 1, 72, .inl (fun _ => 0))), (q8, .inl (cy 1, 9, .inl (fun _ => 0))), (q9, .inl (cy 1, 6, .inl (fun _ => 0))), (q10, .inl (cy 3, 31, .inl (fun _ => 0)))]) rfl ?_
  refine y_aload_n K dX12_init_87 rfl ?_
  refine y_bipush K 11 dX12_init_88 rfl ?_
  refine y_newa K 1 (11, .inl (fun _ => 0)) p236 rfl rfl (fun _ => rfl) (by decide) rfl (by decide) (by decide) (by decide) dX12_init_90 (fun q11 => ?_)
  refine y_putF K clX12 tyX12_ok nmX12 0 rfl 33 rfl p1371 rfl rfl rfl rfl rfl dX12_init_92 ?_
  refine y_is (ws' := [(q, .inr (12, [.int 0, .ref q1, .int 0, .int 0, .int 0, .int 0, .ref q2, .ref q3, .ref q4, .ref q5, .ref q6, .int 0, .int 0, .int 0, .int 0, .int 0, .int 0, .long 0, .int 0, .int 0, .int 0, .ref q7, .ref q8, .int 0, .int 0, .int 0, .int 0, .int 0, .ref q9, .int 0, .int 0, .int 0, .ref q10, .ref q11, .null, .int 0, .int 0, .int 0, .null, .int 0, .null, .int 0, .int 0, .int 0, .int 0, .int 0, .null, .null, .null, .null])), (q1, .inl (cy 0, 940, .inl (fun _ => 0))), (q2, .inl (cy 1, 270, .inl (fun _ => 0))), (q3, .inl (cy 1, 80, .inl (fun _ => 0))), (q4, .inl (cy 1, 135, .inl (fun _ => 0))), (q5, .inl (cy 2, 30, .inr (.inl (fun _ => 0)))), (q6, .inl (cy 2, 24, .inr (.inl (fun _ => 0)))), (q7, .inl (cy 1, 72, .inl (fun _ => 0))), (q8, .inl (cy 1, 9, .inl (fun _ => 0))), (q9, .inl (cy 1, 6, .inl (fun _ => 0))), (q10, .inl (cy 3, 31, .inl (fun _ => 0))), (q11, .inl (cy 1, 11, .inl (fun _ => 0)))]) rfl ?_
  refine y_aload_n K dX12_init_95 rfl ?_
  refine y_bipush K 24 dX12_init_96 rfl ?_
  refine y_newa K 0 (24, .inl (fun _ => 0)) p238 rfl rfl (fun _ => rfl) (by decide) rfl (by decide) (by decide) (by decide) dX12_init_98 (fun q12 => ?_)
  refine y_putF K clX12 tyX12_ok nmX12 0 rfl 34 rfl p1372 rfl rfl rfl rfl rfl dX12_init_100 ?_
  refine y_is (ws' := [(q, .inr (12, [.int 0, .ref q1, .int 0, .int 0, .int 0, .int 0, .ref q2, .ref q3, .ref q4, .ref q5, .ref q6, .int 0, .int 0, .int 0, .int 0, .int 0, .int 0, .long 0, .int 0, .int 0, .int 0, .ref q7, .ref q8, .int 0, .int 0, .int 0, .int 0, .int 0, .ref q9, .int 0, .int 0, .int 0, .ref q10, .ref q11, .ref q12, .int 0, .int 0, .int 0, .null, .int 0, .null, .int 0, .int 0, .int 0, .int 0, .int 0, .null, .null, .null, .null])), (q1, .inl (cy 0, 940, .inl (fun _ => 0))), (q2, .inl (cy 1, 270, .inl (fun _ => 0))), (q3, .inl (cy 1, 80, .inl (fun _ => 0))), (q4, .inl (cy 1, 135, .inl (fun _ => 0))), (q5, .inl (cy 2, 30, .inr (.inl (fun _ => 0)))), (q6, .inl (cy 2, 24, .inr (.inl (fun _ => 0)))), (q7, .inl (cy 1, 72, .inl (fun _ => 0))), (q8, .inl (cy 1, 9, .inl (fun _ => 0))), (q9, .inl (cy 1, 6, .inl (fun _ => 0))), (q10, .inl (cy 3, 31, .inl (fun _ => 0))), (q11, .inl (cy 1, 11, .inl (fun _ => 0))), (q12, .inl (cy 0, 24, .inl (fun _ => 0)))]) rfl ?_
  refine y_aload_n K dX12_init_103 rfl ?_
  refine y_iconst K 4 dX12_init_104 rfl ?_
  refine y_newa K 1 (4, .inl (fun _ => 0)) p236 rfl rfl (fun _ => rfl) (by decide) rfl (by decide) (by decide) (by decide) dX12_init_105 (fun q13 => ?_)
  refine y_putF K clX12 tyX12_ok nmX12 0 rfl 38 rfl p1376 rfl rfl rfl rfl rfl dX12_init_107 ?_
  refine y_is (ws' := [(q, .inr (12, [.int 0, .ref q1, .int 0, .int 0, .int 0, .int 0, .ref q2, .ref q3, .ref q4, .ref q5, .ref q6, .int 0, .int 0, .int 0, .int 0, .int 0, .int 0, .long 0, .int 0, .int 0, .int 0, .ref q7, .ref q8, .int 0, .int 0, .int 0, .int 0, .int 0, .ref q9, .int 0, .int 0, .int 0, .ref q10, .ref q11, .ref q12, .int 0, .int 0, .int 0, .ref q13, .int 0, .null, .int 0, .int 0, .int 0, .int 0, .int 0, .null, .null, .null, .null])), (q1, .inl (cy 0, 940, .inl (fun _ => 0))), (q2, .inl (cy 1, 270, .inl (fun _ => 0))), (q3, .inl (cy 1, 80, .inl (fun _ => 0))), (q4, .inl (cy 1, 135, .inl (fun _ => 0))), (q5, .inl (cy 2, 30, .inr (.inl (fun _ => 0)))), (q6, .inl (cy 2, 24, .inr (.inl (fun _ => 0)))), (q7, .inl (cy 1, 72, .inl (fun _ => 0))), (q8, .inl (cy 1, 9, .inl (fun _ => 0))), (q9, .inl (cy 1, 6, .inl (fun _ => 0))), (q10, .inl (cy 3, 31, .inl (fun _ => 0))), (q11, .inl (cy 1, 11, .inl (fun _ => 0))), (q12, .inl (cy 0, 24, .inl (fun _ => 0))), (q13, .inl (cy 1, 4, .inl (fun _ => 0)))]) rfl ?_
  refine y_aload_n K dX12_init_110 rfl ?_
  refine y_bipush K 45 dX12_init_111 rfl ?_
  refine y_newa K 1 (45, .inl (fun _ => 0)) p236 rfl rfl (fun _ => rfl) (by decide) rfl (by decide) (by decide) (by decide) dX12_init_113 (fun q14 => ?_)
  refine y_putF K clX12 tyX12_ok nmX12 0 rfl 40 rfl p1378 rfl rfl rfl rfl rfl dX12_init_115 ?_
  refine y_is (ws' := [(q, .inr (12, [.int 0, .ref q1, .int 0, .int 0, .int 0, .int 0, .ref q2, .ref q3, .ref q4, .ref q5, .ref q6, .int 0, .int 0, .int 0, .int 0, .int 0, .int 0, .long 0, .int 0, .int 0, .int 0, .ref q7, .ref q8, .int 0, .int 0, .int 0, .int 0, .int 0, .ref q9, .int 0, .int 0, .int 0, .ref q10, .ref q11, .ref q12, .int 0, .int 0, .int 0, .ref q13, .int 0, .ref q14, .int 0, .int 0, .int 0, .int 0, .int 0, .null, .null, .null, .null])), (q1, .inl (cy 0, 940, .inl (fun _ => 0))), (q2, .inl (cy 1, 270, .inl (fun _ => 0))), (q3, .inl (cy 1, 80, .inl (fun _ => 0))), (q4, .inl (cy 1, 135, .inl (fun _ => 0))), (q5, .inl (cy 2, 30, .inr (.inl (fun _ => 0)))), (q6, .inl (cy 2, 24, .inr (.inl (fun _ => 0)))), (q7, .inl (cy 1, 72, .inl (fun _ => 0))), (q8, .inl (cy 1, 9, .inl (fun _ => 0))), (q9, .inl (cy 1, 6, .inl (fun _ => 0))), (q10, .inl (cy 3, 31, .inl (fun _ => 0))), (q11, .inl (cy 1, 11, .inl (fun _ => 0))), (q12, .inl (cy 0, 24, .inl (fun _ => 0))), (q13, .inl (cy 1, 4, .inl (fun _ => 0))), (q14, .inl (cy 1, 45, .inl (fun _ => 0)))]) rfl ?_
  refine y_aload_n K dX12_init_118 rfl ?_
  refine y_bipush K 45 dX12_init_119 rfl ?_
  refine y_newa K 3 (45, .inl (fun _ => 0)) p1489 rfl rfl (fun _ => rfl) (by decide) rfl (by decide) (by decide) (by decide) dX12_init_121 (fun q15 => ?_)
  refine y_putF K clX12 tyX12_ok nmX12 0 rfl 46 rfl p1384 rfl rfl rfl rfl rfl dX12_init_123 ?_
  refine y_is (ws' := [(q, .inr (12, [.int 0, .ref q1, .int 0, .int 0, .int 0, .int 0, .ref q2, .ref q3, .ref q4, .ref q5, .ref q6, .int 0, .int 0, .int 0, .int 0, .int 0, .int 0, .long 0, .int 0, .int 0, .int 0, .ref q7, .ref q8, .int 0, .int 0, .int 0, .int 0, .int 0, .ref q9, .int 0, .int 0, .int 0, .ref q10, .ref q11, .ref q12, .int 0, .int 0, .int 0, .ref q13, .int 0, .ref q14, .int 0, .int 0, .int 0, .int 0, .int 0, .ref q15, .null, .null, .null])), (q1, .inl (cy 0, 940, .inl (fun _ => 0))), (q2, .inl (cy 1, 270, .inl (fun _ => 0))), (q3, .inl (cy 1, 80, .inl (fun _ => 0))), (q4, .inl (cy 1, 135, .inl (fun _ => 0))), (q5, .inl (cy 2, 30, .inr (.inl (fun _ => 0)))), (q6, .inl (cy 2, 24, .inr (.inl (fun _ => 0)))), (q7, .inl (cy 1, 72, .inl (fun _ => 0))), (q8, .inl (cy 1, 9, .inl (fun _ => 0))), (q9, .inl (cy 1, 6, .inl (fun _ => 0))), (q10, .inl (cy 3, 31, .inl (fun _ => 0))), (q11, .inl (cy 1, 11, .inl (fun _ => 0))), (q12, .inl (cy 0, 24, .inl (fun _ => 0))), (q13, .inl (cy 1, 4, .inl (fun _ => 0))), (q14, .inl (cy 1, 45, .inl (fun _ => 0))), (q15, .inl (cy 3, 45, .inl (fun _ => 0)))]) rfl ?_
  refine y_aload_n K dX12_init_126 rfl ?_
  refine y_sipush K 540 dX12_init_127 rfl ?_
  refine y_newa K 1 (540, .inl (fun _ => 0)) p236 rfl rfl (fun _ => rfl) (by decide) rfl (by decide) (by decide) (by decide) dX12_init_130 (fun q16 => ?_)
  refine y_putF K clX12 tyX12_ok nmX12 0 rfl 47 rfl p1385 rfl rfl rfl rfl rfl dX12_init_132 ?_
  refine y_is (ws' := [(q, .inr (12, [.int 0, .ref q1, .int 0, .int 0, .int 0, .int 0, .ref q2, .ref q3, .ref q4, .ref q5, .ref q6, .int 0, .int 0, .int 0, .int 0, .int 0, .int 0, .long 0, .int 0, .int 0, .int 0, .ref q7, .ref q8, .int 0, .int 0, .int 0, .int 0, .int 0, .ref q9, .int 0, .int 0, .int 0, .ref q10, .ref q11, .ref q12, .int 0, .int 0, .int 0, .ref q13, .int 0, .ref q14, .int 0, .int 0, .int 0, .int 0, .int 0, .ref q15, .ref q16, .null, .null])), (q1, .inl (cy 0, 940, .inl (fun _ => 0))), (q2, .inl (cy 1, 270, .inl (fun _ => 0))), (q3, .inl (cy 1, 80, .inl (fun _ => 0))), (q4, .inl (cy 1, 135, .inl (fun _ => 0))), (q5, .inl (cy 2, 30, .inr (.inl (fun _ => 0)))), (q6, .inl (cy 2, 24, .inr (.inl (fun _ => 0)))), (q7, .inl (cy 1, 72, .inl (fun _ => 0))), (q8, .inl (cy 1, 9, .inl (fun _ => 0))), (q9, .inl (cy 1, 6, .inl (fun _ => 0))), (q10, .inl (cy 3, 31, .inl (fun _ => 0))), (q11, .inl (cy 1, 11, .inl (fun _ => 0))), (q12, .inl (cy 0, 24, .inl (fun _ => 0))), (q13, .inl (cy 1, 4, .inl (fun _ => 0))), (q14, .inl (cy 1, 45, .inl (fun _ => 0))), (q15, .inl (cy 3, 45, .inl (fun _ => 0))), (q16, .inl (cy 1, 540, .inl (fun _ => 0)))]) rfl ?_
  refine y_aload_n K dX12_init_135 rfl ?_
  refine y_bipush K 30 dX12_init_136 rfl ?_
  refine y_newa K 2 (30, .inr (.inl (fun _ => 0))) p237 rfl rfl (fun _ => rfl) (by decide) rfl (by decide) (by decide) (by decide) dX12_init_138 (fun q17 => ?_)
  refine y_putF K clX12 tyX12_ok nmX12 0 rfl 48 rfl p1386 rfl rfl rfl rfl rfl dX12_init_140 ?_
  refine y_is (ws' := [(q, .inr (12, [.int 0, .ref q1, .int 0, .int 0, .int 0, .int 0, .ref q2, .ref q3, .ref q4, .ref q5, .ref q6, .int 0, .int 0, .int 0, .int 0, .int 0, .int 0, .long 0, .int 0, .int 0, .int 0, .ref q7, .ref q8, .int 0, .int 0, .int 0, .int 0, .int 0, .ref q9, .int 0, .int 0, .int 0, .ref q10, .ref q11, .ref q12, .int 0, .int 0, .int 0, .ref q13, .int 0, .ref q14, .int 0, .int 0, .int 0, .int 0, .int 0, .ref q15, .ref q16, .ref q17, .null])), (q1, .inl (cy 0, 940, .inl (fun _ => 0))), (q2, .inl (cy 1, 270, .inl (fun _ => 0))), (q3, .inl (cy 1, 80, .inl (fun _ => 0))), (q4, .inl (cy 1, 135, .inl (fun _ => 0))), (q5, .inl (cy 2, 30, .inr (.inl (fun _ => 0)))), (q6, .inl (cy 2, 24, .inr (.inl (fun _ => 0)))), (q7, .inl (cy 1, 72, .inl (fun _ => 0))), (q8, .inl (cy 1, 9, .inl (fun _ => 0))), (q9, .inl (cy 1, 6, .inl (fun _ => 0))), (q10, .inl (cy 3, 31, .inl (fun _ => 0))), (q11, .inl (cy 1, 11, .inl (fun _ => 0))), (q12, .inl (cy 0, 24, .inl (fun _ => 0))), (q13, .inl (cy 1, 4, .inl (fun _ => 0))), (q14, .inl (cy 1, 45, .inl (fun _ => 0))), (q15, .inl (cy 3, 45, .inl (fun _ => 0))), (q16, .inl (cy 1, 540, .inl (fun _ => 0))), (q17, .inl (cy 2, 30, .inr (.inl (fun _ => 0))))]) rfl ?_
  refine y_aload_n K dX12_init_143 rfl ?_
  refine y_iconst K 2 dX12_init_144 rfl ?_
  refine y_newa K 3 (2, .inl (fun _ => 0)) p1489 rfl rfl (fun _ => rfl) (by decide) rfl (by decide) (by decide) (by decide) dX12_init_145 (fun q18 => ?_)
  refine y_putF K clX12 tyX12_ok nmX12 0 rfl 49 rfl p1387 rfl rfl rfl rfl rfl dX12_init_147 ?_
  refine y_is (ws' := [(q, .inr (12, [.int 0, .ref q1, .int 0, .int 0, .int 0, .int 0, .ref q2, .ref q3, .ref q4, .ref q5, .ref q6, .int 0, .int 0, .int 0, .int 0, .int 0, .int 0, .long 0, .int 0, .int 0, .int 0, .ref q7, .ref q8, .int 0, .int 0, .int 0, .int 0, .int 0, .ref q9, .int 0, .int 0, .int 0, .ref q10, .ref q11, .ref q12, .int 0, .int 0, .int 0, .ref q13, .int 0, .ref q14, .int 0, .int 0, .int 0, .int 0, .int 0, .ref q15, .ref q16, .ref q17, .ref q18])), (q1, .inl (cy 0, 940, .inl (fun _ => 0))), (q2, .inl (cy 1, 270, .inl (fun _ => 0))), (q3, .inl (cy 1, 80, .inl (fun _ => 0))), (q4, .inl (cy 1, 135, .inl (fun _ => 0))), (q5, .inl (cy 2, 30, .inr (.inl (fun _ => 0)))), (q6, .inl (cy 2, 24, .inr (.inl (fun _ => 0)))), (q7, .inl (cy 1, 72, .inl (fun _ => 0))), (q8, .inl (cy 1, 9, .inl (fun _ => 0))), (q9, .inl (cy 1, 6, .inl (fun _ => 0))), (q10, .inl (cy 3, 31, .inl (fun _ => 0))), (q11, .inl (cy 1, 11, .inl (fun _ => 0))), (q12, .inl (cy 0, 24, .inl (fun _ => 0))), (q13, .inl (cy 1, 4, .inl (fun _ => 0))), (q14, .inl (cy 1, 45, .inl (fun _ => 0))), (q15, .inl (cy 3, 45, .inl (fun _ => 0))), (q16, .inl (cy 1, 540, .inl (fun _ => 0))), (q17, .inl (cy 2, 30, .inr (.inl (fun _ => 0)))), (q18, .inl (cy 3, 2, .inl (fun _ => 0)))]) rfl ?_
  obtain ⟨rr, hrr⟩ : ∃ rr : Nat → Nat, rr = fun i => [q1, q2, q3, q4, q5, q6, q7, q8, q9, q10, q11, q12, q13, q14, q15, q16, q17, q18].getD i 0 := ⟨_, rfl⟩
  have ha : ∀ z : Nat, z < X.2.2.2.2.1.heap.size → A z → Aw (glX12 D cy q rr (fun _ => True)) z := fun z hz h1 => ⟨0, Nat.zero_lt_succ _, hA1 z hz h1⟩
  refine y_to_z (g := (glX12 D cy q rr (fun _ => True))) (R := reX12) (T := zeroM) K rfl rfl (by rw [wsX12_eq, hrr]; rfl) tyX12_w (by decide) (by decide) (fun _ => Kp_triv rfl) trivial ha (fun KZ => ?_)
  refine wX12_initZ (a0 := 0) KZ tyX12_w rfl ?_ h
  intro lv pc hd
  exact z_yret (D := D) (A := A) (seg := sgX12 cy q) KZ rfl K.xa (rr, r) rfl wsX12_eq hd
abbrev fsX10 : List Value := [.null, .int 0, .int 0, .int 0, .int 0, .int 0, .int 0, .null, .null, .null, .null, .null]
abbrev rmX10_init : Room := { frames := 4, cells := 6, slots := 4728, locals := 141 }
def pX10_init_61 (R : Rf) (a0 : Nat) (e117 : Mm → Option (Mm)) (r61 : Mm → Int32 → Int32 → Option (Mm)) (T : Mm) (x1 : Int32) (x2 : Int32) : Option (Mm) :=
  if (nI (lnS 0)) ≤ x2 then e117 T else ix x2 (lnS 0) (lt (chS 0 x2.toNatClampNeg) (fun (v1 : Int32) => if v1 = 32 then lt (x1 + 1) (fun (v6 : Int32) => lt (x2 + 1) (fun (v7 : Int32) => r61 T v6 v7)) else if 24 ≤ x1 then lt (x2 + 1) (fun (v2 : Int32) => r61 T x1 v2) else ix x1 24 (bd1 (pX10_longer R T (T.2 (R a0 11) x1.toNatClampNeg) v1) (fun (u3 : Int64) => ix x1 24 (lt (wJ T (R a0 11) x1.toNatClampNeg u3) (fun (T4 : Mm) => lt (x2 + 1) (fun (v5 : Int32) => r61 T4 x1 v5)))))))
def pX10_init_117 (R : Rf) (a0 : Nat) (T : Mm) : Option (Mm) :=
  some T
def pX10_initZ (R : Rf) (T : Mm) (a0 : Nat) : Option Mm :=
  zl3 (pX10_init_61 R a0 (pX10_init_117 R a0)) FU T 0 0
set_option maxRecDepth 100000 in
set_option maxHeartbeats 4000000 in
theorem wX10_init_61 {X : Cx} {g : Gl} {l : Launch} {R : Rf} {a0 : Nat} (K : Ok X g l cX10_init RX10 4 none rmX10_init) (hR : Ty g R) {adK adV : Nat → Nat} {sz : Nat} (hSt : SH g adK adV sz) (hXs : ∀ q : Nat, X.2.2.2.2.2.2.2.2.2.2.2.2 q → sz ≤ q) (k0 : kd g a0 = 10) {r : Mm} {Q : State → Prop} (hQ : ∀ {lv : List (Option Value)} {pc : Nat}, decode cX10_init pc = .ok (.return_, 1) → Zj X g 4 Q R r lv [] pc) {e117 : Mm → Option (Mm)} (he117 : ∀ (T : Mm), e117 T = some r → Zj X g 4 (Q) R T [none, none, none, none] [] 117) : ∀ (n : Nat) (T : Mm) (x1 : Int32) (x2 : Int32), zl3 (pX10_init_61 R a0 e117) n T x1 x2 = some r → Zj X g 4 (Q) R T [some (.ref (g.2.2.1 a0)), some (.int x1), some (.int x2), none] [] 61 := by
  intro n
  induction n with
  | zero =>
    intro T x1 x2 h
    exact absurd h (by simp [zl3])
  | succ n hr61 =>
    intro T x1 x2 h
    rw [zl3_s] at h
    unfold pX10_init_61 at h
    refine z_iload_n K dX10_init_61 rfl ?_
    refine z_ldcS K (sx_of K hSt).2.2.2.1 dX10_init_62 ?_
    refine z_callVIr K (mJ_length hSt (by decide)) (s_recv K hSt hXs (by decide)) ceJ0_length_8abf5 q144 ⟨rfl, rfl, rfl, rfl⟩ rfl rfl rfl dX10_init_64 ?_
    refine z_icmp_ge K 117 dX10_init_67 (by decide) (fun c => ?_) (fun c => ?_)
    · have h := ite_t h c
      refine Zj.mask [false, false, false, false] ?_
      exact he117 _ h
    · have h := ite_f h c
      refine z_ldcS K (sx_of K hSt).2.2.2.1 dX10_init_70 ?_
      refine z_iload_n K dX10_init_72 rfl ?_
      obtain ⟨hi, h⟩ := ix_e h
      refine z_callVIr K (mJ_charAt hSt (by decide) hi) (s_recv K hSt hXs (by decide)) ceJ0_charAt_5068e q154 ⟨rfl, rfl, rfl, rfl⟩ rfl rfl rfl dX10_init_73 ?_
      refine z_istore_n K dX10_init_76 rfl rfl ?_
      refine z_iload_n K dX10_init_77 rfl ?_
      refine z_bipush K 32 dX10_init_78 rfl ?_
      refine z_icmp_ne K 89 dX10_init_80 (by decide) (fun c => ?_) (fun c => ?_)
      · have h := ite_f h c
        refine z_iload_n K dX10_init_89 rfl ?_
        refine z_bipush K 24 dX10_init_90 rfl ?_
        refine z_icmp_ge K 111 dX10_init_92 (by decide) (fun c => ?_) (fun c => ?_)
        · have h := ite_t h c
          refine z_iinc K 1 dX10_init_111 rfl rfl rfl rfl ?_
          refine z_goto K 61 dX10_init_114 (by decide) ?_
          refine Zj.mask [true, true, true, false] ?_
          exact hr61 _ _ _ h
        · have h := ite_f h c
          refine z_aload_n K dX10_init_95 rfl ?_
          refine z_getR K clX10 k0 11 rfl rfl q210 dX10_init_96 ?_
          refine z_iload_n K dX10_init_99 rfl ?_
          refine z_aload_n K dX10_init_100 rfl ?_
          refine z_getR K clX10 k0 11 rfl rfl q210 dX10_init_101 ?_
          refine z_iload_n K dX10_init_104 rfl ?_
          obtain ⟨hi, h⟩ := ix_e h
          refine z_lald K (hR.at (k := 11) (t := 30024) k0 rfl rfl) rfl rfl rfl hi dX10_init_105 ?_
          refine z_iload_n K dX10_init_106 rfl ?_
          obtain ⟨u3, hc, h⟩ := bd1_e h
          refine z_callSL K (mX10_longer l hR hc) ceX10_longer q192 ⟨rfl, rfl, rfl, rfl⟩ rfl rfl rfl dX10_init_107 ?_
          obtain ⟨hi, h⟩ := ix_e h
          refine z_last K (hR.at (k := 11) (t := 30024) k0 rfl rfl) rfl rfl rfl hi dX10_init_110 ?_
          refine z_iinc K 1 dX10_init_111 rfl rfl rfl rfl ?_
          refine z_goto K 61 dX10_init_114 (by decide) ?_
          refine Zj.mask [true, true, true, false] ?_
          exact hr61 _ _ _ h
      · have h := ite_t h c
        refine z_iinc K 1 dX10_init_83 rfl rfl rfl rfl ?_
        refine z_goto K 111 dX10_init_86 (by decide) ?_
        refine z_iinc K 1 dX10_init_111 rfl rfl rfl rfl ?_
        refine z_goto K 61 dX10_init_114 (by decide) ?_
        refine Zj.mask [true, true, true, false] ?_
        exact hr61 _ _ _ h
set_option maxRecDepth 100000 in
set_option maxHeartbeats 4000000 in
theorem wX10_init_117 {X : Cx} {g : Gl} {l : Launch} {R : Rf} {a0 : Nat} (K : Ok X g l cX10_init RX10 4 none rmX10_init) (hR : Ty g R) {adK adV : Nat → Nat} {sz : Nat} (hSt : SH g adK adV sz) (hXs : ∀ q : Nat, X.2.2.2.2.2.2.2.2.2.2.2.2 q → sz ≤ q) (k0 : kd g a0 = 10) {r : Mm} {Q : State → Prop} (hQ : ∀ {lv : List (Option Value)} {pc : Nat}, decode cX10_init pc = .ok (.return_, 1) → Zj X g 4 Q R r lv [] pc) (T : Mm) (h : pX10_init_117 R a0 T = some r) : Zj X g 4 (Q) R T [none, none, none, none] [] 117 := by
  unfold pX10_init_117 at h
  obtain rfl := Option.some.inj h
  exact hQ dX10_init_117
set_option maxRecDepth 100000 in
set_option maxHeartbeats 4000000 in
theorem wX10_initZ {X : Cx} {g : Gl} {l : Launch} {R : Rf} {T : Mm} {a0 : Nat} (K : Ok X g l cX10_init RX10 4 none rmX10_init) (hR : Ty g R) {adK adV : Nat → Nat} {sz : Nat} (hSt : SH g adK adV sz) (hXs : ∀ q : Nat, X.2.2.2.2.2.2.2.2.2.2.2.2 q → sz ≤ q) (k0 : kd g a0 = 10) {r : Mm} {Q : State → Prop} (hQ : ∀ {lv : List (Option Value)} {pc : Nat}, decode cX10_init pc = .ok (.return_, 1) → Zj X g 4 Q R r lv [] pc) (h : pX10_initZ R T a0 = some r) : Zj X g 4 Q R T [some (.ref (g.2.2.1 a0)), none, none, none] [] 57 := by
  unfold pX10_initZ at h
  refine z_iconst K 0 dX10_init_57 rfl ?_
  refine z_istore_n K dX10_init_58 rfl rfl ?_
  refine z_iconst K 0 dX10_init_59 rfl ?_
  refine z_istore_n K dX10_init_60 rfl rfl ?_
  refine Zj.mask [true, true, true, false] ?_
  exact wX10_init_61 K hR hSt hXs k0 hQ (wX10_init_117 K hR hSt hXs k0 hQ) FU _ _ _ h
abbrev shX10 : List Nat := [10, 20940, 20941, 20941, 20941, 30941, 30024]
def reX10 : Rf := fun _ k => match k with
  | 0 => 1
  | 7 => 2
  | 8 => 3
  | 9 => 4
  | 10 => 5
  | 11 => 6
  | _ => 0
abbrev glX10 (D : va_G) (cy : Nat → ClassId) (q : Nat) (r : Nat → Nat) (E : State → Prop) : Gl := (D, cy, fun i => if i = 0 then q else r (i - 1), shX10, E)
def sgX10 (cy : Nat → ClassId) (q : Nat) (u : (Nat → Nat) × Mm) : va_W := [(q, .inr (10, [.ref (u.1 0), .int (u.2.1 0 1), .int (u.2.1 0 2), .int (u.2.1 0 3), .int (u.2.1 0 4), .int (u.2.1 0 5), .int (u.2.1 0 6), .ref (u.1 1), .ref (u.1 2), .ref (u.1 3), .ref (u.1 4), .ref (u.1 5)])), (u.1 0, .inl (cy 1, 940, .inl (u.2.1 1))), (u.1 1, .inl (cy 1, 941, .inl (u.2.1 2))), (u.1 2, .inl (cy 1, 941, .inl (u.2.1 3))), (u.1 3, .inl (cy 1, 941, .inl (u.2.1 4))), (u.1 4, .inl (cy 2, 941, .inr (.inl (u.2.2 5)))), (u.1 5, .inl (cy 2, 24, .inr (.inl (u.2.2 6))))]
set_option maxRecDepth 100000 in
theorem wsX10_eq {D : va_G} {cy : Nat → ClassId} {q : Nat} {r : Nat → Nat} {E : State → Prop} {T : Mm} : wsOf (glX10 D cy q r E) reX10 T = [(q, .inr (10, [.ref (r 0), .int (T.1 0 1), .int (T.1 0 2), .int (T.1 0 3), .int (T.1 0 4), .int (T.1 0 5), .int (T.1 0 6), .ref (r 1), .ref (r 2), .ref (r 3), .ref (r 4), .ref (r 5)])), (r 0, .inl (cy 1, 940, .inl (T.1 1))), (r 1, .inl (cy 1, 941, .inl (T.1 2))), (r 2, .inl (cy 1, 941, .inl (T.1 3))), (r 3, .inl (cy 1, 941, .inl (T.1 4))), (r 4, .inl (cy 2, 941, .inr (.inl (T.2 5)))), (r 5, .inl (cy 2, 24, .inr (.inl (T.2 6))))] := by
  have h : wsOf (glX10 D cy q r E) reX10 T = [((glX10 D cy q r E).2.2.1 0, ce (glX10 D cy q r E) reX10 T 0), ((glX10 D cy q r E).2.2.1 1, ce (glX10 D cy q r E) reX10 T 1), ((glX10 D cy q r E).2.2.1 2, ce (glX10 D cy q r E) reX10 T 2), ((glX10 D cy q r E).2.2.1 3, ce (glX10 D cy q r E) reX10 T 3), ((glX10 D cy q r E).2.2.1 4, ce (glX10 D cy q r E) reX10 T 4), ((glX10 D cy q r E).2.2.1 5, ce (glX10 D cy q r E) reX10 T 5), ((glX10 D cy q r E).2.2.1 6, ce (glX10 D cy q r E) reX10 T 6)] := rfl
  rw [h, ce_obj (i := 0) (c := 10) rfl rfl, ce_I (i := 1) (c := 20940) (n := 940) (e := 1) rfl rfl rfl rfl rfl, ce_I (i := 2) (c := 20941) (n := 941) (e := 1) rfl rfl rfl rfl rfl, ce_I (i := 3) (c := 20941) (n := 941) (e := 1) rfl rfl rfl rfl rfl, ce_I (i := 4) (c := 20941) (n := 941) (e := 1) rfl rfl rfl rfl rfl, ce_J (i := 5) (c := 30941) (n := 941) rfl rfl rfl, ce_J (i := 6) (c := 30024) (n := 24) rfl rfl rfl]
  rfl
theorem tyX10_w {D : va_G} {cy : Nat → ClassId} {q : Nat} {r : Nat → Nat} {E : State → Prop} : Ty (glX10 D cy q r E) reX10 := by
  refine Ty_of ?_ ?_
  · show ∀ i, i < shX10.length → ∀ k, k < 64 → rk (shX10.getD i 999) k = 999 ∨ shX10.getD (reX10 i k) 999 = rk (shX10.getD i 999) k
    decide +kernel
  · show ∀ i, i < shX10.length → ∀ k, 64 ≤ k → rk (shX10.getD i 999) k = 999
    intro i hi k hk
    exact rk_far ((by decide +kernel : ∀ i, i < shX10.length → shX10.getD i 999 ≠ 50008 ∧ shX10.getD i 999 ≠ 60002 ∧ shX10.getD i 999 ≠ 70005) i hi) hk
set_option maxRecDepth 100000 in
set_option maxHeartbeats 4000000 in
theorem ctX10 {zz : (Nat → Nat) × (Nat → Nat) × Nat} {l : Launch} {D : va_G} {cy : Nat → ClassId} {r : Mm} (h : pX10_initZ reX10 zeroM 0 = some r) : CT zz l D cy yX10_init cX10_init 4 rmX10_init 10 fsX10 (fun u : (Nat → Nat) × Mm => u.2 = r) (sgX10 cy) := by
  refine y_ct2 (own := RX10) (by decide +kernel) rfl rfl rfl (fun X A q K hA1 => ?_)
  refine y_aload_n K dX10_init_0 rfl ?_
  refine y_objInit K p142 p135 p136 dX10_init_1 (by decide) (by decide) ?_
  refine y_aload_n K dX10_init_4 rfl ?_
  refine y_sipush K 940 dX10_init_5 rfl ?_
  refine y_newa K 1 (940, .inl (fun _ => 0)) p236 rfl rfl (fun _ => rfl) (by decide) rfl (by decide) (by decide) (by decide) dX10_init_8 (fun q1 => ?_)
  refine y_putF K clX10 tyX10_ok nmX10 0 rfl 0 rfl p195 rfl rfl rfl rfl rfl dX10_init_10 ?_
  refine y_is (ws' := [(q, .inr (10, [.ref q1, .int 0, .int 0, .int 0, .int 0, .int 0, .int 0, .null, .null, .null, .null, .null])), (q1, .inl (cy 1, 940, .inl (fun _ => 0)))]) rfl ?_
  refine y_aload_n K dX10_init_13 rfl ?_
  refine y_sipush K 941 dX10_init_14 rfl ?_
  refine y_newa K 1 (941, .inl (fun _ => 0)) p236 rfl rfl (fun _ => rfl) (by decide) rfl (by decide) (by decide) (by decide) dX10_init_17 (fun q2 => ?_)
  refine y_putF K clX10 tyX10_ok nmX10 0 rfl 7 rfl p206 rfl rfl rfl rfl rfl dX10_init_19 ?_
  refine y_is (ws' := [(q, .inr (10, [.ref q1, .int 0, .int 0, .int 0, .int 0, .int 0, .int 0, .ref q2, .null, .null, .null, .null])), (q1, .inl (cy 1, 940, .inl (fun _ => 0))), (q2, .inl (cy 1, 941, .inl (fun _ => 0)))]) rfl ?_
  refine y_aload_n K dX10_init_22 rfl ?_
  refine y_sipush K 941 dX10_init_23 rfl ?_
  refine y_newa K 1 (941, .inl (fun _ => 0)) p236 rfl rfl (fun _ => rfl) (by decide) rfl (by decide) (by decide) (by decide) dX10_init_26 (fun q3 => ?_)
  refine y_putF K clX10 tyX10_ok nmX10 0 rfl 8 rfl p207 rfl rfl rfl rfl rfl dX10_init_28 ?_
  refine y_is (ws' := [(q, .inr (10, [.ref q1, .int 0, .int 0, .int 0, .int 0, .int 0, .int 0, .ref q2, .ref q3, .null, .null, .null])), (q1, .inl (cy 1, 940, .inl (fun _ => 0))), (q2, .inl (cy 1, 941, .inl (fun _ => 0))), (q3, .inl (cy 1, 941, .inl (fun _ => 0)))]) rfl ?_
  refine y_aload_n K dX10_init_31 rfl ?_
  refine y_sipush K 941 dX10_init_32 rfl ?_
  refine y_newa K 1 (941, .inl (fun _ => 0)) p236 rfl rfl (fun _ => rfl) (by decide) rfl (by decide) (by decide) (by decide) dX10_init_35 (fun q4 => ?_)
  refine y_putF K clX10 tyX10_ok nmX10 0 rfl 9 rfl p208 rfl rfl rfl rfl rfl dX10_init_37 ?_
  refine y_is (ws' := [(q, .inr (10, [.ref q1, .int 0, .int 0, .int 0, .int 0, .int 0, .int 0, .ref q2, .ref q3, .ref q4, .null, .null])), (q1, .inl (cy 1, 940, .inl (fun _ => 0))), (q2, .inl (cy 1, 941, .inl (fun _ => 0))), (q3, .inl (cy 1, 941, .inl (fun _ => 0))), (q4, .inl (cy 1, 941, .inl (fun _ => 0)))]) rfl ?_
  refine y_aload_n K dX10_init_40 rfl ?_
  refine y_sipush K 941 dX10_init_41 rfl ?_
  refine y_newa K 2 (941, .inr (.inl (fun _ => 0))) p237 rfl rfl (fun _ => rfl) (by decide) rfl (by decide) (by decide) (by decide) dX10_init_44 (fun q5 => ?_)
  refine y_putF K clX10 tyX10_ok nmX10 0 rfl 10 rfl p209 rfl rfl rfl rfl rfl dX10_init_46 ?_
  refine y_is (ws' := [(q, .inr (10, [.ref q1, .int 0, .int 0, .int 0, .int 0, .int 0, .int 0, .ref q2, .ref q3, .ref q4, .ref q5, .null])), (q1, .inl (cy 1, 940, .inl (fun _ => 0))), (q2, .inl (cy 1, 941, .inl (fun _ => 0))), (q3, .inl (cy 1, 941, .inl (fun _ => 0))), (q4, .inl (cy 1, 941, .inl (fun _ => 0))), (q5, .inl (cy 2, 941, .inr (.inl (fun _ => 0))))]) rfl ?_
  refine y_aload_n K dX10_init_49 rfl ?_
  refine y_bipush K 24 dX10_init_50 rfl ?_
  refine y_newa K 2 (24, .inr (.inl (fun _ => 0))) p237 rfl rfl (fun _ => rfl) (by decide) rfl (by decide) (by decide) (by decide) dX10_init_52 (fun q6 => ?_)
  refine y_putF K clX10 tyX10_ok nmX10 0 rfl 11 rfl p210 rfl rfl rfl rfl rfl dX10_init_54 ?_
  refine y_is (ws' := [(q, .inr (10, [.ref q1, .int 0, .int 0, .int 0, .int 0, .int 0, .int 0, .ref q2, .ref q3, .ref q4, .ref q5, .ref q6])), (q1, .inl (cy 1, 940, .inl (fun _ => 0))), (q2, .inl (cy 1, 941, .inl (fun _ => 0))), (q3, .inl (cy 1, 941, .inl (fun _ => 0))), (q4, .inl (cy 1, 941, .inl (fun _ => 0))), (q5, .inl (cy 2, 941, .inr (.inl (fun _ => 0)))), (q6, .inl (cy 2, 24, .inr (.inl (fun _ => 0))))]) rfl ?_
  obtain ⟨rr, hrr⟩ : ∃ rr : Nat → Nat, rr = fun i => [q1, q2, q3, q4, q5, q6].getD i 0 := ⟨_, rfl⟩
  have ha : ∀ z : Nat, z < X.2.2.2.2.1.heap.size → A z → Aw (glX10 D cy q rr (fun U => SX zz.1 zz.2.1 (fun q => zz.2.2 ≤ q) U U.heap)) z := fun z hz h1 => ⟨0, Nat.zero_lt_succ _, hA1 z hz h1⟩
  refine y_to_z (g := (glX10 D cy q rr (fun U => SX zz.1 zz.2.1 (fun q => zz.2.2 ≤ q) U U.heap))) (R := reX10) (T := zeroM) K rfl rfl (by rw [wsX10_eq, hrr]; rfl) tyX10_w (by decide) (by decide) (fun hin => Kp_SX (fun z hz => K.az z (hin z hz)) rfl) K.2.2.2.2.2.2.2.2.1.2.1 ha (fun KZ => ?_)
  have hXs : ∀ z : Nat, X.2.2.2.2.2.2.2.2.2.2.2.2 z → zz.2.2 ≤ z := fun z hz => K.az z (by rw [← K.xa]; exact hz)
  have hSt : SH (glX10 D cy q rr (fun U => SX zz.1 zz.2.1 (fun q => zz.2.2 ≤ q) U U.heap)) zz.1 zz.2.1 zz.2.2 := ⟨fun U h => h, fun z hz => hXs z (KZ.2.2.2.2.2.2.2.2.1 z hz)⟩
  refine wX10_initZ (a0 := 0) KZ tyX10_w hSt hXs rfl ?_ h
  intro lv pc hd
  exact z_yret (D := D) (A := A) (seg := sgX10 cy q) KZ rfl K.xa (rr, r) rfl wsX10_eq hd
