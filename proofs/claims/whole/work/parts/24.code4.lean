/-! GoingOverModel.bad (I)Z -/
abbrev rmX12_bad : Room := { frames := 0, cells := 0, slots := 0, locals := 0 }
def pX12_bad (R : Rf) (T : Mm) (a0 : Nat) (x1 : Int32) : Option (Int32 × Mm) :=
  lt (wI T a0 15 x1) (fun (T1 : Mm) => lt (wI T1 a0 16 (T1.1 a0 12)) (fun (T2 : Mm) => some (0, T2)))
set_option maxRecDepth 100000 in
set_option maxHeartbeats 4000000 in
theorem mX12_bad {g : Gl} {R : Rf} {T : Mm} {a0 : Nat} {x1 : Int32} (l : Launch) (hR : Ty g R) (k0 : kd g a0 = 12) {r : Int32 × Mm} (h : pX12_bad R T a0 x1 = some r) : MI l g yX12_bad cX12_bad 2 (some .boolean) rmX12_bad [.ref (g.2.2.1 a0), .int x1] R T r.1 R r.2 := by
  refine z_metI (own := RX12) (lv := [some (.ref (g.2.2.1 a0)), some (.int x1)]) (by decide +kernel) rfl rfl rfl (fun X K => ?_)
  unfold pX12_bad at h
  refine z_aload_n K dX12_bad_0 rfl ?_
  refine z_iload_n K dX12_bad_1 rfl ?_
  refine z_putI K clX12 tyX12_ok nmX12 k0 15 rfl rfl q1353 rfl rfl rfl dX12_bad_2 ?_
  refine z_aload_n K dX12_bad_5 rfl ?_
  refine z_aload_n K dX12_bad_6 rfl ?_
  refine z_getI K clX12 k0 12 rfl rfl q1350 dX12_bad_7 ?_
  refine z_putI K clX12 tyX12_ok nmX12 k0 16 rfl rfl q1354 rfl rfl rfl dX12_bad_10 ?_
  refine z_iconst K 0 dX12_bad_13 rfl ?_
  obtain rfl := Option.some.inj h
  exact z_zret (v := 0) K rfl dX12_bad_14
/-! GoingOverModel.isWord (J)Z -/
abbrev rmX12_isWord : Room := { frames := 0, cells := 0, slots := 0, locals := 0 }
def pX12_isWord (R : Rf) (T : Mm) (a0 : Nat) (j1 : Int64) : Option (Int32) :=
  if (T.1 a0 11) = 1 then if (lg_cmp (T.2 a0 17) j1) = 0 then some 1 else some 0 else some 0
set_option maxRecDepth 100000 in
set_option maxHeartbeats 4000000 in
theorem mX12_isWord {g : Gl} {R : Rf} {T : Mm} {a0 : Nat} {j1 : Int64} (l : Launch) (hR : Ty g R) (k0 : kd g a0 = 12) {r : Int32} (h : pX12_isWord R T a0 j1 = some r) : MI l g yX12_isWord cX12_isWord 3 (some .boolean) rmX12_isWord [.ref (g.2.2.1 a0), .long j1] R T r R T := by
  refine z_metI (own := RX12) (lv := [some (.ref (g.2.2.1 a0)), some (.long j1), none]) (by decide +kernel) rfl rfl rfl (fun X K => ?_)
  unfold pX12_isWord at h
  refine z_aload_n K dX12_isWord_0 rfl ?_
  refine z_getI K clX12 k0 11 rfl rfl q1349 dX12_isWord_1 ?_
  refine z_iconst K 1 dX12_isWord_4 rfl ?_
  refine z_icmp_ne K 21 dX12_isWord_5 (by decide) (fun c => ?_) (fun c => ?_)
  · have h := ite_f h c
    refine z_iconst K 0 dX12_isWord_21 rfl ?_
    obtain rfl := Option.some.inj h
    exact z_zret (v := 0) K rfl dX12_isWord_22
  · have h := ite_t h c
    refine z_aload_n K dX12_isWord_8 rfl ?_
    refine z_getJ K clX12 k0 17 rfl rfl q1355 dX12_isWord_9 ?_
    refine z_lload_n K dX12_isWord_12 rfl ?_
    refine z_lcmp K dX12_isWord_13 ?_
    refine z_if_ne K 21 dX12_isWord_14 (by decide) (fun c => ?_) (fun c => ?_)
    · have h := ite_f h c
      refine z_iconst K 0 dX12_isWord_21 rfl ?_
      obtain rfl := Option.some.inj h
      exact z_zret (v := 0) K rfl dX12_isWord_22
    · have h := ite_t h c
      refine z_iconst K 1 dX12_isWord_17 rfl ?_
      refine z_goto K 22 dX12_isWord_18 (by decide) ?_
      obtain rfl := Option.some.inj h
      exact z_zret (v := 1) K rfl dX12_isWord_22
/-! GoingOverModel.isSign (I)Z -/
abbrev rmX12_isSign : Room := { frames := 0, cells := 0, slots := 0, locals := 0 }
def pX12_isSign (R : Rf) (T : Mm) (a0 : Nat) (x1 : Int32) : Option (Int32) :=
  if (T.1 a0 11) = 3 then if (T.1 a0 14) = x1 then some 1 else some 0 else some 0
set_option maxRecDepth 100000 in
set_option maxHeartbeats 4000000 in
theorem mX12_isSign {g : Gl} {R : Rf} {T : Mm} {a0 : Nat} {x1 : Int32} (l : Launch) (hR : Ty g R) (k0 : kd g a0 = 12) {r : Int32} (h : pX12_isSign R T a0 x1 = some r) : MI l g yX12_isSign cX12_isSign 2 (some .boolean) rmX12_isSign [.ref (g.2.2.1 a0), .int x1] R T r R T := by
  refine z_metI (own := RX12) (lv := [some (.ref (g.2.2.1 a0)), some (.int x1)]) (by decide +kernel) rfl rfl rfl (fun X K => ?_)
  unfold pX12_isSign at h
  refine z_aload_n K dX12_isSign_0 rfl ?_
  refine z_getI K clX12 k0 11 rfl rfl q1349 dX12_isSign_1 ?_
  refine z_iconst K 3 dX12_isSign_4 rfl ?_
  refine z_icmp_ne K 20 dX12_isSign_5 (by decide) (fun c => ?_) (fun c => ?_)
  · have h := ite_f h c
    refine z_iconst K 0 dX12_isSign_20 rfl ?_
    obtain rfl := Option.some.inj h
    exact z_zret (v := 0) K rfl dX12_isSign_21
  · have h := ite_t h c
    refine z_aload_n K dX12_isSign_8 rfl ?_
    refine z_getI K clX12 k0 14 rfl rfl q1352 dX12_isSign_9 ?_
    refine z_iload_n K dX12_isSign_12 rfl ?_
    refine z_icmp_ne K 20 dX12_isSign_13 (by decide) (fun c => ?_) (fun c => ?_)
    · have h := ite_f h c
      refine z_iconst K 0 dX12_isSign_20 rfl ?_
      obtain rfl := Option.some.inj h
      exact z_zret (v := 0) K rfl dX12_isSign_21
    · have h := ite_t h c
      refine z_iconst K 1 dX12_isSign_16 rfl ?_
      refine z_goto K 21 dX12_isSign_17 (by decide) ?_
      obtain rfl := Option.some.inj h
      exact z_zret (v := 1) K rfl dX12_isSign_21
/-! GoingOverModel.sign (I)Z -/
abbrev rmX12_sign : Room := { frames := 2, cells := 0, slots := 0, locals := 43 }
def pX12_sign (R : Rf) (T : Mm) (a0 : Nat) (x1 : Int32) : Option (Int32 × Mm) :=
  bd1 (pX12_isSign R T a0 x1) (fun (u1 : Int32) => if u1 = 0 then bd2 (pX12_bad R T a0 1) (fun (u3 : Int32) (T3 : Mm) => bz u3 (some (u3, T3))) else bd1 (pX12_next R T a0) (fun (T2 : Mm) => some (1, T2)))
set_option maxRecDepth 100000 in
set_option maxHeartbeats 4000000 in
theorem mX12_sign {g : Gl} {R : Rf} {T : Mm} {a0 : Nat} {x1 : Int32} (l : Launch) (hR : Ty g R) (k0 : kd g a0 = 12) {r : Int32 × Mm} (h : pX12_sign R T a0 x1 = some r) : MI l g yX12_sign cX12_sign 2 (some .boolean) rmX12_sign [.ref (g.2.2.1 a0), .int x1] R T r.1 R r.2 := by
  refine z_metI (own := RX12) (lv := [some (.ref (g.2.2.1 a0)), some (.int x1)]) (by decide +kernel) rfl rfl rfl (fun X K => ?_)
  unfold pX12_sign at h
  refine z_aload_n K dX12_sign_0 rfl ?_
  refine z_iload_n K dX12_sign_1 rfl ?_
  obtain ⟨u1, hc, h⟩ := bd1_e h
  refine z_callVI K (mX12_isSign l hR k0 hc) clX12 k0 ceX12_isSign q1578 ⟨rfl, rfl, rfl, rfl⟩ rfl rfl rfl dX12_sign_2 ?_
  refine z_if_ne K 14 dX12_sign_5 (by decide) (fun c => ?_) (fun c => ?_)
  · have h := ite_f h c
    refine z_aload_n K dX12_sign_14 rfl ?_
    obtain ⟨T2, hc, h⟩ := bd1_e h
    refine z_callVV K (mX12_next l hR k0 hc) clX12 k0 ceX12_next q1498 ⟨rfl, rfl, rfl, rfl⟩ rfl rfl rfl dX12_sign_15 ?_
    refine z_iconst K 1 dX12_sign_18 rfl ?_
    obtain rfl := Option.some.inj h
    exact z_zret (v := 1) K rfl dX12_sign_19
  · have h := ite_t h c
    refine z_aload_n K dX12_sign_8 rfl ?_
    refine z_iconst K 1 dX12_sign_9 rfl ?_
    obtain ⟨u3, T3, hc, h⟩ := bd2_e h
    refine z_callVI K (mX12_bad l hR k0 hc) clX12 k0 ceX12_bad q1527 ⟨rfl, rfl, rfl, rfl⟩ rfl rfl rfl dX12_sign_10 ?_
    obtain ⟨hz, hf, h⟩ := bz_e h
    obtain rfl := Option.some.inj h
    exact z_zret K hz dX12_sign_13
/-! GoingOverModel.isName ()Z -/
abbrev rmX12_isName : Room := { frames := 0, cells := 0, slots := 0, locals := 0 }
def pX12_isName_16 (R : Rf) (T : Mm) (a0 : Nat) (e52 : Int32 → Option (Int32)) (r16 : Int32 → Int32 → Option (Int32)) (x1 : Int32) (x2 : Int32) : Option (Int32) :=
  if 24 ≤ x2 then e52 x1 else if x1 = 0 then lt (x2 + 1) (fun (v1 : Int32) => r16 0 v1) else ix x2 24 (if (lg_cmp (T.2 a0 17) (T.2 (R a0 10) x2.toNatClampNeg)) = 0 then lt (x2 + 1) (fun (v2 : Int32) => r16 0 v2) else lt (x2 + 1) (fun (v3 : Int32) => r16 1 v3))
def pX12_isName_52 (R : Rf) (T : Mm) (a0 : Nat) (x1 : Int32) : Option (Int32) :=
  bz x1 (some x1)
def pX12_isName (R : Rf) (T : Mm) (a0 : Nat) : Option (Int32) :=
  if (T.1 a0 11) = 1 then zl2 (pX12_isName_16 R T a0 (pX12_isName_52 R T a0)) FU 1 0 else zl2 (pX12_isName_16 R T a0 (pX12_isName_52 R T a0)) FU 0 0
set_option maxRecDepth 100000 in
set_option maxHeartbeats 4000000 in
theorem wX12_isName_16 {X : Cx} {g : Gl} {l : Launch} {R : Rf} {T : Mm} {a0 : Nat} (K : Ok X g l cX12_isName RX12 3 (some .boolean) rmX12_isName) (hR : Ty g R) (k0 : kd g a0 = 12) {r : Int32} {e52 : Int32 → Option (Int32)} (he52 : ∀ (x1 : Int32), e52 x1 = some r → Zj X g 3 (QI X g r R T) R T [none, some (.int x1), none] [] 52) : ∀ (n : Nat) (x1 : Int32) (x2 : Int32), zl2 (pX12_isName_16 R T a0 e52) n x1 x2 = some r → Zj X g 3 (QI X g r R T) R T [some (.ref (g.2.2.1 a0)), some (.int x1), some (.int x2)] [] 16 := by
  intro n
  induction n with
  | zero =>
    intro x1 x2 h
    exact absurd h (by simp [zl2])
  | succ n hr16 =>
    intro x1 x2 h
    rw [zl2_s] at h
    unfold pX12_isName_16 at h
    refine z_iload_n K dX12_isName_16 rfl ?_
    refine z_bipush K 24 dX12_isName_17 rfl ?_
    refine z_icmp_ge K 52 dX12_isName_19 (by decide) (fun c => ?_) (fun c => ?_)
    · have h := ite_t h c
      refine Zj.mask [false, true, false] ?_
      exact he52 _ h
    · have h := ite_f h c
      refine z_iload_n K dX12_isName_22 rfl ?_
      refine z_if_eq K 44 dX12_isName_23 (by decide) (fun c => ?_) (fun c => ?_)
      · have h := ite_t h c
        refine z_iconst K 0 dX12_isName_44 rfl ?_
        refine z_istore_n K dX12_isName_45 rfl rfl ?_
        refine z_iinc K 1 dX12_isName_46 rfl rfl rfl rfl ?_
        refine z_goto K 16 dX12_isName_49 (by decide) ?_
        refine Zj.mask [true, true, true] ?_
        exact hr16 _ _ h
      · have h := ite_f h c
        refine z_aload_n K dX12_isName_26 rfl ?_
        refine z_getJ K clX12 k0 17 rfl rfl q1355 dX12_isName_27 ?_
        refine z_aload_n K dX12_isName_30 rfl ?_
        refine z_getR K clX12 k0 10 rfl rfl q1348 dX12_isName_31 ?_
        refine z_iload_n K dX12_isName_34 rfl ?_
        obtain ⟨hi, h⟩ := ix_e h
        refine z_lald K (hR.at (k := 10) (t := 30024) k0 rfl rfl) rfl rfl rfl hi dX12_isName_35 ?_
        refine z_lcmp K dX12_isName_36 ?_
        refine z_if_eq K 44 dX12_isName_37 (by decide) (fun c => ?_) (fun c => ?_)
        · have h := ite_t h c
          refine z_iconst K 0 dX12_isName_44 rfl ?_
          refine z_istore_n K dX12_isName_45 rfl rfl ?_
          refine z_iinc K 1 dX12_isName_46 rfl rfl rfl rfl ?_
          refine z_goto K 16 dX12_isName_49 (by decide) ?_
          refine Zj.mask [true, true, true] ?_
          exact hr16 _ _ h
        · have h := ite_f h c
          refine z_iconst K 1 dX12_isName_40 rfl ?_
          refine z_goto K 45 dX12_isName_41 (by decide) ?_
          refine z_istore_n K dX12_isName_45 rfl rfl ?_
          refine z_iinc K 1 dX12_isName_46 rfl rfl rfl rfl ?_
          refine z_goto K 16 dX12_isName_49 (by decide) ?_
          refine Zj.mask [true, true, true] ?_
          exact hr16 _ _ h
set_option maxRecDepth 100000 in
set_option maxHeartbeats 4000000 in
theorem wX12_isName_52 {X : Cx} {g : Gl} {l : Launch} {R : Rf} {T : Mm} {a0 : Nat} (K : Ok X g l cX12_isName RX12 3 (some .boolean) rmX12_isName) (hR : Ty g R) (k0 : kd g a0 = 12) {r : Int32} (x1 : Int32) (h : pX12_isName_52 R T a0 x1 = some r) : Zj X g 3 (QI X g r R T) R T [none, some (.int x1), none] [] 52 := by
  unfold pX12_isName_52 at h
  refine z_iload_n K dX12_isName_52 rfl ?_
  obtain ⟨hz, hf, h⟩ := bz_e h
  obtain rfl := Option.some.inj h
  exact z_zret K hz dX12_isName_53
set_option maxRecDepth 100000 in
set_option maxHeartbeats 4000000 in
theorem mX12_isName {g : Gl} {R : Rf} {T : Mm} {a0 : Nat} (l : Launch) (hR : Ty g R) (k0 : kd g a0 = 12) {r : Int32} (h : pX12_isName R T a0 = some r) : MI l g yX12_isName cX12_isName 3 (some .boolean) rmX12_isName [.ref (g.2.2.1 a0)] R T r R T := by
  refine z_metI (own := RX12) (lv := [some (.ref (g.2.2.1 a0)), none, none]) (by decide +kernel) rfl rfl rfl (fun X K => ?_)
  unfold pX12_isName at h
  refine z_aload_n K dX12_isName_0 rfl ?_
  refine z_getI K clX12 k0 11 rfl rfl q1349 dX12_isName_1 ?_
  refine z_iconst K 1 dX12_isName_4 rfl ?_
  refine z_icmp_ne K 12 dX12_isName_5 (by decide) (fun c => ?_) (fun c => ?_)
  · have h := ite_f h c
    refine z_iconst K 0 dX12_isName_12 rfl ?_
    refine z_istore_n K dX12_isName_13 rfl rfl ?_
    refine z_iconst K 0 dX12_isName_14 rfl ?_
    refine z_istore_n K dX12_isName_15 rfl rfl ?_
    refine Zj.mask [true, true, true] ?_
    exact wX12_isName_16 K hR k0 (wX12_isName_52 K hR k0) FU _ _ h
  · have h := ite_t h c
    refine z_iconst K 1 dX12_isName_8 rfl ?_
    refine z_goto K 13 dX12_isName_9 (by decide) ?_
    refine z_istore_n K dX12_isName_13 rfl rfl ?_
    refine z_iconst K 0 dX12_isName_14 rfl ?_
    refine z_istore_n K dX12_isName_15 rfl rfl ?_
    refine Zj.mask [true, true, true] ?_
    exact wX12_isName_16 K hR k0 (wX12_isName_52 K hR k0) FU _ _ h
/-! GoingOverModel.takes (II)Z -/
abbrev rmX12_takes : Room := { frames := 2, cells := 0, slots := 0, locals := 43 }
def pX12_takes (R : Rf) (T : Mm) (a0 : Nat) (x1 : Int32) (x2 : Int32) : Option (Int32 × Mm) :=
  if (T.1 a0 11) = 2 then bd1 (pX12_isIn R T (T.1 a0 14) x1 x2) (fun (u1 : Int32) => if u1 = 0 then bd2 (pX12_bad R T a0 2) (fun (u4 : Int32) (T4 : Mm) => bz u4 (some (u4, T4))) else lt (wI T a0 18 (T.1 a0 14)) (fun (T2 : Mm) => bd1 (pX12_next R T2 a0) (fun (T3 : Mm) => some (1, T3)))) else bd2 (pX12_bad R T a0 1) (fun (u5 : Int32) (T5 : Mm) => bz u5 (some (u5, T5)))
set_option maxRecDepth 100000 in
set_option maxHeartbeats 4000000 in
theorem mX12_takes {g : Gl} {R : Rf} {T : Mm} {a0 : Nat} {x1 : Int32} {x2 : Int32} (l : Launch) (hR : Ty g R) (k0 : kd g a0 = 12) {r : Int32 × Mm} (h : pX12_takes R T a0 x1 x2 = some r) : MI l g yX12_takes cX12_takes 3 (some .boolean) rmX12_takes [.ref (g.2.2.1 a0), .int x1, .int x2] R T r.1 R r.2 := by
  refine z_metI (own := RX12) (lv := [some (.ref (g.2.2.1 a0)), some (.int x1), some (.int x2)]) (by decide +kernel) rfl rfl rfl (fun X K => ?_)
  unfold pX12_takes at h
  refine z_aload_n K dX12_takes_0 rfl ?_
  refine z_getI K clX12 k0 11 rfl rfl q1349 dX12_takes_1 ?_
  refine z_iconst K 2 dX12_takes_4 rfl ?_
  refine z_icmp_eq K 14 dX12_takes_5 (by decide) (fun c => ?_) (fun c => ?_)
  · have h := ite_t h c
    refine z_aload_n K dX12_takes_14 rfl ?_
    refine z_getI K clX12 k0 14 rfl rfl q1352 dX12_takes_15 ?_
    refine z_iload_n K dX12_takes_18 rfl ?_
    refine z_iload_n K dX12_takes_19 rfl ?_
    obtain ⟨u1, hc, h⟩ := bd1_e h
    refine z_callSI K (mX12_isIn l hR hc) ceX12_isIn q1539 ⟨rfl, rfl, rfl, rfl⟩ rfl rfl rfl dX12_takes_20 ?_
    refine z_if_ne K 32 dX12_takes_23 (by decide) (fun c => ?_) (fun c => ?_)
    · have h := ite_f h c
      refine z_aload_n K dX12_takes_32 rfl ?_
      refine z_aload_n K dX12_takes_33 rfl ?_
      refine z_getI K clX12 k0 14 rfl rfl q1352 dX12_takes_34 ?_
      refine z_putI K clX12 tyX12_ok nmX12 k0 18 rfl rfl q1356 rfl rfl rfl dX12_takes_37 ?_
      refine z_aload_n K dX12_takes_40 rfl ?_
      obtain ⟨T3, hc, h⟩ := bd1_e h
      refine z_callVV K (mX12_next l hR k0 hc) clX12 k0 ceX12_next q1498 ⟨rfl, rfl, rfl, rfl⟩ rfl rfl rfl dX12_takes_41 ?_
      refine z_iconst K 1 dX12_takes_44 rfl ?_
      obtain rfl := Option.some.inj h
      exact z_zret (v := 1) K rfl dX12_takes_45
    · have h := ite_t h c
      refine z_aload_n K dX12_takes_26 rfl ?_
      refine z_iconst K 2 dX12_takes_27 rfl ?_
      obtain ⟨u4, T4, hc, h⟩ := bd2_e h
      refine z_callVI K (mX12_bad l hR k0 hc) clX12 k0 ceX12_bad q1527 ⟨rfl, rfl, rfl, rfl⟩ rfl rfl rfl dX12_takes_28 ?_
      obtain ⟨hz, hf, h⟩ := bz_e h
      obtain rfl := Option.some.inj h
      exact z_zret K hz dX12_takes_31
  · have h := ite_f h c
    refine z_aload_n K dX12_takes_8 rfl ?_
    refine z_iconst K 1 dX12_takes_9 rfl ?_
    obtain ⟨u5, T5, hc, h⟩ := bd2_e h
    refine z_callVI K (mX12_bad l hR k0 hc) clX12 k0 ceX12_bad q1527 ⟨rfl, rfl, rfl, rfl⟩ rfl rfl rfl dX12_takes_10 ?_
    obtain ⟨hz, hf, h⟩ := bz_e h
    obtain rfl := Option.some.inj h
    exact z_zret K hz dX12_takes_13
/-! GoingOverModel.puts (III)Z -/
abbrev rmX12_puts : Room := { frames := 3, cells := 0, slots := 0, locals := 65 }
def pX12_puts (R : Rf) (T : Mm) (a0 : Nat) (x1 : Int32) (x2 : Int32) (x3 : Int32) : Option (Int32 × Mm) :=
  bd2 (pX12_takes R T a0 x2 x3) (fun (u1 : Int32) (T1 : Mm) => if u1 = 0 then some (0, T1) else ix x1 80 (lt (wI T1 (R a0 7) x1.toNatClampNeg (T1.1 a0 18)) (fun (T2 : Mm) => some (1, T2))))
set_option maxRecDepth 100000 in
set_option maxHeartbeats 4000000 in
theorem mX12_puts {g : Gl} {R : Rf} {T : Mm} {a0 : Nat} {x1 : Int32} {x2 : Int32} {x3 : Int32} (l : Launch) (hR : Ty g R) (k0 : kd g a0 = 12) {r : Int32 × Mm} (h : pX12_puts R T a0 x1 x2 x3 = some r) : MI l g yX12_puts cX12_puts 4 (some .boolean) rmX12_puts [.ref (g.2.2.1 a0), .int x1, .int x2, .int x3] R T r.1 R r.2 := by
  refine z_metI (own := RX12) (lv := [some (.ref (g.2.2.1 a0)), some (.int x1), some (.int x2), some (.int x3)]) (by decide +kernel) rfl rfl rfl (fun X K => ?_)
  unfold pX12_puts at h
  refine z_aload_n K dX12_puts_0 rfl ?_
  refine z_iload_n K dX12_puts_1 rfl ?_
  refine z_iload_n K dX12_puts_2 rfl ?_
  obtain ⟨u1, T1, hc, h⟩ := bd2_e h
  refine z_callVI K (mX12_takes l hR k0 hc) clX12 k0 ceX12_takes q1535 ⟨rfl, rfl, rfl, rfl⟩ rfl rfl rfl dX12_puts_3 ?_
  refine z_if_ne K 11 dX12_puts_6 (by decide) (fun c => ?_) (fun c => ?_)
  · have h := ite_f h c
    refine z_aload_n K dX12_puts_11 rfl ?_
    refine z_getR K clX12 k0 7 rfl rfl q1345 dX12_puts_12 ?_
    refine z_iload_n K dX12_puts_15 rfl ?_
    refine z_aload_n K dX12_puts_16 rfl ?_
    refine z_getI K clX12 k0 18 rfl rfl q1356 dX12_puts_17 ?_
    obtain ⟨hi, h⟩ := ix_e h
    refine z_iast K (hR.at (k := 7) (t := 20080) k0 rfl rfl) rfl rfl rfl hi dX12_puts_20 ?_
    refine z_iconst K 1 dX12_puts_21 rfl ?_
    obtain rfl := Option.some.inj h
    exact z_zret (v := 1) K rfl dX12_puts_22
  · have h := ite_t h c
    refine z_iconst K 0 dX12_puts_9 rfl ?_
    obtain rfl := Option.some.inj h
    exact z_zret (v := 0) K rfl dX12_puts_10
/-! GoingOverModel.seek (II)I -/
abbrev rmX12_seek : Room := { frames := 0, cells := 0, slots := 0, locals := 0 }
def pX12_seek_2 (R : Rf) (T : Mm) (a0 : Nat) (x1 : Int32) (x2 : Int32) (e23 : Int32 → Option (Int32)) (e31 : Option (Int32)) (r2 : Int32 → Option (Int32)) (x3 : Int32) : Option (Int32) :=
  if x2 ≤ x3 then e31 else ix (x1 + x3) 30 (if (lg_cmp (T.2 (R a0 9) (x1 + x3).toNatClampNeg) (T.2 a0 17)) = 0 then e23 x3 else lt (x3 + 1) (fun (v1 : Int32) => r2 v1))
def pX12_seek_23 (R : Rf) (T : Mm) (a0 : Nat) (x1 : Int32) (x2 : Int32) (x3 : Int32) : Option (Int32) :=
  some x3
def pX12_seek_31 (R : Rf) (T : Mm) (a0 : Nat) (x1 : Int32) (x2 : Int32) : Option (Int32) :=
  some (-1)
def pX12_seek (R : Rf) (T : Mm) (a0 : Nat) (x1 : Int32) (x2 : Int32) : Option (Int32) :=
  zl1 (pX12_seek_2 R T a0 x1 x2 (pX12_seek_23 R T a0 x1 x2) (pX12_seek_31 R T a0 x1 x2)) FU 0
set_option maxRecDepth 100000 in
set_option maxHeartbeats 4000000 in
theorem wX12_seek_2 {X : Cx} {g : Gl} {l : Launch} {R : Rf} {T : Mm} {a0 : Nat} {x1 : Int32} {x2 : Int32} (K : Ok X g l cX12_seek RX12 4 (some .int) rmX12_seek) (hR : Ty g R) (k0 : kd g a0 = 12) {r : Int32} {e23 : Int32 → Option (Int32)} (he23 : ∀ (x3 : Int32), e23 x3 = some r → Zj X g 4 (QI X g r R T) R T [none, none, none, some (.int x3)] [] 23) {e31 : Option (Int32)} (he31 : e31 = some r → Zj X g 4 (QI X g r R T) R T [none, none, none, none] [] 31) : ∀ (n : Nat) (x3 : Int32), zl1 (pX12_seek_2 R T a0 x1 x2 e23 e31) n x3 = some r → Zj X g 4 (QI X g r R T) R T [some (.ref (g.2.2.1 a0)), some (.int x1), some (.int x2), some (.int x3)] [] 2 := by
  intro n
  induction n with
  | zero =>
    intro x3 h
    exact absurd h (by simp [zl1])
  | succ n hr2 =>
    intro x3 h
    rw [zl1_s] at h
    unfold pX12_seek_2 at h
    refine z_iload_n K dX12_seek_2 rfl ?_
    refine z_iload_n K dX12_seek_3 rfl ?_
    refine z_icmp_ge K 31 dX12_seek_4 (by decide) (fun c => ?_) (fun c => ?_)
    · have h := ite_t h c
      refine Zj.mask [false, false, false, false] ?_
      exact he31 h
    · have h := ite_f h c
      refine z_aload_n K dX12_seek_7 rfl ?_
      refine z_getR K clX12 k0 9 rfl rfl q1347 dX12_seek_8 ?_
      refine z_iload_n K dX12_seek_11 rfl ?_
      refine z_iload_n K dX12_seek_12 rfl ?_
      refine z_iadd K dX12_seek_13 ?_
      obtain ⟨hi, h⟩ := ix_e h
      refine z_lald K (hR.at (k := 9) (t := 30030) k0 rfl rfl) rfl rfl rfl hi dX12_seek_14 ?_
      refine z_aload_n K dX12_seek_15 rfl ?_
      refine z_getJ K clX12 k0 17 rfl rfl q1355 dX12_seek_16 ?_
      refine z_lcmp K dX12_seek_19 ?_
      refine z_if_ne K 25 dX12_seek_20 (by decide) (fun c => ?_) (fun c => ?_)
      · have h := ite_f h c
        refine z_iinc K 1 dX12_seek_25 rfl rfl rfl rfl ?_
        refine z_goto K 2 dX12_seek_28 (by decide) ?_
        refine Zj.mask [true, true, true, true] ?_
        exact hr2 _ h
      · have h := ite_t h c
        refine Zj.mask [false, false, false, true] ?_
        exact he23 _ h
set_option maxRecDepth 100000 in
set_option maxHeartbeats 4000000 in
theorem wX12_seek_23 {X : Cx} {g : Gl} {l : Launch} {R : Rf} {T : Mm} {a0 : Nat} {x1 : Int32} {x2 : Int32} (K : Ok X g l cX12_seek RX12 4 (some .int) rmX12_seek) (hR : Ty g R) (k0 : kd g a0 = 12) {r : Int32} (x3 : Int32) (h : pX12_seek_23 R T a0 x1 x2 x3 = some r) : Zj X g 4 (QI X g r R T) R T [none, none, none, some (.int x3)] [] 23 := by
  unfold pX12_seek_23 at h
  refine z_iload_n K dX12_seek_23 rfl ?_
  obtain rfl := Option.some.inj h
  exact z_iret K dX12_seek_24
set_option maxRecDepth 100000 in
set_option maxHeartbeats 4000000 in
theorem wX12_seek_31 {X : Cx} {g : Gl} {l : Launch} {R : Rf} {T : Mm} {a0 : Nat} {x1 : Int32} {x2 : Int32} (K : Ok X g l cX12_seek RX12 4 (some .int) rmX12_seek) (hR : Ty g R) (k0 : kd g a0 = 12) {r : Int32} (h : pX12_seek_31 R T a0 x1 x2 = some r) : Zj X g 4 (QI X g r R T) R T [none, none, none, none] [] 31 := by
  unfold pX12_seek_31 at h
  refine z_iconst K (-1) dX12_seek_31 rfl ?_
  obtain rfl := Option.some.inj h
  exact z_iret K dX12_seek_32
set_option maxRecDepth 100000 in
set_option maxHeartbeats 4000000 in
theorem mX12_seek {g : Gl} {R : Rf} {T : Mm} {a0 : Nat} {x1 : Int32} {x2 : Int32} (l : Launch) (hR : Ty g R) (k0 : kd g a0 = 12) {r : Int32} (h : pX12_seek R T a0 x1 x2 = some r) : MI l g yX12_seek cX12_seek 4 (some .int) rmX12_seek [.ref (g.2.2.1 a0), .int x1, .int x2] R T r R T := by
  refine z_metI (own := RX12) (lv := [some (.ref (g.2.2.1 a0)), some (.int x1), some (.int x2), none]) (by decide +kernel) rfl rfl rfl (fun X K => ?_)
  unfold pX12_seek at h
  refine z_iconst K 0 dX12_seek_0 rfl ?_
  refine z_istore_n K dX12_seek_1 rfl rfl ?_
  refine Zj.mask [true, true, true, true] ?_
  exact wX12_seek_2 K hR k0 (wX12_seek_23 K hR k0) (wX12_seek_31 K hR k0) FU _ h
/-! GoingOverModel.fresh (I)Z -/
abbrev rmX12_fresh : Room := { frames := 2, cells := 0, slots := 0, locals := 43 }
def pX12_fresh_43 (R : Rf) (a0 : Nat) (x1 : Int32) (T : Mm) : Option (Int32 × Mm) :=
  bd2 (pX12_bad R T a0 3) (fun (u3 : Int32) (T3 : Mm) => bz u3 (some (u3, T3)))
def pX12_fresh (R : Rf) (T : Mm) (a0 : Nat) (x1 : Int32) : Option (Int32 × Mm) :=
  bd1 (pX12_isName R T a0) (fun (u1 : Int32) => if u1 = 0 then bd2 (pX12_bad R T a0 1) (fun (u7 : Int32) (T7 : Mm) => bz u7 (some (u7, T7))) else ix 0 80 (bd1 (pX12_seek R T a0 15 (T.1 (R a0 7) (0 : Int32).toNatClampNeg)) (fun (u2 : Int32) => if 0 ≤ u2 then pX12_fresh_43 R a0 x1 T else ix 1 80 (bd1 (pX12_seek R T a0 20 (T.1 (R a0 7) (1 : Int32).toNatClampNeg)) (fun (u4 : Int32) => if u4 < 0 then ix x1 30 (lt (wJ T (R a0 9) x1.toNatClampNeg (T.2 a0 17)) (fun (T5 : Mm) => bd1 (pX12_next R T5 a0) (fun (T6 : Mm) => some (1, T6)))) else pX12_fresh_43 R a0 x1 T)))))
set_option maxRecDepth 100000 in
set_option maxHeartbeats 4000000 in
theorem wX12_fresh_43 {X : Cx} {g : Gl} {l : Launch} {R : Rf} {a0 : Nat} {x1 : Int32} (K : Ok X g l cX12_fresh RX12 2 (some .boolean) rmX12_fresh) (hR : Ty g R) (k0 : kd g a0 = 12) {r : Int32 × Mm} (T : Mm) (h : pX12_fresh_43 R a0 x1 T = some r) : Zj X g 2 (QI X g r.1 R r.2) R T [some (.ref (g.2.2.1 a0)), none] [] 43 := by
  unfold pX12_fresh_43 at h
  refine z_aload_n K dX12_fresh_43 rfl ?_
  refine z_iconst K 3 dX12_fresh_44 rfl ?_
  obtain ⟨u3, T3, hc, h⟩ := bd2_e h
  refine z_callVI K (mX12_bad l hR k0 hc) clX12 k0 ceX12_bad q1527 ⟨rfl, rfl, rfl, rfl⟩ rfl rfl rfl dX12_fresh_45 ?_
  obtain ⟨hz, hf, h⟩ := bz_e h
  obtain rfl := Option.some.inj h
  exact z_zret K hz dX12_fresh_48
set_option maxRecDepth 100000 in
set_option maxHeartbeats 4000000 in
theorem mX12_fresh {g : Gl} {R : Rf} {T : Mm} {a0 : Nat} {x1 : Int32} (l : Launch) (hR : Ty g R) (k0 : kd g a0 = 12) {r : Int32 × Mm} (h : pX12_fresh R T a0 x1 = some r) : MI l g yX12_fresh cX12_fresh 2 (some .boolean) rmX12_fresh [.ref (g.2.2.1 a0), .int x1] R T r.1 R r.2 := by
  refine z_metI (own := RX12) (lv := [some (.ref (g.2.2.1 a0)), some (.int x1)]) (by decide +kernel) rfl rfl rfl (fun X K => ?_)
  unfold pX12_fresh at h
  refine z_aload_n K dX12_fresh_0 rfl ?_
  obtain ⟨u1, hc, h⟩ := bd1_e h
  refine z_callVI K (mX12_isName l hR k0 hc) clX12 k0 ceX12_isName q1550 ⟨rfl, rfl, rfl, rfl⟩ rfl rfl rfl dX12_fresh_1 ?_
  refine z_if_ne K 13 dX12_fresh_4 (by decide) (fun c => ?_) (fun c => ?_)
  · have h := ite_f h c
    refine z_aload_n K dX12_fresh_13 rfl ?_
    refine z_bipush K 15 dX12_fresh_14 rfl ?_
    refine z_aload_n K dX12_fresh_16 rfl ?_
    refine z_getR K clX12 k0 7 rfl rfl q1345 dX12_fresh_17 ?_
    refine z_iconst K 0 dX12_fresh_20 rfl ?_
    obtain ⟨hi, h⟩ := ix_e h
    refine z_iald K (hR.at (k := 7) (t := 20080) k0 rfl rfl) rfl rfl rfl hi dX12_fresh_21 ?_
    obtain ⟨u2, hc, h⟩ := bd1_e h
    refine z_callVI K (mX12_seek l hR k0 hc) clX12 k0 ceX12_seek q1554 ⟨rfl, rfl, rfl, rfl⟩ rfl rfl rfl dX12_fresh_22 ?_
    refine z_if_ge K 43 dX12_fresh_25 (by decide) (fun c => ?_) (fun c => ?_)
    · have h := ite_t h c
      refine Zj.mask [true, false] ?_
      exact wX12_fresh_43 K hR k0 _ h
    · have h := ite_f h c
      refine z_aload_n K dX12_fresh_28 rfl ?_
      refine z_bipush K 20 dX12_fresh_29 rfl ?_
      refine z_aload_n K dX12_fresh_31 rfl ?_
      refine z_getR K clX12 k0 7 rfl rfl q1345 dX12_fresh_32 ?_
      refine z_iconst K 1 dX12_fresh_35 rfl ?_
      obtain ⟨hi, h⟩ := ix_e h
      refine z_iald K (hR.at (k := 7) (t := 20080) k0 rfl rfl) rfl rfl rfl hi dX12_fresh_36 ?_
      obtain ⟨u4, hc, h⟩ := bd1_e h
      refine z_callVI K (mX12_seek l hR k0 hc) clX12 k0 ceX12_seek q1554 ⟨rfl, rfl, rfl, rfl⟩ rfl rfl rfl dX12_fresh_37 ?_
      refine z_if_lt K 49 dX12_fresh_40 (by decide) (fun c => ?_) (fun c => ?_)
      · have h := ite_t h c
        refine z_aload_n K dX12_fresh_49 rfl ?_
        refine z_getR K clX12 k0 9 rfl rfl q1347 dX12_fresh_50 ?_
        refine z_iload_n K dX12_fresh_53 rfl ?_
        refine z_aload_n K dX12_fresh_54 rfl ?_
        refine z_getJ K clX12 k0 17 rfl rfl q1355 dX12_fresh_55 ?_
        obtain ⟨hi, h⟩ := ix_e h
        refine z_last K (hR.at (k := 9) (t := 30030) k0 rfl rfl) rfl rfl rfl hi dX12_fresh_58 ?_
        refine z_aload_n K dX12_fresh_59 rfl ?_
        obtain ⟨T6, hc, h⟩ := bd1_e h
        refine z_callVV K (mX12_next l hR k0 hc) clX12 k0 ceX12_next q1498 ⟨rfl, rfl, rfl, rfl⟩ rfl rfl rfl dX12_fresh_60 ?_
        refine z_iconst K 1 dX12_fresh_63 rfl ?_
        obtain rfl := Option.some.inj h
        exact z_zret (v := 1) K rfl dX12_fresh_64
      · have h := ite_f h c
        refine Zj.mask [true, false] ?_
        exact wX12_fresh_43 K hR k0 _ h
  · have h := ite_t h c
    refine z_aload_n K dX12_fresh_7 rfl ?_
    refine z_iconst K 1 dX12_fresh_8 rfl ?_
    obtain ⟨u7, T7, hc, h⟩ := bd2_e h
    refine z_callVI K (mX12_bad l hR k0 hc) clX12 k0 ceX12_bad q1527 ⟨rfl, rfl, rfl, rfl⟩ rfl rfl rfl dX12_fresh_9 ?_
    obtain ⟨hz, hf, h⟩ := bz_e h
    obtain rfl := Option.some.inj h
    exact z_zret K hz dX12_fresh_12
/-! GoingOverModel.looksAt (II)Z -/
abbrev rmX12_looksAt : Room := { frames := 1, cells := 0, slots := 0, locals := 23 }
def pX12_looksAt (R : Rf) (T : Mm) (a0 : Nat) (x1 : Int32) (x2 : Int32) : Option (Int32 × Mm) :=
  bd1 (pX12_isName R T a0) (fun (u1 : Int32) => if u1 = 0 then bd2 (pX12_bad R T a0 1) (fun (u5 : Int32) (T5 : Mm) => bz u5 (some (u5, T5))) else bd1 (pX12_seek R T a0 x1 x2) (fun (u2 : Int32) => lt (wI T a0 18 u2) (fun (T3 : Mm) => if 0 ≤ (T3.1 a0 18) then some (1, T3) else bd2 (pX12_bad R T3 a0 3) (fun (u4 : Int32) (T4 : Mm) => if u4 = 0 then some (0, T4) else some (1, T4)))))
set_option maxRecDepth 100000 in
set_option maxHeartbeats 4000000 in
theorem mX12_looksAt {g : Gl} {R : Rf} {T : Mm} {a0 : Nat} {x1 : Int32} {x2 : Int32} (l : Launch) (hR : Ty g R) (k0 : kd g a0 = 12) {r : Int32 × Mm} (h : pX12_looksAt R T a0 x1 x2 = some r) : MI l g yX12_looksAt cX12_looksAt 3 (some .boolean) rmX12_looksAt [.ref (g.2.2.1 a0), .int x1, .int x2] R T r.1 R r.2 := by
  refine z_metI (own := RX12) (lv := [some (.ref (g.2.2.1 a0)), some (.int x1), some (.int x2)]) (by decide +kernel) rfl rfl rfl (fun X K => ?_)
  unfold pX12_looksAt at h
  refine z_aload_n K dX12_looksAt_0 rfl ?_
  obtain ⟨u1, hc, h⟩ := bd1_e h
  refine z_callVI K (mX12_isName l hR k0 hc) clX12 k0 ceX12_isName q1550 ⟨rfl, rfl, rfl, rfl⟩ rfl rfl rfl dX12_looksAt_1 ?_
  refine z_if_ne K 13 dX12_looksAt_4 (by decide) (fun c => ?_) (fun c => ?_)
  · have h := ite_f h c
    refine z_aload_n K dX12_looksAt_13 rfl ?_
    refine z_aload_n K dX12_looksAt_14 rfl ?_
    refine z_iload_n K dX12_looksAt_15 rfl ?_
    refine z_iload_n K dX12_looksAt_16 rfl ?_
    obtain ⟨u2, hc, h⟩ := bd1_e h
    refine z_callVI K (mX12_seek l hR k0 hc) clX12 k0 ceX12_seek q1554 ⟨rfl, rfl, rfl, rfl⟩ rfl rfl rfl dX12_looksAt_17 ?_
    refine z_putI K clX12 tyX12_ok nmX12 k0 18 rfl rfl q1356 rfl rfl rfl dX12_looksAt_20 ?_
    refine z_aload_n K dX12_looksAt_23 rfl ?_
    refine z_getI K clX12 k0 18 rfl rfl q1356 dX12_looksAt_24 ?_
    refine z_if_ge K 38 dX12_looksAt_27 (by decide) (fun c => ?_) (fun c => ?_)
    · have h := ite_t h c
      refine z_iconst K 1 dX12_looksAt_38 rfl ?_
      refine z_goto K 43 dX12_looksAt_39 (by decide) ?_
      obtain rfl := Option.some.inj h
      exact z_zret (v := 1) K rfl dX12_looksAt_43
    · have h := ite_f h c
      refine z_aload_n K dX12_looksAt_30 rfl ?_
      refine z_iconst K 3 dX12_looksAt_31 rfl ?_
      obtain ⟨u4, T4, hc, h⟩ := bd2_e h
      refine z_callVI K (mX12_bad l hR k0 hc) clX12 k0 ceX12_bad q1527 ⟨rfl, rfl, rfl, rfl⟩ rfl rfl rfl dX12_looksAt_32 ?_
      refine z_if_eq K 42 dX12_looksAt_35 (by decide) (fun c => ?_) (fun c => ?_)
      · have h := ite_t h c
        refine z_iconst K 0 dX12_looksAt_42 rfl ?_
        obtain rfl := Option.some.inj h
        exact z_zret (v := 0) K rfl dX12_looksAt_43
      · have h := ite_f h c
        refine z_iconst K 1 dX12_looksAt_38 rfl ?_
        refine z_goto K 43 dX12_looksAt_39 (by decide) ?_
        obtain rfl := Option.some.inj h
        exact z_zret (v := 1) K rfl dX12_looksAt_43
  · have h := ite_t h c
    refine z_aload_n K dX12_looksAt_7 rfl ?_
    refine z_iconst K 1 dX12_looksAt_8 rfl ?_
    obtain ⟨u5, T5, hc, h⟩ := bd2_e h
    refine z_callVI K (mX12_bad l hR k0 hc) clX12 k0 ceX12_bad q1527 ⟨rfl, rfl, rfl, rfl⟩ rfl rfl rfl dX12_looksAt_9 ?_
    obtain ⟨hz, hf, h⟩ := bz_e h
    obtain rfl := Option.some.inj h
    exact z_zret K hz dX12_looksAt_12
/-! GoingOverModel.takesName (II)Z -/
abbrev rmX12_takesName : Room := { frames := 2, cells := 0, slots := 0, locals := 45 }
def pX12_takesName (R : Rf) (T : Mm) (a0 : Nat) (x1 : Int32) (x2 : Int32) : Option (Int32 × Mm) :=
  bd2 (pX12_looksAt R T a0 x1 x2) (fun (u1 : Int32) (T1 : Mm) => if u1 = 0 then some (0, T1) else bd1 (pX12_next R T1 a0) (fun (T2 : Mm) => some (1, T2)))
set_option maxRecDepth 100000 in
set_option maxHeartbeats 4000000 in
theorem mX12_takesName {g : Gl} {R : Rf} {T : Mm} {a0 : Nat} {x1 : Int32} {x2 : Int32} (l : Launch) (hR : Ty g R) (k0 : kd g a0 = 12) {r : Int32 × Mm} (h : pX12_takesName R T a0 x1 x2 = some r) : MI l g yX12_takesName cX12_takesName 3 (some .boolean) rmX12_takesName [.ref (g.2.2.1 a0), .int x1, .int x2] R T r.1 R r.2 := by
  refine z_metI (own := RX12) (lv := [some (.ref (g.2.2.1 a0)), some (.int x1), some (.int x2)]) (by decide +kernel) rfl rfl rfl (fun X K => ?_)
  unfold pX12_takesName at h
  refine z_aload_n K dX12_takesName_0 rfl ?_
  refine z_iload_n K dX12_takesName_1 rfl ?_
  refine z_iload_n K dX12_takesName_2 rfl ?_
  obtain ⟨u1, T1, hc, h⟩ := bd2_e h
  refine z_callVI K (mX12_looksAt l hR k0 hc) clX12 k0 ceX12_looksAt q1566 ⟨rfl, rfl, rfl, rfl⟩ rfl rfl rfl dX12_takesName_3 ?_
  refine z_if_ne K 11 dX12_takesName_6 (by decide) (fun c => ?_) (fun c => ?_)
  · have h := ite_f h c
    refine z_aload_n K dX12_takesName_11 rfl ?_
    obtain ⟨T2, hc, h⟩ := bd1_e h
    refine z_callVV K (mX12_next l hR k0 hc) clX12 k0 ceX12_next q1498 ⟨rfl, rfl, rfl, rfl⟩ rfl rfl rfl dX12_takesName_12 ?_
    refine z_iconst K 1 dX12_takesName_15 rfl ?_
    obtain rfl := Option.some.inj h
    exact z_zret (v := 1) K rfl dX12_takesName_16
  · have h := ite_t h c
    refine z_iconst K 0 dX12_takesName_9 rfl ?_
    obtain rfl := Option.some.inj h
    exact z_zret (v := 0) K rfl dX12_takesName_10
/-! GoingOverModel.once (I)Z -/
abbrev rmX12_once : Room := { frames := 2, cells := 0, slots := 0, locals := 43 }
def pX12_once (R : Rf) (T : Mm) (a0 : Nat) (x1 : Int32) : Option (Int32 × Mm) :=
  bd1 (pX12_bitOf R T (T.1 a0 20) x1) (fun (u1 : Int32) => if u1 = 0 then lt (wI T a0 20 ((T.1 a0 20) ||| (1 <<< (x1 &&& 31)))) (fun (T2 : Mm) => bd1 (pX12_next R T2 a0) (fun (T3 : Mm) => some (1, T3))) else bd2 (pX12_bad R T a0 3) (fun (u4 : Int32) (T4 : Mm) => bz u4 (some (u4, T4))))
set_option maxRecDepth 100000 in
set_option maxHeartbeats 4000000 in
theorem mX12_once {g : Gl} {R : Rf} {T : Mm} {a0 : Nat} {x1 : Int32} (l : Launch) (hR : Ty g R) (k0 : kd g a0 = 12) {r : Int32 × Mm} (h : pX12_once R T a0 x1 = some r) : MI l g yX12_once cX12_once 2 (some .boolean) rmX12_once [.ref (g.2.2.1 a0), .int x1] R T r.1 R r.2 := by
  refine z_metI (own := RX12) (lv := [some (.ref (g.2.2.1 a0)), some (.int x1)]) (by decide +kernel) rfl rfl rfl (fun X K => ?_)
  unfold pX12_once at h
  refine z_aload_n K dX12_once_0 rfl ?_
  refine z_getI K clX12 k0 20 rfl rfl q1358 dX12_once_1 ?_
  refine z_iload_n K dX12_once_4 rfl ?_
  obtain ⟨u1, hc, h⟩ := bd1_e h
  refine z_callSI K (mX12_bitOf l hR hc) ceX12_bitOf q1524 ⟨rfl, rfl, rfl, rfl⟩ rfl rfl rfl dX12_once_5 ?_
  refine z_if_eq K 17 dX12_once_8 (by decide) (fun c => ?_) (fun c => ?_)
  · have h := ite_t h c
    refine z_aload_n K dX12_once_17 rfl ?_
    refine z_dup K dX12_once_18 rfl ?_
    refine z_getI K clX12 k0 20 rfl rfl q1358 dX12_once_19 ?_
    refine z_iconst K 1 dX12_once_22 rfl ?_
    refine z_iload_n K dX12_once_23 rfl ?_
    refine z_ishl K dX12_once_24 ?_
    refine z_ior K dX12_once_25 ?_
    refine z_putI K clX12 tyX12_ok nmX12 k0 20 rfl rfl q1358 rfl rfl rfl dX12_once_26 ?_
    refine z_aload_n K dX12_once_29 rfl ?_
    obtain ⟨T3, hc, h⟩ := bd1_e h
    refine z_callVV K (mX12_next l hR k0 hc) clX12 k0 ceX12_next q1498 ⟨rfl, rfl, rfl, rfl⟩ rfl rfl rfl dX12_once_30 ?_
    refine z_iconst K 1 dX12_once_33 rfl ?_
    obtain rfl := Option.some.inj h
    exact z_zret (v := 1) K rfl dX12_once_34
  · have h := ite_f h c
    refine z_aload_n K dX12_once_11 rfl ?_
    refine z_iconst K 3 dX12_once_12 rfl ?_
    obtain ⟨u4, T4, hc, h⟩ := bd2_e h
    refine z_callVI K (mX12_bad l hR k0 hc) clX12 k0 ceX12_bad q1527 ⟨rfl, rfl, rfl, rfl⟩ rfl rfl rfl dX12_once_13 ?_
    obtain ⟨hz, hf, h⟩ := bz_e h
    obtain rfl := Option.some.inj h
    exact z_zret K hz dX12_once_16
/-! GoingOverModel.readPerson ()Z -/
abbrev rmX12_readPerson : Room := { frames := 4, cells := 0, slots := 0, locals := 88 }
def pX12_readPerson (R : Rf) (T : Mm) (a0 : Nat) : Option (Int32 × Mm) :=
  ix 0 80 (lt (T.1 (R a0 7) (0 : Int32).toNatClampNeg) (fun (v1 : Int32) => if v1 = 5 then bd2 (pX12_bad R T a0 4) (fun (u6 : Int32) (T6 : Mm) => bz u6 (some (u6, T6))) else bd1 (pX12_next R T a0) (fun (T2 : Mm) => bd2 (pX12_fresh R T2 a0 (15 + v1)) (fun (u3 : Int32) (T3 : Mm) => if u3 = 0 then some (0, T3) else bd2 (pX12_puts R T3 a0 (7 + v1) 0 9) (fun (u4 : Int32) (T4 : Mm) => if u4 = 0 then some (0, T4) else ix 0 80 (ix 0 80 (lt (wI T4 (R a0 7) (0 : Int32).toNatClampNeg ((T4.1 (R a0 7) (0 : Int32).toNatClampNeg) + 1)) (fun (T5 : Mm) => some (1, T5)))))))))
set_option maxRecDepth 100000 in
set_option maxHeartbeats 4000000 in
theorem mX12_readPerson {g : Gl} {R : Rf} {T : Mm} {a0 : Nat} (l : Launch) (hR : Ty g R) (k0 : kd g a0 = 12) {r : Int32 × Mm} (h : pX12_readPerson R T a0 = some r) : MI l g yX12_readPerson cX12_readPerson 2 (some .boolean) rmX12_readPerson [.ref (g.2.2.1 a0)] R T r.1 R r.2 := by
  refine z_metI (own := RX12) (lv := [some (.ref (g.2.2.1 a0)), none]) (by decide +kernel) rfl rfl rfl (fun X K => ?_)
  unfold pX12_readPerson at h
  refine z_aload_n K dX12_readPerson_0 rfl ?_
  refine z_getR K clX12 k0 7 rfl rfl q1345 dX12_readPerson_1 ?_
  refine z_iconst K 0 dX12_readPerson_4 rfl ?_
  obtain ⟨hi, h⟩ := ix_e h
  refine z_iald K (hR.at (k := 7) (t := 20080) k0 rfl rfl) rfl rfl rfl hi dX12_readPerson_5 ?_
  refine z_istore_n K dX12_readPerson_6 rfl rfl ?_
  refine z_iload_n K dX12_readPerson_7 rfl ?_
  refine z_iconst K 5 dX12_readPerson_8 rfl ?_
  refine z_icmp_ne K 18 dX12_readPerson_9 (by decide) (fun c => ?_) (fun c => ?_)
  · have h := ite_f h c
    refine z_aload_n K dX12_readPerson_18 rfl ?_
    obtain ⟨T2, hc, h⟩ := bd1_e h
    refine z_callVV K (mX12_next l hR k0 hc) clX12 k0 ceX12_next q1498 ⟨rfl, rfl, rfl, rfl⟩ rfl rfl rfl dX12_readPerson_19 ?_
    refine z_aload_n K dX12_readPerson_22 rfl ?_
    refine z_bipush K 15 dX12_readPerson_23 rfl ?_
    refine z_iload_n K dX12_readPerson_25 rfl ?_
    refine z_iadd K dX12_readPerson_26 ?_
    obtain ⟨u3, T3, hc, h⟩ := bd2_e h
    refine z_callVI K (mX12_fresh l hR k0 hc) clX12 k0 ceX12_fresh q1546 ⟨rfl, rfl, rfl, rfl⟩ rfl rfl rfl dX12_readPerson_27 ?_
    refine z_if_eq K 47 dX12_readPerson_30 (by decide) (fun c => ?_) (fun c => ?_)
    · have h := ite_t h c
      refine z_iconst K 0 dX12_readPerson_47 rfl ?_
      obtain rfl := Option.some.inj h
      exact z_zret (v := 0) K rfl dX12_readPerson_48
    · have h := ite_f h c
      refine z_aload_n K dX12_readPerson_33 rfl ?_
      refine z_bipush K 7 dX12_readPerson_34 rfl ?_
      refine z_iload_n K dX12_readPerson_36 rfl ?_
      refine z_iadd K dX12_readPerson_37 ?_
      refine z_iconst K 0 dX12_readPerson_38 rfl ?_
      refine z_bipush K 9 dX12_readPerson_39 rfl ?_
      obtain ⟨u4, T4, hc, h⟩ := bd2_e h
      refine z_callVI K (mX12_puts l hR k0 hc) clX12 k0 ceX12_puts q1531 ⟨rfl, rfl, rfl, rfl⟩ rfl rfl rfl dX12_readPerson_41 ?_
      refine z_if_ne K 49 dX12_readPerson_44 (by decide) (fun c => ?_) (fun c => ?_)
      · have h := ite_f h c
        refine z_aload_n K dX12_readPerson_49 rfl ?_
        refine z_getR K clX12 k0 7 rfl rfl q1345 dX12_readPerson_50 ?_
        refine z_iconst K 0 dX12_readPerson_53 rfl ?_
        refine z_dup2 K dX12_readPerson_54 rfl rfl ?_
        obtain ⟨hi, h⟩ := ix_e h
        refine z_iald K (hR.at (k := 7) (t := 20080) k0 rfl rfl) rfl rfl rfl hi dX12_readPerson_55 ?_
        refine z_iconst K 1 dX12_readPerson_56 rfl ?_
        refine z_iadd K dX12_readPerson_57 ?_
        obtain ⟨hi, h⟩ := ix_e h
        refine z_iast K (hR.at (k := 7) (t := 20080) k0 rfl rfl) rfl rfl rfl hi dX12_readPerson_58 ?_
        refine z_iconst K 1 dX12_readPerson_59 rfl ?_
        obtain rfl := Option.some.inj h
        exact z_zret (v := 1) K rfl dX12_readPerson_60
      · have h := ite_t h c
        refine z_iconst K 0 dX12_readPerson_47 rfl ?_
        obtain rfl := Option.some.inj h
        exact z_zret (v := 0) K rfl dX12_readPerson_48
  · have h := ite_t h c
    refine z_aload_n K dX12_readPerson_12 rfl ?_
    refine z_iconst K 4 dX12_readPerson_13 rfl ?_
    obtain ⟨u6, T6, hc, h⟩ := bd2_e h
    refine z_callVI K (mX12_bad l hR k0 hc) clX12 k0 ceX12_bad q1527 ⟨rfl, rfl, rfl, rfl⟩ rfl rfl rfl dX12_readPerson_14 ?_
    obtain ⟨hz, hf, h⟩ := bz_e h
    obtain rfl := Option.some.inj h
    exact z_zret K hz dX12_readPerson_17
/-! GoingOverModel.readItem ()Z -/
abbrev rmX12_readItem : Room := { frames := 4, cells := 0, slots := 0, locals := 88 }
def pX12_readItem (R : Rf) (T : Mm) (a0 : Nat) : Option (Int32 × Mm) :=
  ix 1 80 (lt (T.1 (R a0 7) (1 : Int32).toNatClampNeg) (fun (v1 : Int32) => if v1 = 10 then bd2 (pX12_bad R T a0 4) (fun (u8 : Int32) (T8 : Mm) => bz u8 (some (u8, T8))) else bd1 (pX12_next R T a0) (fun (T2 : Mm) => bd2 (pX12_fresh R T2 a0 (20 + v1)) (fun (u3 : Int32) (T3 : Mm) => if u3 = 0 then some (0, T3) else ix 0 80 (bd2 (pX12_takesName R T3 a0 15 (T3.1 (R a0 7) (0 : Int32).toNatClampNeg)) (fun (u4 : Int32) (T4 : Mm) => if u4 = 0 then some (0, T4) else ix (12 + v1) 80 (lt (wI T4 (R a0 7) (12 + v1).toNatClampNeg (T4.1 a0 18)) (fun (T5 : Mm) => bd2 (pX12_puts R T5 a0 (22 + v1) 1 20) (fun (u6 : Int32) (T6 : Mm) => if u6 = 0 then some (0, T6) else ix 1 80 (ix 1 80 (lt (wI T6 (R a0 7) (1 : Int32).toNatClampNeg ((T6.1 (R a0 7) (1 : Int32).toNatClampNeg) + 1)) (fun (T7 : Mm) => some (1, T7)))))))))))))
set_option maxRecDepth 100000 in
set_option maxHeartbeats 4000000 in
theorem mX12_readItem {g : Gl} {R : Rf} {T : Mm} {a0 : Nat} (l : Launch) (hR : Ty g R) (k0 : kd g a0 = 12) {r : Int32 × Mm} (h : pX12_readItem R T a0 = some r) : MI l g yX12_readItem cX12_readItem 2 (some .boolean) rmX12_readItem [.ref (g.2.2.1 a0)] R T r.1 R r.2 := by
  refine z_metI (own := RX12) (lv := [some (.ref (g.2.2.1 a0)), none]) (by decide +kernel) rfl rfl rfl (fun X K => ?_)
  unfold pX12_readItem at h
  refine z_aload_n K dX12_readItem_0 rfl ?_
  refine z_getR K clX12 k0 7 rfl rfl q1345 dX12_readItem_1 ?_
  refine z_iconst K 1 dX12_readItem_4 rfl ?_
  obtain ⟨hi, h⟩ := ix_e h
  refine z_iald K (hR.at (k := 7) (t := 20080) k0 rfl rfl) rfl rfl rfl hi dX12_readItem_5 ?_
  refine z_istore_n K dX12_readItem_6 rfl rfl ?_
  refine z_iload_n K dX12_readItem_7 rfl ?_
  refine z_bipush K 10 dX12_readItem_8 rfl ?_
  refine z_icmp_ne K 19 dX12_readItem_10 (by decide) (fun c => ?_) (fun c => ?_)
  · have h := ite_f h c
    refine z_aload_n K dX12_readItem_19 rfl ?_
    obtain ⟨T2, hc, h⟩ := bd1_e h
    refine z_callVV K (mX12_next l hR k0 hc) clX12 k0 ceX12_next q1498 ⟨rfl, rfl, rfl, rfl⟩ rfl rfl rfl dX12_readItem_20 ?_
    refine z_aload_n K dX12_readItem_23 rfl ?_
    refine z_bipush K 20 dX12_readItem_24 rfl ?_
    refine z_iload_n K dX12_readItem_26 rfl ?_
    refine z_iadd K dX12_readItem_27 ?_
    obtain ⟨u3, T3, hc, h⟩ := bd2_e h
    refine z_callVI K (mX12_fresh l hR k0 hc) clX12 k0 ceX12_fresh q1546 ⟨rfl, rfl, rfl, rfl⟩ rfl rfl rfl dX12_readItem_28 ?_
    refine z_if_eq K 49 dX12_readItem_31 (by decide) (fun c => ?_) (fun c => ?_)
    · have h := ite_t h c
      refine z_iconst K 0 dX12_readItem_49 rfl ?_
      obtain rfl := Option.some.inj h
      exact z_zret (v := 0) K rfl dX12_readItem_50
    · have h := ite_f h c
      refine z_aload_n K dX12_readItem_34 rfl ?_
      refine z_bipush K 15 dX12_readItem_35 rfl ?_
      refine z_aload_n K dX12_readItem_37 rfl ?_
      refine z_getR K clX12 k0 7 rfl rfl q1345 dX12_readItem_38 ?_
      refine z_iconst K 0 dX12_readItem_41 rfl ?_
      obtain ⟨hi, h⟩ := ix_e h
      refine z_iald K (hR.at (k := 7) (t := 20080) k0 rfl rfl) rfl rfl rfl hi dX12_readItem_42 ?_
      obtain ⟨u4, T4, hc, h⟩ := bd2_e h
      refine z_callVI K (mX12_takesName l hR k0 hc) clX12 k0 ceX12_takesName q1562 ⟨rfl, rfl, rfl, rfl⟩ rfl rfl rfl dX12_readItem_43 ?_
      refine z_if_ne K 51 dX12_readItem_46 (by decide) (fun c => ?_) (fun c => ?_)
      · have h := ite_f h c
        refine z_aload_n K dX12_readItem_51 rfl ?_
        refine z_getR K clX12 k0 7 rfl rfl q1345 dX12_readItem_52 ?_
        refine z_bipush K 12 dX12_readItem_55 rfl ?_
        refine z_iload_n K dX12_readItem_57 rfl ?_
        refine z_iadd K dX12_readItem_58 ?_
        refine z_aload_n K dX12_readItem_59 rfl ?_
        refine z_getI K clX12 k0 18 rfl rfl q1356 dX12_readItem_60 ?_
        obtain ⟨hi, h⟩ := ix_e h
        refine z_iast K (hR.at (k := 7) (t := 20080) k0 rfl rfl) rfl rfl rfl hi dX12_readItem_63 ?_
        refine z_aload_n K dX12_readItem_64 rfl ?_
        refine z_bipush K 22 dX12_readItem_65 rfl ?_
        refine z_iload_n K dX12_readItem_67 rfl ?_
        refine z_iadd K dX12_readItem_68 ?_
        refine z_iconst K 1 dX12_readItem_69 rfl ?_
        refine z_bipush K 20 dX12_readItem_70 rfl ?_
        obtain ⟨u6, T6, hc, h⟩ := bd2_e h
        refine z_callVI K (mX12_puts l hR k0 hc) clX12 k0 ceX12_puts q1531 ⟨rfl, rfl, rfl, rfl⟩ rfl rfl rfl dX12_readItem_72 ?_
        refine z_if_ne K 80 dX12_readItem_75 (by decide) (fun c => ?_) (fun c => ?_)
        · have h := ite_f h c
          refine z_aload_n K dX12_readItem_80 rfl ?_
          refine z_getR K clX12 k0 7 rfl rfl q1345 dX12_readItem_81 ?_
          refine z_iconst K 1 dX12_readItem_84 rfl ?_
          refine z_dup2 K dX12_readItem_85 rfl rfl ?_
          obtain ⟨hi, h⟩ := ix_e h
          refine z_iald K (hR.at (k := 7) (t := 20080) k0 rfl rfl) rfl rfl rfl hi dX12_readItem_86 ?_
          refine z_iconst K 1 dX12_readItem_87 rfl ?_
          refine z_iadd K dX12_readItem_88 ?_
          obtain ⟨hi, h⟩ := ix_e h
          refine z_iast K (hR.at (k := 7) (t := 20080) k0 rfl rfl) rfl rfl rfl hi dX12_readItem_89 ?_
          refine z_iconst K 1 dX12_readItem_90 rfl ?_
          obtain rfl := Option.some.inj h
          exact z_zret (v := 1) K rfl dX12_readItem_91
        · have h := ite_t h c
          refine z_iconst K 0 dX12_readItem_78 rfl ?_
          obtain rfl := Option.some.inj h
          exact z_zret (v := 0) K rfl dX12_readItem_79
      · have h := ite_t h c
        refine z_iconst K 0 dX12_readItem_49 rfl ?_
        obtain rfl := Option.some.inj h
        exact z_zret (v := 0) K rfl dX12_readItem_50
  · have h := ite_t h c
    refine z_aload_n K dX12_readItem_13 rfl ?_
    refine z_iconst K 4 dX12_readItem_14 rfl ?_
    obtain ⟨u8, T8, hc, h⟩ := bd2_e h
    refine z_callVI K (mX12_bad l hR k0 hc) clX12 k0 ceX12_bad q1527 ⟨rfl, rfl, rfl, rfl⟩ rfl rfl rfl dX12_readItem_15 ?_
    obtain ⟨hz, hf, h⟩ := bz_e h
    obtain rfl := Option.some.inj h
    exact z_zret K hz dX12_readItem_18
/-! GoingOverModel.readJoin ()Z -/
abbrev rmX12_readJoin : Room := { frames := 4, cells := 0, slots := 0, locals := 88 }
def pX12_readJoin_144 (R : Rf) (a0 : Nat) (r103 : Mm → Int32 → Int32 → Int32 → Int32 → Option (Int32 × Mm)) (e187 : Mm → Int32 → Int32 → Int32 → Option (Int32 × Mm)) (T : Mm) (x1 : Int32) (x2 : Int32) (x4 : Int32) : Option (Int32 × Mm) :=
  ix (32 + x4) 80 (if (T.1 (R a0 7) (32 + x4).toNatClampNeg) = (T.1 a0 18) then ix (48 + x4) 80 (if (T.1 (R a0 7) (48 + x4).toNatClampNeg) = x2 then lt (x4 + 1) (fun (v9 : Int32) => r103 T x1 x2 1 v9) else lt (x4 + 1) (fun (v8 : Int32) => r103 T x1 x2 0 v8)) else lt (x4 + 1) (fun (v7 : Int32) => r103 T x1 x2 0 v7))
def pX12_readJoin_103 (R : Rf) (a0 : Nat) (e187 : Mm → Int32 → Int32 → Int32 → Option (Int32 × Mm)) (r103 : Mm → Int32 → Int32 → Int32 → Int32 → Option (Int32 × Mm)) (T : Mm) (x1 : Int32) (x2 : Int32) (x3 : Int32) (x4 : Int32) : Option (Int32 × Mm) :=
  if x1 ≤ x4 then e187 T x1 x2 x3 else if x3 = 0 then ix (32 + x4) 80 (if (T.1 (R a0 7) (32 + x4).toNatClampNeg) = x2 then ix (48 + x4) 80 (if (T.1 (R a0 7) (48 + x4).toNatClampNeg) = (T.1 a0 18) then lt (x4 + 1) (fun (v10 : Int32) => r103 T x1 x2 1 v10) else pX12_readJoin_144 R a0 r103 e187 T x1 x2 x4) else pX12_readJoin_144 R a0 r103 e187 T x1 x2 x4) else lt (x4 + 1) (fun (v6 : Int32) => r103 T x1 x2 1 v6)
def pX12_readJoin_187 (R : Rf) (a0 : Nat) (T : Mm) (x1 : Int32) (x2 : Int32) (x3 : Int32) : Option (Int32 × Mm) :=
  if x3 = 0 then ix (32 + x1) 80 (lt (wI T (R a0 7) (32 + x1).toNatClampNeg x2) (fun (T11 : Mm) => ix (48 + x1) 80 (lt (wI T11 (R a0 7) (48 + x1).toNatClampNeg (T11.1 a0 18)) (fun (T12 : Mm) => bd1 (pX12_next R T12 a0) (fun (T13 : Mm) => bd2 (pX12_puts R T13 a0 (64 + x1) 1 30) (fun (u14 : Int32) (T14 : Mm) => if u14 = 0 then some (0, T14) else ix 2 80 (ix 2 80 (lt (wI T14 (R a0 7) (2 : Int32).toNatClampNeg ((T14.1 (R a0 7) (2 : Int32).toNatClampNeg) + 1)) (fun (T15 : Mm) => some (1, T15)))))))))) else bd2 (pX12_bad R T a0 3) (fun (u16 : Int32) (T16 : Mm) => bz u16 (some (u16, T16)))
def pX12_readJoin (R : Rf) (T : Mm) (a0 : Nat) : Option (Int32 × Mm) :=
  ix 2 80 (lt (T.1 (R a0 7) (2 : Int32).toNatClampNeg) (fun (v1 : Int32) => if v1 = 16 then bd2 (pX12_bad R T a0 4) (fun (u17 : Int32) (T17 : Mm) => bz u17 (some (u17, T17))) else bd1 (pX12_next R T a0) (fun (T2 : Mm) => ix 1 80 (bd2 (pX12_takesName R T2 a0 20 (T2.1 (R a0 7) (1 : Int32).toNatClampNeg)) (fun (u3 : Int32) (T3 : Mm) => if u3 = 0 then some (0, T3) else lt (T3.1 a0 18) (fun (v4 : Int32) => ix 1 80 (bd2 (pX12_looksAt R T3 a0 20 (T3.1 (R a0 7) (1 : Int32).toNatClampNeg)) (fun (u5 : Int32) (T5 : Mm) => if u5 = 0 then some (0, T5) else if (T5.1 a0 18) = v4 then zl5 (pX12_readJoin_103 R a0 (pX12_readJoin_187 R a0)) FU T5 v1 v4 1 0 else ix (12 + (T5.1 a0 18)) 80 (ix (12 + v4) 80 (if (T5.1 (R a0 7) (12 + (T5.1 a0 18)).toNatClampNeg) = (T5.1 (R a0 7) (12 + v4).toNatClampNeg) then zl5 (pX12_readJoin_103 R a0 (pX12_readJoin_187 R a0)) FU T5 v1 v4 0 0 else zl5 (pX12_readJoin_103 R a0 (pX12_readJoin_187 R a0)) FU T5 v1 v4 1 0))))))))))
set_option maxRecDepth 100000 in
set_option maxHeartbeats 4000000 in
theorem wX12_readJoin_144 {X : Cx} {g : Gl} {l : Launch} {R : Rf} {a0 : Nat} (K : Ok X g l cX12_readJoin RX12 5 (some .boolean) rmX12_readJoin) (hR : Ty g R) (k0 : kd g a0 = 12) {r : Int32 × Mm} {r103 : Mm → Int32 → Int32 → Int32 → Int32 → Option (Int32 × Mm)} (hr103 : ∀ (T : Mm) (x1 : Int32) (x2 : Int32) (x3 : Int32) (x4 : Int32), r103 T x1 x2 x3 x4 = some r → Zj X g 5 (QI X g r.1 R r.2) R T [some (.ref (g.2.2.1 a0)), some (.int x1), some (.int x2), some (.int x3), some (.int x4)] [] 103) {e187 : Mm → Int32 → Int32 → Int32 → Option (Int32 × Mm)} (he187 : ∀ (T : Mm) (x1 : Int32) (x2 : Int32) (x3 : Int32), e187 T x1 x2 x3 = some r → Zj X g 5 (QI X g r.1 R r.2) R T [some (.ref (g.2.2.1 a0)), some (.int x1), some (.int x2), some (.int x3), none] [] 187) (T : Mm) (x1 : Int32) (x2 : Int32) (x4 : Int32) (h : pX12_readJoin_144 R a0 r103 e187 T x1 x2 x4 = some r) : Zj X g 5 (QI X g r.1 R r.2) R T [some (.ref (g.2.2.1 a0)), some (.int x1), some (.int x2), none, some (.int x4)] [] 144 := by
  unfold pX12_readJoin_144 at h
  refine z_aload_n K dX12_readJoin_144 rfl ?_
  refine z_getR K clX12 k0 7 rfl rfl q1345 dX12_readJoin_145 ?_
  refine z_bipush K 32 dX12_readJoin_148 rfl ?_
  refine z_iload K dX12_readJoin_150 rfl ?_
  refine z_iadd K dX12_readJoin_152 ?_
  obtain ⟨hi, h⟩ := ix_e h
  refine z_iald K (hR.at (k := 7) (t := 20080) k0 rfl rfl) rfl rfl rfl hi dX12_readJoin_153 ?_
  refine z_aload_n K dX12_readJoin_154 rfl ?_
  refine z_getI K clX12 k0 18 rfl rfl q1356 dX12_readJoin_155 ?_
  refine z_icmp_ne K 179 dX12_readJoin_158 (by decide) (fun c => ?_) (fun c => ?_)
  · have h := ite_f h c
    refine z_iconst K 0 dX12_readJoin_179 rfl ?_
    refine z_istore_n K dX12_readJoin_180 rfl rfl ?_
    refine z_iinc K 1 dX12_readJoin_181 rfl rfl rfl rfl ?_
    refine z_goto K 103 dX12_readJoin_184 (by decide) ?_
    refine Zj.mask [true, true, true, true, true] ?_
    exact hr103 _ _ _ _ _ h
  · have h := ite_t h c
    refine z_aload_n K dX12_readJoin_161 rfl ?_
    refine z_getR K clX12 k0 7 rfl rfl q1345 dX12_readJoin_162 ?_
    refine z_bipush K 48 dX12_readJoin_165 rfl ?_
    refine z_iload K dX12_readJoin_167 rfl ?_
    refine z_iadd K dX12_readJoin_169 ?_
    obtain ⟨hi, h⟩ := ix_e h
    refine z_iald K (hR.at (k := 7) (t := 20080) k0 rfl rfl) rfl rfl rfl hi dX12_readJoin_170 ?_
    refine z_iload_n K dX12_readJoin_171 rfl ?_
    refine z_icmp_ne K 179 dX12_readJoin_172 (by decide) (fun c => ?_) (fun c => ?_)
    · have h := ite_f h c
      refine z_iconst K 0 dX12_readJoin_179 rfl ?_
      refine z_istore_n K dX12_readJoin_180 rfl rfl ?_
      refine z_iinc K 1 dX12_readJoin_181 rfl rfl rfl rfl ?_
      refine z_goto K 103 dX12_readJoin_184 (by decide) ?_
      refine Zj.mask [true, true, true, true, true] ?_
      exact hr103 _ _ _ _ _ h
    · have h := ite_t h c
      refine z_iconst K 1 dX12_readJoin_175 rfl ?_
      refine z_goto K 180 dX12_readJoin_176 (by decide) ?_
      refine z_istore_n K dX12_readJoin_180 rfl rfl ?_
      refine z_iinc K 1 dX12_readJoin_181 rfl rfl rfl rfl ?_
      refine z_goto K 103 dX12_readJoin_184 (by decide) ?_
      refine Zj.mask [true, true, true, true, true] ?_
      exact hr103 _ _ _ _ _ h
set_option maxRecDepth 100000 in
set_option maxHeartbeats 4000000 in
theorem wX12_readJoin_103 {X : Cx} {g : Gl} {l : Launch} {R : Rf} {a0 : Nat} (K : Ok X g l cX12_readJoin RX12 5 (some .boolean) rmX12_readJoin) (hR : Ty g R) (k0 : kd g a0 = 12) {r : Int32 × Mm} {e187 : Mm → Int32 → Int32 → Int32 → Option (Int32 × Mm)} (he187 : ∀ (T : Mm) (x1 : Int32) (x2 : Int32) (x3 : Int32), e187 T x1 x2 x3 = some r → Zj X g 5 (QI X g r.1 R r.2) R T [some (.ref (g.2.2.1 a0)), some (.int x1), some (.int x2), some (.int x3), none] [] 187) : ∀ (n : Nat) (T : Mm) (x1 : Int32) (x2 : Int32) (x3 : Int32) (x4 : Int32), zl5 (pX12_readJoin_103 R a0 e187) n T x1 x2 x3 x4 = some r → Zj X g 5 (QI X g r.1 R r.2) R T [some (.ref (g.2.2.1 a0)), some (.int x1), some (.int x2), some (.int x3), some (.int x4)] [] 103 := by
  intro n
  induction n with
  | zero =>
    intro T x1 x2 x3 x4 h
    exact absurd h (by simp [zl5])
  | succ n hr103 =>
    intro T x1 x2 x3 x4 h
    rw [zl5_s] at h
    unfold pX12_readJoin_103 at h
    refine z_iload K dX12_readJoin_103 rfl ?_
    refine z_iload_n K dX12_readJoin_105 rfl ?_
    refine z_icmp_ge K 187 dX12_readJoin_106 (by decide) (fun c => ?_) (fun c => ?_)
    · have h := ite_t h c
      refine Zj.mask [true, true, true, true, false] ?_
      exact he187 _ _ _ _ h
    · have h := ite_f h c
      refine z_iload_n K dX12_readJoin_109 rfl ?_
      refine z_if_ne K 175 dX12_readJoin_110 (by decide) (fun c => ?_) (fun c => ?_)
      · have h := ite_f h c
        refine z_iconst K 1 dX12_readJoin_175 rfl ?_
        refine z_goto K 180 dX12_readJoin_176 (by decide) ?_
        refine z_istore_n K dX12_readJoin_180 rfl rfl ?_
        refine z_iinc K 1 dX12_readJoin_181 rfl rfl rfl rfl ?_
        refine z_goto K 103 dX12_readJoin_184 (by decide) ?_
        refine Zj.mask [true, true, true, true, true] ?_
        exact hr103 _ _ _ _ _ h
      · have h := ite_t h c
        refine z_aload_n K dX12_readJoin_113 rfl ?_
        refine z_getR K clX12 k0 7 rfl rfl q1345 dX12_readJoin_114 ?_
        refine z_bipush K 32 dX12_readJoin_117 rfl ?_
        refine z_iload K dX12_readJoin_119 rfl ?_
        refine z_iadd K dX12_readJoin_121 ?_
        obtain ⟨hi, h⟩ := ix_e h
        refine z_iald K (hR.at (k := 7) (t := 20080) k0 rfl rfl) rfl rfl rfl hi dX12_readJoin_122 ?_
        refine z_iload_n K dX12_readJoin_123 rfl ?_
        refine z_icmp_ne K 144 dX12_readJoin_124 (by decide) (fun c => ?_) (fun c => ?_)
        · have h := ite_f h c
          refine Zj.mask [true, true, true, false, true] ?_
          exact wX12_readJoin_144 K hR k0 hr103 he187 _ _ _ _ h
        · have h := ite_t h c
          refine z_aload_n K dX12_readJoin_127 rfl ?_
          refine z_getR K clX12 k0 7 rfl rfl q1345 dX12_readJoin_128 ?_
          refine z_bipush K 48 dX12_readJoin_131 rfl ?_
          refine z_iload K dX12_readJoin_133 rfl ?_
          refine z_iadd K dX12_readJoin_135 ?_
          obtain ⟨hi, h⟩ := ix_e h
          refine z_iald K (hR.at (k := 7) (t := 20080) k0 rfl rfl) rfl rfl rfl hi dX12_readJoin_136 ?_
          refine z_aload_n K dX12_readJoin_137 rfl ?_
          refine z_getI K clX12 k0 18 rfl rfl q1356 dX12_readJoin_138 ?_
          refine z_icmp_eq K 175 dX12_readJoin_141 (by decide) (fun c => ?_) (fun c => ?_)
          · have h := ite_t h c
            refine z_iconst K 1 dX12_readJoin_175 rfl ?_
            refine z_goto K 180 dX12_readJoin_176 (by decide) ?_
            refine z_istore_n K dX12_readJoin_180 rfl rfl ?_
            refine z_iinc K 1 dX12_readJoin_181 rfl rfl rfl rfl ?_
            refine z_goto K 103 dX12_readJoin_184 (by decide) ?_
            refine Zj.mask [true, true, true, true, true] ?_
            exact hr103 _ _ _ _ _ h
          · have h := ite_f h c
            refine Zj.mask [true, true, true, false, true] ?_
            exact wX12_readJoin_144 K hR k0 hr103 he187 _ _ _ _ h
set_option maxRecDepth 100000 in
set_option maxHeartbeats 4000000 in
theorem wX12_readJoin_187 {X : Cx} {g : Gl} {l : Launch} {R : Rf} {a0 : Nat} (K : Ok X g l cX12_readJoin RX12 5 (some .boolean) rmX12_readJoin) (hR : Ty g R) (k0 : kd g a0 = 12) {r : Int32 × Mm} (T : Mm) (x1 : Int32) (x2 : Int32) (x3 : Int32) (h : pX12_readJoin_187 R a0 T x1 x2 x3 = some r) : Zj X g 5 (QI X g r.1 R r.2) R T [some (.ref (g.2.2.1 a0)), some (.int x1), some (.int x2), some (.int x3), none] [] 187 := by
  unfold pX12_readJoin_187 at h
  refine z_iload_n K dX12_readJoin_187 rfl ?_
  refine z_if_eq K 197 dX12_readJoin_188 (by decide) (fun c => ?_) (fun c => ?_)
  · have h := ite_t h c
    refine z_aload_n K dX12_readJoin_197 rfl ?_
    refine z_getR K clX12 k0 7 rfl rfl q1345 dX12_readJoin_198 ?_
    refine z_bipush K 32 dX12_readJoin_201 rfl ?_
    refine z_iload_n K dX12_readJoin_203 rfl ?_
    refine z_iadd K dX12_readJoin_204 ?_
    refine z_iload_n K dX12_readJoin_205 rfl ?_
    obtain ⟨hi, h⟩ := ix_e h
    refine z_iast K (hR.at (k := 7) (t := 20080) k0 rfl rfl) rfl rfl rfl hi dX12_readJoin_206 ?_
    refine z_aload_n K dX12_readJoin_207 rfl ?_
    refine z_getR K clX12 k0 7 rfl rfl q1345 dX12_readJoin_208 ?_
    refine z_bipush K 48 dX12_readJoin_211 rfl ?_
    refine z_iload_n K dX12_readJoin_213 rfl ?_
    refine z_iadd K dX12_readJoin_214 ?_
    refine z_aload_n K dX12_readJoin_215 rfl ?_
    refine z_getI K clX12 k0 18 rfl rfl q1356 dX12_readJoin_216 ?_
    obtain ⟨hi, h⟩ := ix_e h
    refine z_iast K (hR.at (k := 7) (t := 20080) k0 rfl rfl) rfl rfl rfl hi dX12_readJoin_219 ?_
    refine z_aload_n K dX12_readJoin_220 rfl ?_
    obtain ⟨T13, hc, h⟩ := bd1_e h
    refine z_callVV K (mX12_next l hR k0 hc) clX12 k0 ceX12_next q1498 ⟨rfl, rfl, rfl, rfl⟩ rfl rfl rfl dX12_readJoin_221 ?_
    refine z_aload_n K dX12_readJoin_224 rfl ?_
    refine z_bipush K 64 dX12_readJoin_225 rfl ?_
    refine z_iload_n K dX12_readJoin_227 rfl ?_
    refine z_iadd K dX12_readJoin_228 ?_
    refine z_iconst K 1 dX12_readJoin_229 rfl ?_
    refine z_bipush K 30 dX12_readJoin_230 rfl ?_
    obtain ⟨u14, T14, hc, h⟩ := bd2_e h
    refine z_callVI K (mX12_puts l hR k0 hc) clX12 k0 ceX12_puts q1531 ⟨rfl, rfl, rfl, rfl⟩ rfl rfl rfl dX12_readJoin_232 ?_
    refine z_if_ne K 240 dX12_readJoin_235 (by decide) (fun c => ?_) (fun c => ?_)
    · have h := ite_f h c
      refine z_aload_n K dX12_readJoin_240 rfl ?_
      refine z_getR K clX12 k0 7 rfl rfl q1345 dX12_readJoin_241 ?_
      refine z_iconst K 2 dX12_readJoin_244 rfl ?_
      refine z_dup2 K dX12_readJoin_245 rfl rfl ?_
      obtain ⟨hi, h⟩ := ix_e h
      refine z_iald K (hR.at (k := 7) (t := 20080) k0 rfl rfl) rfl rfl rfl hi dX12_readJoin_246 ?_
      refine z_iconst K 1 dX12_readJoin_247 rfl ?_
      refine z_iadd K dX12_readJoin_248 ?_
      obtain ⟨hi, h⟩ := ix_e h
      refine z_iast K (hR.at (k := 7) (t := 20080) k0 rfl rfl) rfl rfl rfl hi dX12_readJoin_249 ?_
      refine z_iconst K 1 dX12_readJoin_250 rfl ?_
      obtain rfl := Option.some.inj h
      exact z_zret (v := 1) K rfl dX12_readJoin_251
    · have h := ite_t h c
      refine z_iconst K 0 dX12_readJoin_238 rfl ?_
      obtain rfl := Option.some.inj h
      exact z_zret (v := 0) K rfl dX12_readJoin_239
  · have h := ite_f h c
    refine z_aload_n K dX12_readJoin_191 rfl ?_
    refine z_iconst K 3 dX12_readJoin_192 rfl ?_
    obtain ⟨u16, T16, hc, h⟩ := bd2_e h
    refine z_callVI K (mX12_bad l hR k0 hc) clX12 k0 ceX12_bad q1527 ⟨rfl, rfl, rfl, rfl⟩ rfl rfl rfl dX12_readJoin_193 ?_
    obtain ⟨hz, hf, h⟩ := bz_e h
    obtain rfl := Option.some.inj h
    exact z_zret K hz dX12_readJoin_196
set_option maxRecDepth 100000 in
set_option maxHeartbeats 4000000 in
theorem mX12_readJoin {g : Gl} {R : Rf} {T : Mm} {a0 : Nat} (l : Launch) (hR : Ty g R) (k0 : kd g a0 = 12) {r : Int32 × Mm} (h : pX12_readJoin R T a0 = some r) : MI l g yX12_readJoin cX12_readJoin 5 (some .boolean) rmX12_readJoin [.ref (g.2.2.1 a0)] R T r.1 R r.2 := by
  refine z_metI (own := RX12) (lv := [some (.ref (g.2.2.1 a0)), none, none, none, none]) (by decide +kernel) rfl rfl rfl (fun X K => ?_)
  unfold pX12_readJoin at h
  refine z_aload_n K dX12_readJoin_0 rfl ?_
  refine z_getR K clX12 k0 7 rfl rfl q1345 dX12_readJoin_1 ?_
  refine z_iconst K 2 dX12_readJoin_4 rfl ?_
  obtain ⟨hi, h⟩ := ix_e h
  refine z_iald K (hR.at (k := 7) (t := 20080) k0 rfl rfl) rfl rfl rfl hi dX12_readJoin_5 ?_
  refine z_istore_n K dX12_readJoin_6 rfl rfl ?_
  refine z_iload_n K dX12_readJoin_7 rfl ?_
  refine z_bipush K 16 dX12_readJoin_8 rfl ?_
  refine z_icmp_ne K 19 dX12_readJoin_10 (by decide) (fun c => ?_) (fun c => ?_)
  · have h := ite_f h c
    refine z_aload_n K dX12_readJoin_19 rfl ?_
    obtain ⟨T2, hc, h⟩ := bd1_e h
    refine z_callVV K (mX12_next l hR k0 hc) clX12 k0 ceX12_next q1498 ⟨rfl, rfl, rfl, rfl⟩ rfl rfl rfl dX12_readJoin_20 ?_
    refine z_aload_n K dX12_readJoin_23 rfl ?_
    refine z_bipush K 20 dX12_readJoin_24 rfl ?_
    refine z_aload_n K dX12_readJoin_26 rfl ?_
    refine z_getR K clX12 k0 7 rfl rfl q1345 dX12_readJoin_27 ?_
    refine z_iconst K 1 dX12_readJoin_30 rfl ?_
    obtain ⟨hi, h⟩ := ix_e h
    refine z_iald K (hR.at (k := 7) (t := 20080) k0 rfl rfl) rfl rfl rfl hi dX12_readJoin_31 ?_
    obtain ⟨u3, T3, hc, h⟩ := bd2_e h
    refine z_callVI K (mX12_takesName l hR k0 hc) clX12 k0 ceX12_takesName q1562 ⟨rfl, rfl, rfl, rfl⟩ rfl rfl rfl dX12_readJoin_32 ?_
    refine z_if_ne K 40 dX12_readJoin_35 (by decide) (fun c => ?_) (fun c => ?_)
    · have h := ite_f h c
      refine z_aload_n K dX12_readJoin_40 rfl ?_
      refine z_getI K clX12 k0 18 rfl rfl q1356 dX12_readJoin_41 ?_
      refine z_istore_n K dX12_readJoin_44 rfl rfl ?_
      refine z_aload_n K dX12_readJoin_45 rfl ?_
      refine z_bipush K 20 dX12_readJoin_46 rfl ?_
      refine z_aload_n K dX12_readJoin_48 rfl ?_
      refine z_getR K clX12 k0 7 rfl rfl q1345 dX12_readJoin_49 ?_
      refine z_iconst K 1 dX12_readJoin_52 rfl ?_
      obtain ⟨hi, h⟩ := ix_e h
      refine z_iald K (hR.at (k := 7) (t := 20080) k0 rfl rfl) rfl rfl rfl hi dX12_readJoin_53 ?_
      obtain ⟨u5, T5, hc, h⟩ := bd2_e h
      refine z_callVI K (mX12_looksAt l hR k0 hc) clX12 k0 ceX12_looksAt q1566 ⟨rfl, rfl, rfl, rfl⟩ rfl rfl rfl dX12_readJoin_54 ?_
      refine z_if_ne K 62 dX12_readJoin_57 (by decide) (fun c => ?_) (fun c => ?_)
      · have h := ite_f h c
        refine z_aload_n K dX12_readJoin_62 rfl ?_
        refine z_getI K clX12 k0 18 rfl rfl q1356 dX12_readJoin_63 ?_
        refine z_iload_n K dX12_readJoin_66 rfl ?_
        refine z_icmp_eq K 94 dX12_readJoin_67 (by decide) (fun c => ?_) (fun c => ?_)
        · have h := ite_t h c
          refine z_iconst K 1 dX12_readJoin_94 rfl ?_
          refine z_goto K 99 dX12_readJoin_95 (by decide) ?_
          refine z_istore_n K dX12_readJoin_99 rfl rfl ?_
          refine z_iconst K 0 dX12_readJoin_100 rfl ?_
          refine z_istore K dX12_readJoin_101 rfl rfl ?_
          refine Zj.mask [true, true, true, true, true] ?_
          exact wX12_readJoin_103 K hR k0 (wX12_readJoin_187 K hR k0) FU _ _ _ _ _ h
        · have h := ite_f h c
          refine z_aload_n K dX12_readJoin_70 rfl ?_
          refine z_getR K clX12 k0 7 rfl rfl q1345 dX12_readJoin_71 ?_
          refine z_bipush K 12 dX12_readJoin_74 rfl ?_
          refine z_aload_n K dX12_readJoin_76 rfl ?_
          refine z_getI K clX12 k0 18 rfl rfl q1356 dX12_readJoin_77 ?_
          refine z_iadd K dX12_readJoin_80 ?_
          obtain ⟨hi, h⟩ := ix_e h
          refine z_iald K (hR.at (k := 7) (t := 20080) k0 rfl rfl) rfl rfl rfl hi dX12_readJoin_81 ?_
          refine z_aload_n K dX12_readJoin_82 rfl ?_
          refine z_getR K clX12 k0 7 rfl rfl q1345 dX12_readJoin_83 ?_
          refine z_bipush K 12 dX12_readJoin_86 rfl ?_
          refine z_iload_n K dX12_readJoin_88 rfl ?_
          refine z_iadd K dX12_readJoin_89 ?_
          obtain ⟨hi, h⟩ := ix_e h
          refine z_iald K (hR.at (k := 7) (t := 20080) k0 rfl rfl) rfl rfl rfl hi dX12_readJoin_90 ?_
          refine z_icmp_eq K 98 dX12_readJoin_91 (by decide) (fun c => ?_) (fun c => ?_)
          · have h := ite_t h c
            refine z_iconst K 0 dX12_readJoin_98 rfl ?_
            refine z_istore_n K dX12_readJoin_99 rfl rfl ?_
            refine z_iconst K 0 dX12_readJoin_100 rfl ?_
            refine z_istore K dX12_readJoin_101 rfl rfl ?_
            refine Zj.mask [true, true, true, true, true] ?_
            exact wX12_readJoin_103 K hR k0 (wX12_readJoin_187 K hR k0) FU _ _ _ _ _ h
          · have h := ite_f h c
            refine z_iconst K 1 dX12_readJoin_94 rfl ?_
            refine z_goto K 99 dX12_readJoin_95 (by decide) ?_
            refine z_istore_n K dX12_readJoin_99 rfl rfl ?_
            refine z_iconst K 0 dX12_readJoin_100 rfl ?_
            refine z_istore K dX12_readJoin_101 rfl rfl ?_
            refine Zj.mask [true, true, true, true, true] ?_
            exact wX12_readJoin_103 K hR k0 (wX12_readJoin_187 K hR k0) FU _ _ _ _ _ h
      · have h := ite_t h c
        refine z_iconst K 0 dX12_readJoin_60 rfl ?_
        obtain rfl := Option.some.inj h
        exact z_zret (v := 0) K rfl dX12_readJoin_61
    · have h := ite_t h c
      refine z_iconst K 0 dX12_readJoin_38 rfl ?_
      obtain rfl := Option.some.inj h
      exact z_zret (v := 0) K rfl dX12_readJoin_39
  · have h := ite_t h c
    refine z_aload_n K dX12_readJoin_13 rfl ?_
    refine z_iconst K 4 dX12_readJoin_14 rfl ?_
    obtain ⟨u17, T17, hc, h⟩ := bd2_e h
    refine z_callVI K (mX12_bad l hR k0 hc) clX12 k0 ceX12_bad q1527 ⟨rfl, rfl, rfl, rfl⟩ rfl rfl rfl dX12_readJoin_15 ?_
    obtain ⟨hz, hf, h⟩ := bz_e h
    obtain rfl := Option.some.inj h
    exact z_zret K hz dX12_readJoin_18
/-! GoingOverModel.readLine ()Z -/
abbrev rmX12_readLine : Room := { frames := 5, cells := 0, slots := 0, locals := 112 }
def pX12_readLine (R : Rf) (T : Mm) (a0 : Nat) : Option (Int32 × Mm) :=
  bd1 (pX12_isWord R T a0 439721159795) (fun (u1 : Int32) => if u1 = 0 then bd1 (pX12_isWord R T a0 1918986606) (fun (u2 : Int32) => if u2 = 0 then bd1 (pX12_isWord R T a0 123581014175598) (fun (u3 : Int32) => if u3 = 0 then bd1 (pX12_isWord R T a0 1769235821) (fun (u4 : Int32) => if u4 = 0 then bd1 (pX12_isWord R T a0 1785686382) (fun (u5 : Int32) => if u5 = 0 then bd2 (pX12_bad R T a0 1) (fun (u6 : Int32) (T6 : Mm) => bz u6 (some (u6, T6))) else bd2 (pX12_readJoin R T a0) (fun (u7 : Int32) (T7 : Mm) => bz u7 (some (u7, T7)))) else bd2 (pX12_readItem R T a0) (fun (u8 : Int32) (T8 : Mm) => bz u8 (some (u8, T8)))) else bd2 (pX12_readPerson R T a0) (fun (u9 : Int32) (T9 : Mm) => bz u9 (some (u9, T9)))) else bd2 (pX12_once R T a0 1) (fun (u10 : Int32) (T10 : Mm) => if u10 = 0 then some (0, T10) else bd2 (pX12_puts R T10 a0 5 1 9) (fun (u11 : Int32) (T11 : Mm) => if u11 = 0 then some (0, T11) else bd2 (pX12_puts R T11 a0 6 1 99) (fun (u12 : Int32) (T12 : Mm) => if u12 = 0 then some (0, T12) else some (1, T12))))) else bd2 (pX12_once R T a0 0) (fun (u13 : Int32) (T13 : Mm) => if u13 = 0 then some (0, T13) else bd2 (pX12_puts R T13 a0 3 1 30) (fun (u14 : Int32) (T14 : Mm) => if u14 = 0 then some (0, T14) else bd2 (pX12_puts R T14 a0 4 1 99) (fun (u15 : Int32) (T15 : Mm) => if u15 = 0 then some (0, T15) else some (1, T15)))))
set_option maxRecDepth 100000 in
set_option maxHeartbeats 4000000 in
theorem mX12_readLine {g : Gl} {R : Rf} {T : Mm} {a0 : Nat} (l : Launch) (hR : Ty g R) (k0 : kd g a0 = 12) {r : Int32 × Mm} (h : pX12_readLine R T a0 = some r) : MI l g yX12_readLine cX12_readLine 1 (some .boolean) rmX12_readLine [.ref (g.2.2.1 a0)] R T r.1 R r.2 := by
  refine z_metI (own := RX12) (lv := [some (.ref (g.2.2.1 a0))]) (by decide +kernel) rfl rfl rfl (fun X K => ?_)
  unfold pX12_readLine at h
  refine z_aload_n K dX12_readLine_0 rfl ?_
  refine z_ldc2 K 439721159795 q1310 dX12_readLine_1 ?_
  obtain ⟨u1, hc, h⟩ := bd1_e h
  refine z_callVI K (mX12_isWord l hR k0 hc) clX12 k0 ceX12_isWord q1516 ⟨rfl, rfl, rfl, rfl⟩ rfl rfl rfl dX12_readLine_4 ?_
  refine z_if_eq K 46 dX12_readLine_7 (by decide) (fun c => ?_) (fun c => ?_)
  · have h := ite_t h c
    refine z_aload_n K dX12_readLine_46 rfl ?_
    refine z_ldc2 K 1918986606 q1311 dX12_readLine_47 ?_
    obtain ⟨u2, hc, h⟩ := bd1_e h
    refine z_callVI K (mX12_isWord l hR k0 hc) clX12 k0 ceX12_isWord q1516 ⟨rfl, rfl, rfl, rfl⟩ rfl rfl rfl dX12_readLine_50 ?_
    refine z_if_eq K 93 dX12_readLine_53 (by decide) (fun c => ?_) (fun c => ?_)
    · have h := ite_t h c
      refine z_aload_n K dX12_readLine_93 rfl ?_
      refine z_ldc2 K 123581014175598 q1312 dX12_readLine_94 ?_
      obtain ⟨u3, hc, h⟩ := bd1_e h
      refine z_callVI K (mX12_isWord l hR k0 hc) clX12 k0 ceX12_isWord q1516 ⟨rfl, rfl, rfl, rfl⟩ rfl rfl rfl dX12_readLine_97 ?_
      refine z_if_eq K 108 dX12_readLine_100 (by decide) (fun c => ?_) (fun c => ?_)
      · have h := ite_t h c
        refine z_aload_n K dX12_readLine_108 rfl ?_
        refine z_ldc2 K 1769235821 q1313 dX12_readLine_109 ?_
        obtain ⟨u4, hc, h⟩ := bd1_e h
        refine z_callVI K (mX12_isWord l hR k0 hc) clX12 k0 ceX12_isWord q1516 ⟨rfl, rfl, rfl, rfl⟩ rfl rfl rfl dX12_readLine_112 ?_
        refine z_if_eq K 123 dX12_readLine_115 (by decide) (fun c => ?_) (fun c => ?_)
        · have h := ite_t h c
          refine z_aload_n K dX12_readLine_123 rfl ?_
          refine z_ldc2 K 1785686382 q1314 dX12_readLine_124 ?_
          obtain ⟨u5, hc, h⟩ := bd1_e h
          refine z_callVI K (mX12_isWord l hR k0 hc) clX12 k0 ceX12_isWord q1516 ⟨rfl, rfl, rfl, rfl⟩ rfl rfl rfl dX12_readLine_127 ?_
          refine z_if_eq K 140 dX12_readLine_130 (by decide) (fun c => ?_) (fun c => ?_)
          · have h := ite_t h c
            refine z_aload_n K dX12_readLine_140 rfl ?_
            refine z_iconst K 1 dX12_readLine_141 rfl ?_
            obtain ⟨u6, T6, hc, h⟩ := bd2_e h
            refine z_callVI K (mX12_bad l hR k0 hc) clX12 k0 ceX12_bad q1527 ⟨rfl, rfl, rfl, rfl⟩ rfl rfl rfl dX12_readLine_142 ?_
            obtain ⟨hz, hf, h⟩ := bz_e h
            obtain rfl := Option.some.inj h
            exact z_zret K hz dX12_readLine_145
          · have h := ite_f h c
            refine z_aload_n K dX12_readLine_133 rfl ?_
            obtain ⟨u7, T7, hc, h⟩ := bd2_e h
            refine z_callVI K (mX12_readJoin l hR k0 hc) clX12 k0 ceX12_readJoin q1570 ⟨rfl, rfl, rfl, rfl⟩ rfl rfl rfl dX12_readLine_134 ?_
            refine z_goto K 145 dX12_readLine_137 (by decide) ?_
            obtain ⟨hz, hf, h⟩ := bz_e h
            obtain rfl := Option.some.inj h
            exact z_zret K hz dX12_readLine_145
        · have h := ite_f h c
          refine z_aload_n K dX12_readLine_118 rfl ?_
          obtain ⟨u8, T8, hc, h⟩ := bd2_e h
          refine z_callVI K (mX12_readItem l hR k0 hc) clX12 k0 ceX12_readItem q1558 ⟨rfl, rfl, rfl, rfl⟩ rfl rfl rfl dX12_readLine_119 ?_
          obtain ⟨hz, hf, h⟩ := bz_e h
          obtain rfl := Option.some.inj h
          exact z_zret K hz dX12_readLine_122
      · have h := ite_f h c
        refine z_aload_n K dX12_readLine_103 rfl ?_
        obtain ⟨u9, T9, hc, h⟩ := bd2_e h
        refine z_callVI K (mX12_readPerson l hR k0 hc) clX12 k0 ceX12_readPerson q1542 ⟨rfl, rfl, rfl, rfl⟩ rfl rfl rfl dX12_readLine_104 ?_
        obtain ⟨hz, hf, h⟩ := bz_e h
        obtain rfl := Option.some.inj h
        exact z_zret K hz dX12_readLine_107
    · have h := ite_f h c
      refine z_aload_n K dX12_readLine_56 rfl ?_
      refine z_iconst K 1 dX12_readLine_57 rfl ?_
      obtain ⟨u10, T10, hc, h⟩ := bd2_e h
      refine z_callVI K (mX12_once l hR k0 hc) clX12 k0 ceX12_once q1520 ⟨rfl, rfl, rfl, rfl⟩ rfl rfl rfl dX12_readLine_58 ?_
      refine z_if_eq K 91 dX12_readLine_61 (by decide) (fun c => ?_) (fun c => ?_)
      · have h := ite_t h c
        refine z_iconst K 0 dX12_readLine_91 rfl ?_
        obtain rfl := Option.some.inj h
        exact z_zret (v := 0) K rfl dX12_readLine_92
      · have h := ite_f h c
        refine z_aload_n K dX12_readLine_64 rfl ?_
        refine z_iconst K 5 dX12_readLine_65 rfl ?_
        refine z_iconst K 1 dX12_readLine_66 rfl ?_
        refine z_bipush K 9 dX12_readLine_67 rfl ?_
        obtain ⟨u11, T11, hc, h⟩ := bd2_e h
        refine z_callVI K (mX12_puts l hR k0 hc) clX12 k0 ceX12_puts q1531 ⟨rfl, rfl, rfl, rfl⟩ rfl rfl rfl dX12_readLine_69 ?_
        refine z_if_eq K 91 dX12_readLine_72 (by decide) (fun c => ?_) (fun c => ?_)
        · have h := ite_t h c
          refine z_iconst K 0 dX12_readLine_91 rfl ?_
          obtain rfl := Option.some.inj h
          exact z_zret (v := 0) K rfl dX12_readLine_92
        · have h := ite_f h c
          refine z_aload_n K dX12_readLine_75 rfl ?_
          refine z_bipush K 6 dX12_readLine_76 rfl ?_
          refine z_iconst K 1 dX12_readLine_78 rfl ?_
          refine z_bipush K 99 dX12_readLine_79 rfl ?_
          obtain ⟨u12, T12, hc, h⟩ := bd2_e h
          refine z_callVI K (mX12_puts l hR k0 hc) clX12 k0 ceX12_puts q1531 ⟨rfl, rfl, rfl, rfl⟩ rfl rfl rfl dX12_readLine_81 ?_
          refine z_if_eq K 91 dX12_readLine_84 (by decide) (fun c => ?_) (fun c => ?_)
          · have h := ite_t h c
            refine z_iconst K 0 dX12_readLine_91 rfl ?_
            obtain rfl := Option.some.inj h
            exact z_zret (v := 0) K rfl dX12_readLine_92
          · have h := ite_f h c
            refine z_iconst K 1 dX12_readLine_87 rfl ?_
            refine z_goto K 92 dX12_readLine_88 (by decide) ?_
            obtain rfl := Option.some.inj h
            exact z_zret (v := 1) K rfl dX12_readLine_92
  · have h := ite_f h c
    refine z_aload_n K dX12_readLine_10 rfl ?_
    refine z_iconst K 0 dX12_readLine_11 rfl ?_
    obtain ⟨u13, T13, hc, h⟩ := bd2_e h
    refine z_callVI K (mX12_once l hR k0 hc) clX12 k0 ceX12_once q1520 ⟨rfl, rfl, rfl, rfl⟩ rfl rfl rfl dX12_readLine_12 ?_
    refine z_if_eq K 44 dX12_readLine_15 (by decide) (fun c => ?_) (fun c => ?_)
    · have h := ite_t h c
      refine z_iconst K 0 dX12_readLine_44 rfl ?_
      obtain rfl := Option.some.inj h
      exact z_zret (v := 0) K rfl dX12_readLine_45
    · have h := ite_f h c
      refine z_aload_n K dX12_readLine_18 rfl ?_
      refine z_iconst K 3 dX12_readLine_19 rfl ?_
      refine z_iconst K 1 dX12_readLine_20 rfl ?_
      refine z_bipush K 30 dX12_readLine_21 rfl ?_
      obtain ⟨u14, T14, hc, h⟩ := bd2_e h
      refine z_callVI K (mX12_puts l hR k0 hc) clX12 k0 ceX12_puts q1531 ⟨rfl, rfl, rfl, rfl⟩ rfl rfl rfl dX12_readLine_23 ?_
      refine z_if_eq K 44 dX12_readLine_26 (by decide) (fun c => ?_) (fun c => ?_)
      · have h := ite_t h c
        refine z_iconst K 0 dX12_readLine_44 rfl ?_
        obtain rfl := Option.some.inj h
        exact z_zret (v := 0) K rfl dX12_readLine_45
      · have h := ite_f h c
        refine z_aload_n K dX12_readLine_29 rfl ?_
        refine z_iconst K 4 dX12_readLine_30 rfl ?_
        refine z_iconst K 1 dX12_readLine_31 rfl ?_
        refine z_bipush K 99 dX12_readLine_32 rfl ?_
        obtain ⟨u15, T15, hc, h⟩ := bd2_e h
        refine z_callVI K (mX12_puts l hR k0 hc) clX12 k0 ceX12_puts q1531 ⟨rfl, rfl, rfl, rfl⟩ rfl rfl rfl dX12_readLine_34 ?_
        refine z_if_eq K 44 dX12_readLine_37 (by decide) (fun c => ?_) (fun c => ?_)
        · have h := ite_t h c
          refine z_iconst K 0 dX12_readLine_44 rfl ?_
          obtain rfl := Option.some.inj h
          exact z_zret (v := 0) K rfl dX12_readLine_45
        · have h := ite_f h c
          refine z_iconst K 1 dX12_readLine_40 rfl ?_
          refine z_goto K 45 dX12_readLine_41 (by decide) ?_
          obtain rfl := Option.some.inj h
          exact z_zret (v := 1) K rfl dX12_readLine_45
/-! GoingOverModel.falls ()I -/
abbrev rmX12_falls : Room := { frames := 6, cells := 0, slots := 0, locals := 132 }
def pX12_falls_35 (R : Rf) (a0 : Nat) (e58 : Mm → Option (Int32 × Mm)) (e78 : Mm → Option (Int32 × Mm)) (r35 : Mm → Option (Int32 × Mm)) (T : Mm) : Option (Int32 × Mm) :=
  if (T.1 a0 11) = 0 then e78 T else bd2 (pX12_readLine R T a0) (fun (u8 : Int32) (T8 : Mm) => if u8 = 0 then e58 T8 else bd2 (pX12_sign R T8 a0 59) (fun (u9 : Int32) (T9 : Mm) => if u9 = 0 then e58 T9 else lt (wI T9 a0 19 ((T9.1 a0 19) + 1)) (fun (T10 : Mm) => r35 T10)))
def pX12_falls_58 (R : Rf) (a0 : Nat) (T : Mm) : Option (Int32 × Mm) :=
  some ((-1) - (T.1 a0 16), T)
def pX12_falls_80 (R : Rf) (a0 : Nat) (e115 : Mm → Option (Int32 × Mm)) (r80 : Mm → Int32 → Option (Int32 × Mm)) (T : Mm) (x1 : Int32) : Option (Int32 × Mm) :=
  if 270 ≤ x1 then e115 T else if 80 ≤ x1 then ix x1 270 (lt (wI T (R a0 6) x1.toNatClampNeg 0) (fun (T11 : Mm) => lt (x1 + 1) (fun (v12 : Int32) => r80 T11 v12))) else ix x1 80 (ix x1 270 (lt (wI T (R a0 6) x1.toNatClampNeg (T.1 (R a0 7) x1.toNatClampNeg)) (fun (T13 : Mm) => lt (x1 + 1) (fun (v14 : Int32) => r80 T13 v14))))
def pX12_falls_117 (R : Rf) (a0 : Nat) (e144 : Mm → Option (Int32 × Mm)) (r117 : Mm → Int32 → Option (Int32 × Mm)) (T : Mm) (x1 : Int32) : Option (Int32 × Mm) :=
  if 15 ≤ x1 then e144 T else ix (15 + x1) 30 (ix x1 30 (lt (wJ T (R a0 9) x1.toNatClampNeg (T.2 (R a0 9) (15 + x1).toNatClampNeg)) (fun (T15 : Mm) => lt (x1 + 1) (fun (v16 : Int32) => r117 T15 v16))))
def pX12_falls_144 (R : Rf) (a0 : Nat) (T : Mm) : Option (Int32 × Mm) :=
  ix 1 270 (ix 81 270 (lt (wI T (R a0 6) (81 : Int32).toNatClampNeg ((1 <<< ((T.1 (R a0 6) (1 : Int32).toNatClampNeg) &&& 31)) - 1)) (fun (T17 : Mm) => ix 2 270 (ix 82 270 (lt (wI T17 (R a0 6) (82 : Int32).toNatClampNeg ((1 <<< ((T17.1 (R a0 6) (2 : Int32).toNatClampNeg) &&& 31)) - 1)) (fun (T18 : Mm) => lt (wI T18 a0 23 0) (fun (T19 : Mm) => some (T19.1 a0 19, T19))))))))
def pX12_falls_115 (R : Rf) (a0 : Nat) (T : Mm) : Option (Int32 × Mm) :=
  zl2 (pX12_falls_117 R a0 (pX12_falls_144 R a0)) FU T 0
def pX12_falls_78 (R : Rf) (a0 : Nat) (T : Mm) : Option (Int32 × Mm) :=
  zl2 (pX12_falls_80 R a0 (pX12_falls_115 R a0)) FU T 0
def pX12_falls (R : Rf) (T : Mm) (a0 : Nat) : Option (Int32 × Mm) :=
  lt (wI T a0 0 0) (fun (T1 : Mm) => bd1 (pX12_taken R T1 a0 900) (fun (T2 : Mm) => lt (wI T2 a0 15 0) (fun (T3 : Mm) => lt (wI T3 a0 19 0) (fun (T4 : Mm) => lt (wI T4 a0 20 0) (fun (T5 : Mm) => bd1 (pX12_clears R T5 a0) (fun (T6 : Mm) => bd1 (pX12_next R T6 a0) (fun (T7 : Mm) => zl1 (pX12_falls_35 R a0 (pX12_falls_58 R a0) (pX12_falls_78 R a0)) FU T7)))))))
set_option maxRecDepth 100000 in
set_option maxHeartbeats 4000000 in
theorem wX12_falls_35 {X : Cx} {g : Gl} {l : Launch} {R : Rf} {a0 : Nat} (K : Ok X g l cX12_falls RX12 2 (some .int) rmX12_falls) (hR : Ty g R) (k0 : kd g a0 = 12) {r : Int32 × Mm} {e58 : Mm → Option (Int32 × Mm)} (he58 : ∀ (T : Mm), e58 T = some r → Zj X g 2 (QI X g r.1 R r.2) R T [some (.ref (g.2.2.1 a0)), none] [] 58) {e78 : Mm → Option (Int32 × Mm)} (he78 : ∀ (T : Mm), e78 T = some r → Zj X g 2 (QI X g r.1 R r.2) R T [some (.ref (g.2.2.1 a0)), none] [] 78) : ∀ (n : Nat) (T : Mm), zl1 (pX12_falls_35 R a0 e58 e78) n T = some r → Zj X g 2 (QI X g r.1 R r.2) R T [some (.ref (g.2.2.1 a0)), none] [] 35 := by
  intro n
  induction n with
  | zero =>
    intro T h
    exact absurd h (by simp [zl1])
  | succ n hr35 =>
    intro T h
    rw [zl1_s] at h
    unfold pX12_falls_35 at h
    refine z_aload_n K dX12_falls_35 rfl ?_
    refine z_getI K clX12 k0 11 rfl rfl q1349 dX12_falls_36 ?_
    refine z_if_eq K 78 dX12_falls_39 (by decide) (fun c => ?_) (fun c => ?_)
    · have h := ite_t h c
      refine Zj.mask [true, false] ?_
      exact he78 _ h
    · have h := ite_f h c
      refine z_aload_n K dX12_falls_42 rfl ?_
      obtain ⟨u8, T8, hc, h⟩ := bd2_e h
      refine z_callVI K (mX12_readLine l hR k0 hc) clX12 k0 ceX12_readLine q1512 ⟨rfl, rfl, rfl, rfl⟩ rfl rfl rfl dX12_falls_43 ?_
      refine z_if_eq K 58 dX12_falls_46 (by decide) (fun c => ?_) (fun c => ?_)
      · have h := ite_t h c
        refine Zj.mask [true, false] ?_
        exact he58 _ h
      · have h := ite_f h c
        refine z_aload_n K dX12_falls_49 rfl ?_
        refine z_bipush K 59 dX12_falls_50 rfl ?_
        obtain ⟨u9, T9, hc, h⟩ := bd2_e h
        refine z_callVI K (mX12_sign l hR k0 hc) clX12 k0 ceX12_sign q1574 ⟨rfl, rfl, rfl, rfl⟩ rfl rfl rfl dX12_falls_52 ?_
        refine z_if_ne K 65 dX12_falls_55 (by decide) (fun c => ?_) (fun c => ?_)
        · have h := ite_f h c
          refine z_aload_n K dX12_falls_65 rfl ?_
          refine z_dup K dX12_falls_66 rfl ?_
          refine z_getI K clX12 k0 19 rfl rfl q1357 dX12_falls_67 ?_
          refine z_iconst K 1 dX12_falls_70 rfl ?_
          refine z_iadd K dX12_falls_71 ?_
          refine z_putI K clX12 tyX12_ok nmX12 k0 19 rfl rfl q1357 rfl rfl rfl dX12_falls_72 ?_
          refine z_goto K 35 dX12_falls_75 (by decide) ?_
          refine Zj.mask [true, false] ?_
          exact hr35 _ h
        · have h := ite_t h c
          refine Zj.mask [true, false] ?_
          exact he58 _ h
set_option maxRecDepth 100000 in
set_option maxHeartbeats 4000000 in
theorem wX12_falls_58 {X : Cx} {g : Gl} {l : Launch} {R : Rf} {a0 : Nat} (K : Ok X g l cX12_falls RX12 2 (some .int) rmX12_falls) (hR : Ty g R) (k0 : kd g a0 = 12) {r : Int32 × Mm} (T : Mm) (h : pX12_falls_58 R a0 T = some r) : Zj X g 2 (QI X g r.1 R r.2) R T [some (.ref (g.2.2.1 a0)), none] [] 58 := by
  unfold pX12_falls_58 at h
  refine z_iconst K (-1) dX12_falls_58 rfl ?_
  refine z_aload_n K dX12_falls_59 rfl ?_
  refine z_getI K clX12 k0 16 rfl rfl q1354 dX12_falls_60 ?_
  refine z_isub K dX12_falls_63 ?_
  obtain rfl := Option.some.inj h
  exact z_iret K dX12_falls_64
set_option maxRecDepth 100000 in
set_option maxHeartbeats 4000000 in
theorem wX12_falls_80 {X : Cx} {g : Gl} {l : Launch} {R : Rf} {a0 : Nat} (K : Ok X g l cX12_falls RX12 2 (some .int) rmX12_falls) (hR : Ty g R) (k0 : kd g a0 = 12) {r : Int32 × Mm} {e115 : Mm → Option (Int32 × Mm)} (he115 : ∀ (T : Mm), e115 T = some r → Zj X g 2 (QI X g r.1 R r.2) R T [some (.ref (g.2.2.1 a0)), none] [] 115) : ∀ (n : Nat) (T : Mm) (x1 : Int32), zl2 (pX12_falls_80 R a0 e115) n T x1 = some r → Zj X g 2 (QI X g r.1 R r.2) R T [some (.ref (g.2.2.1 a0)), some (.int x1)] [] 80 := by
  intro n
  induction n with
  | zero =>
    intro T x1 h
    exact absurd h (by simp [zl2])
  | succ n hr80 =>
    intro T x1 h
    rw [zl2_s] at h
    unfold pX12_falls_80 at h
    refine z_iload_n K dX12_falls_80 rfl ?_
    refine z_sipush K 270 dX12_falls_81 rfl ?_
    refine z_icmp_ge K 115 dX12_falls_84 (by decide) (fun c => ?_) (fun c => ?_)
    · have h := ite_t h c
      refine Zj.mask [true, false] ?_
      exact he115 _ h
    · have h := ite_f h c
      refine z_aload_n K dX12_falls_87 rfl ?_
      refine z_getR K clX12 k0 6 rfl rfl q1344 dX12_falls_88 ?_
      refine z_iload_n K dX12_falls_91 rfl ?_
      refine z_iload_n K dX12_falls_92 rfl ?_
      refine z_bipush K 80 dX12_falls_93 rfl ?_
      refine z_icmp_ge K 107 dX12_falls_95 (by decide) (fun c => ?_) (fun c => ?_)
      · have h := ite_t h c
        refine z_iconst K 0 dX12_falls_107 rfl ?_
        obtain ⟨hi, h⟩ := ix_e h
        refine z_iast K (hR.at (k := 6) (t := 20270) k0 rfl rfl) rfl rfl rfl hi dX12_falls_108 ?_
        refine z_iinc K 1 dX12_falls_109 rfl rfl rfl rfl ?_
        refine z_goto K 80 dX12_falls_112 (by decide) ?_
        refine Zj.mask [true, true] ?_
        exact hr80 _ _ h
      · have h := ite_f h c
        refine z_aload_n K dX12_falls_98 rfl ?_
        refine z_getR K clX12 k0 7 rfl rfl q1345 dX12_falls_99 ?_
        refine z_iload_n K dX12_falls_102 rfl ?_
        obtain ⟨hi, h⟩ := ix_e h
        refine z_iald K (hR.at (k := 7) (t := 20080) k0 rfl rfl) rfl rfl rfl hi dX12_falls_103 ?_
        refine z_goto K 108 dX12_falls_104 (by decide) ?_
        obtain ⟨hi, h⟩ := ix_e h
        refine z_iast K (hR.at (k := 6) (t := 20270) k0 rfl rfl) rfl rfl rfl hi dX12_falls_108 ?_
        refine z_iinc K 1 dX12_falls_109 rfl rfl rfl rfl ?_
        refine z_goto K 80 dX12_falls_112 (by decide) ?_
        refine Zj.mask [true, true] ?_
        exact hr80 _ _ h
set_option maxRecDepth 100000 in
set_option maxHeartbeats 4000000 in
theorem wX12_falls_117 {X : Cx} {g : Gl} {l : Launch} {R : Rf} {a0 : Nat} (K : Ok X g l cX12_falls RX12 2 (some .int) rmX12_falls) (hR : Ty g R) (k0 : kd g a0 = 12) {r : Int32 × Mm} {e144 : Mm → Option (Int32 × Mm)} (he144 : ∀ (T : Mm), e144 T = some r → Zj X g 2 (QI X g r.1 R r.2) R T [some (.ref (g.2.2.1 a0)), none] [] 144) : ∀ (n : Nat) (T : Mm) (x1 : Int32), zl2 (pX12_falls_117 R a0 e144) n T x1 = some r → Zj X g 2 (QI X g r.1 R r.2) R T [some (.ref (g.2.2.1 a0)), some (.int x1)] [] 117 := by
  intro n
  induction n with
  | zero =>
    intro T x1 h
    exact absurd h (by simp [zl2])
  | succ n hr117 =>
    intro T x1 h
    rw [zl2_s] at h
    unfold pX12_falls_117 at h
    refine z_iload_n K dX12_falls_117 rfl ?_
    refine z_bipush K 15 dX12_falls_118 rfl ?_
    refine z_icmp_ge K 144 dX12_falls_120 (by decide) (fun c => ?_) (fun c => ?_)
    · have h := ite_t h c
      refine Zj.mask [true, false] ?_
      exact he144 _ h
    · have h := ite_f h c
      refine z_aload_n K dX12_falls_123 rfl ?_
      refine z_getR K clX12 k0 9 rfl rfl q1347 dX12_falls_124 ?_
      refine z_iload_n K dX12_falls_127 rfl ?_
      refine z_aload_n K dX12_falls_128 rfl ?_
      refine z_getR K clX12 k0 9 rfl rfl q1347 dX12_falls_129 ?_
      refine z_bipush K 15 dX12_falls_132 rfl ?_
      refine z_iload_n K dX12_falls_134 rfl ?_
      refine z_iadd K dX12_falls_135 ?_
      obtain ⟨hi, h⟩ := ix_e h
      refine z_lald K (hR.at (k := 9) (t := 30030) k0 rfl rfl) rfl rfl rfl hi dX12_falls_136 ?_
      obtain ⟨hi, h⟩ := ix_e h
      refine z_last K (hR.at (k := 9) (t := 30030) k0 rfl rfl) rfl rfl rfl hi dX12_falls_137 ?_
      refine z_iinc K 1 dX12_falls_138 rfl rfl rfl rfl ?_
      refine z_goto K 117 dX12_falls_141 (by decide) ?_
      refine Zj.mask [true, true] ?_
      exact hr117 _ _ h
set_option maxRecDepth 100000 in
set_option maxHeartbeats 4000000 in
theorem wX12_falls_144 {X : Cx} {g : Gl} {l : Launch} {R : Rf} {a0 : Nat} (K : Ok X g l cX12_falls RX12 2 (some .int) rmX12_falls) (hR : Ty g R) (k0 : kd g a0 = 12) {r : Int32 × Mm} (T : Mm) (h : pX12_falls_144 R a0 T = some r) : Zj X g 2 (QI X g r.1 R r.2) R T [some (.ref (g.2.2.1 a0)), none] [] 144 := by
  unfold pX12_falls_144 at h
  refine z_aload_n K dX12_falls_144 rfl ?_
  refine z_getR K clX12 k0 6 rfl rfl q1344 dX12_falls_145 ?_
  refine z_bipush K 81 dX12_falls_148 rfl ?_
  refine z_iconst K 1 dX12_falls_150 rfl ?_
  refine z_aload_n K dX12_falls_151 rfl ?_
  refine z_getR K clX12 k0 6 rfl rfl q1344 dX12_falls_152 ?_
  refine z_iconst K 1 dX12_falls_155 rfl ?_
  obtain ⟨hi, h⟩ := ix_e h
  refine z_iald K (hR.at (k := 6) (t := 20270) k0 rfl rfl) rfl rfl rfl hi dX12_falls_156 ?_
  refine z_ishl K dX12_falls_157 ?_
  refine z_iconst K 1 dX12_falls_158 rfl ?_
  refine z_isub K dX12_falls_159 ?_
  obtain ⟨hi, h⟩ := ix_e h
  refine z_iast K (hR.at (k := 6) (t := 20270) k0 rfl rfl) rfl rfl rfl hi dX12_falls_160 ?_
  refine z_aload_n K dX12_falls_161 rfl ?_
  refine z_getR K clX12 k0 6 rfl rfl q1344 dX12_falls_162 ?_
  refine z_bipush K 82 dX12_falls_165 rfl ?_
  refine z_iconst K 1 dX12_falls_167 rfl ?_
  refine z_aload_n K dX12_falls_168 rfl ?_
  refine z_getR K clX12 k0 6 rfl rfl q1344 dX12_falls_169 ?_
  refine z_iconst K 2 dX12_falls_172 rfl ?_
  obtain ⟨hi, h⟩ := ix_e h
  refine z_iald K (hR.at (k := 6) (t := 20270) k0 rfl rfl) rfl rfl rfl hi dX12_falls_173 ?_
  refine z_ishl K dX12_falls_174 ?_
  refine z_iconst K 1 dX12_falls_175 rfl ?_
  refine z_isub K dX12_falls_176 ?_
  obtain ⟨hi, h⟩ := ix_e h
  refine z_iast K (hR.at (k := 6) (t := 20270) k0 rfl rfl) rfl rfl rfl hi dX12_falls_177 ?_
  refine z_aload_n K dX12_falls_178 rfl ?_
  refine z_iconst K 0 dX12_falls_179 rfl ?_
  refine z_putI K clX12 tyX12_ok nmX12 k0 23 rfl rfl q1361 rfl rfl rfl dX12_falls_180 ?_
  refine z_aload_n K dX12_falls_183 rfl ?_
  refine z_getI K clX12 k0 19 rfl rfl q1357 dX12_falls_184 ?_
  obtain rfl := Option.some.inj h
  exact z_iret K dX12_falls_187
set_option maxRecDepth 100000 in
set_option maxHeartbeats 4000000 in
theorem wX12_falls_115 {X : Cx} {g : Gl} {l : Launch} {R : Rf} {a0 : Nat} (K : Ok X g l cX12_falls RX12 2 (some .int) rmX12_falls) (hR : Ty g R) (k0 : kd g a0 = 12) {r : Int32 × Mm} (T : Mm) (h : pX12_falls_115 R a0 T = some r) : Zj X g 2 (QI X g r.1 R r.2) R T [some (.ref (g.2.2.1 a0)), none] [] 115 := by
  unfold pX12_falls_115 at h
  refine z_iconst K 0 dX12_falls_115 rfl ?_
  refine z_istore_n K dX12_falls_116 rfl rfl ?_
  refine Zj.mask [true, true] ?_
  exact wX12_falls_117 K hR k0 (wX12_falls_144 K hR k0) FU _ _ h
set_option maxRecDepth 100000 in
set_option maxHeartbeats 4000000 in
theorem wX12_falls_78 {X : Cx} {g : Gl} {l : Launch} {R : Rf} {a0 : Nat} (K : Ok X g l cX12_falls RX12 2 (some .int) rmX12_falls) (hR : Ty g R) (k0 : kd g a0 = 12) {r : Int32 × Mm} (T : Mm) (h : pX12_falls_78 R a0 T = some r) : Zj X g 2 (QI X g r.1 R r.2) R T [some (.ref (g.2.2.1 a0)), none] [] 78 := by
  unfold pX12_falls_78 at h
  refine z_iconst K 0 dX12_falls_78 rfl ?_
  refine z_istore_n K dX12_falls_79 rfl rfl ?_
  refine Zj.mask [true, true] ?_
  exact wX12_falls_80 K hR k0 (wX12_falls_115 K hR k0) FU _ _ h
set_option maxRecDepth 100000 in
set_option maxHeartbeats 4000000 in
theorem mX12_falls {g : Gl} {R : Rf} {T : Mm} {a0 : Nat} (l : Launch) (hR : Ty g R) (k0 : kd g a0 = 12) {r : Int32 × Mm} (h : pX12_falls R T a0 = some r) : MI l g yX12_falls cX12_falls 2 (some .int) rmX12_falls [.ref (g.2.2.1 a0)] R T r.1 R r.2 := by
  refine z_metI (own := RX12) (lv := [some (.ref (g.2.2.1 a0)), none]) (by decide +kernel) rfl rfl rfl (fun X K => ?_)
  unfold pX12_falls at h
  refine z_aload_n K dX12_falls_0 rfl ?_
  refine z_iconst K 0 dX12_falls_1 rfl ?_
  refine z_putI K clX12 tyX12_ok nmX12 k0 0 rfl rfl q1338 rfl rfl rfl dX12_falls_2 ?_
  refine z_aload_n K dX12_falls_5 rfl ?_
  refine z_sipush K 900 dX12_falls_6 rfl ?_
  obtain ⟨T2, hc, h⟩ := bd1_e h
  refine z_callVV K (mX12_taken l hR k0 hc) clX12 k0 ceX12_taken q1494 ⟨rfl, rfl, rfl, rfl⟩ rfl rfl rfl dX12_falls_9 ?_
  refine z_aload_n K dX12_falls_12 rfl ?_
  refine z_iconst K 0 dX12_falls_13 rfl ?_
  refine z_putI K clX12 tyX12_ok nmX12 k0 15 rfl rfl q1353 rfl rfl rfl dX12_falls_14 ?_
  refine z_aload_n K dX12_falls_17 rfl ?_
  refine z_iconst K 0 dX12_falls_18 rfl ?_
  refine z_putI K clX12 tyX12_ok nmX12 k0 19 rfl rfl q1357 rfl rfl rfl dX12_falls_19 ?_
  refine z_aload_n K dX12_falls_22 rfl ?_
  refine z_iconst K 0 dX12_falls_23 rfl ?_
  refine z_putI K clX12 tyX12_ok nmX12 k0 20 rfl rfl q1358 rfl rfl rfl dX12_falls_24 ?_
  refine z_aload_n K dX12_falls_27 rfl ?_
  obtain ⟨T6, hc, h⟩ := bd1_e h
  refine z_callVV K (mX12_clears l hR k0 hc) clX12 k0 ceX12_clears q1334 ⟨rfl, rfl, rfl, rfl⟩ rfl rfl rfl dX12_falls_28 ?_
  refine z_aload_n K dX12_falls_31 rfl ?_
  obtain ⟨T7, hc, h⟩ := bd1_e h
  refine z_callVV K (mX12_next l hR k0 hc) clX12 k0 ceX12_next q1498 ⟨rfl, rfl, rfl, rfl⟩ rfl rfl rfl dX12_falls_32 ?_
  refine Zj.mask [true, false] ?_
  exact wX12_falls_35 K hR k0 (wX12_falls_58 K hR k0) (wX12_falls_78 K hR k0) FU _ h
/-! GoingOverModel.fault ()I -/
abbrev rmX12_fault : Room := { frames := 0, cells := 0, slots := 0, locals := 0 }
def pX12_fault (R : Rf) (T : Mm) (a0 : Nat) : Option (Int32 × Mm) :=
  lt (wI T a0 0 0) (fun (T1 : Mm) => some (T1.1 a0 15, T1))
set_option maxRecDepth 100000 in
set_option maxHeartbeats 4000000 in
theorem mX12_fault {g : Gl} {R : Rf} {T : Mm} {a0 : Nat} (l : Launch) (hR : Ty g R) (k0 : kd g a0 = 12) {r : Int32 × Mm} (h : pX12_fault R T a0 = some r) : MI l g yX12_fault cX12_fault 1 (some .int) rmX12_fault [.ref (g.2.2.1 a0)] R T r.1 R r.2 := by
  refine z_metI (own := RX12) (lv := [some (.ref (g.2.2.1 a0))]) (by decide +kernel) rfl rfl rfl (fun X K => ?_)
  unfold pX12_fault at h
  refine z_aload_n K dX12_fault_0 rfl ?_
  refine z_iconst K 0 dX12_fault_1 rfl ?_
  refine z_putI K clX12 tyX12_ok nmX12 k0 0 rfl rfl q1338 rfl rfl rfl dX12_fault_2 ?_
  refine z_aload_n K dX12_fault_5 rfl ?_
  refine z_getI K clX12 k0 15 rfl rfl q1353 dX12_fault_6 ?_
  obtain rfl := Option.some.inj h
  exact z_iret K dX12_fault_9
/-! GoingOverModel.isPerson (I)Z -/
abbrev rmX12_isPerson : Room := { frames := 1, cells := 0, slots := 0, locals := 22 }
def pX12_isPerson (R : Rf) (T : Mm) (a0 : Nat) (x1 : Int32) : Option (Int32) :=
  ix 0 270 (bd1 (pX12_isIn R T x1 0 ((T.1 (R a0 6) (0 : Int32).toNatClampNeg) - 1)) (fun (u1 : Int32) => bz u1 (some u1)))
set_option maxRecDepth 100000 in
set_option maxHeartbeats 4000000 in
theorem mX12_isPerson {g : Gl} {R : Rf} {T : Mm} {a0 : Nat} {x1 : Int32} (l : Launch) (hR : Ty g R) (k0 : kd g a0 = 12) {r : Int32} (h : pX12_isPerson R T a0 x1 = some r) : MI l g yX12_isPerson cX12_isPerson 2 (some .boolean) rmX12_isPerson [.ref (g.2.2.1 a0), .int x1] R T r R T := by
  refine z_metI (own := RX12) (lv := [some (.ref (g.2.2.1 a0)), some (.int x1)]) (by decide +kernel) rfl rfl rfl (fun X K => ?_)
  unfold pX12_isPerson at h
  refine z_iload_n K dX12_isPerson_0 rfl ?_
  refine z_iconst K 0 dX12_isPerson_1 rfl ?_
  refine z_aload_n K dX12_isPerson_2 rfl ?_
  refine z_getR K clX12 k0 6 rfl rfl q1344 dX12_isPerson_3 ?_
  refine z_iconst K 0 dX12_isPerson_6 rfl ?_
  obtain ⟨hi, h⟩ := ix_e h
  refine z_iald K (hR.at (k := 6) (t := 20270) k0 rfl rfl) rfl rfl rfl hi dX12_isPerson_7 ?_
  refine z_iconst K 1 dX12_isPerson_8 rfl ?_
  refine z_isub K dX12_isPerson_9 ?_
  obtain ⟨u1, hc, h⟩ := bd1_e h
  refine z_callSI K (mX12_isIn l hR hc) ceX12_isIn q1539 ⟨rfl, rfl, rfl, rfl⟩ rfl rfl rfl dX12_isPerson_10 ?_
  obtain ⟨hz, hf, h⟩ := bz_e h
  obtain rfl := Option.some.inj h
  exact z_zret K hz dX12_isPerson_13
/-! GoingOverModel.isItem (I)Z -/
abbrev rmX12_isItem : Room := { frames := 1, cells := 0, slots := 0, locals := 22 }
def pX12_isItem (R : Rf) (T : Mm) (a0 : Nat) (x1 : Int32) : Option (Int32) :=
  ix 1 270 (bd1 (pX12_isIn R T x1 0 ((T.1 (R a0 6) (1 : Int32).toNatClampNeg) - 1)) (fun (u1 : Int32) => bz u1 (some u1)))
set_option maxRecDepth 100000 in
set_option maxHeartbeats 4000000 in
theorem mX12_isItem {g : Gl} {R : Rf} {T : Mm} {a0 : Nat} {x1 : Int32} (l : Launch) (hR : Ty g R) (k0 : kd g a0 = 12) {r : Int32} (h : pX12_isItem R T a0 x1 = some r) : MI l g yX12_isItem cX12_isItem 2 (some .boolean) rmX12_isItem [.ref (g.2.2.1 a0), .int x1] R T r R T := by
  refine z_metI (own := RX12) (lv := [some (.ref (g.2.2.1 a0)), some (.int x1)]) (by decide +kernel) rfl rfl rfl (fun X K => ?_)
  unfold pX12_isItem at h
  refine z_iload_n K dX12_isItem_0 rfl ?_
  refine z_iconst K 0 dX12_isItem_1 rfl ?_
  refine z_aload_n K dX12_isItem_2 rfl ?_
  refine z_getR K clX12 k0 6 rfl rfl q1344 dX12_isItem_3 ?_
  refine z_iconst K 1 dX12_isItem_6 rfl ?_
  obtain ⟨hi, h⟩ := ix_e h
  refine z_iald K (hR.at (k := 6) (t := 20270) k0 rfl rfl) rfl rfl rfl hi dX12_isItem_7 ?_
  refine z_iconst K 1 dX12_isItem_8 rfl ?_
  refine z_isub K dX12_isItem_9 ?_
  obtain ⟨u1, hc, h⟩ := bd1_e h
  refine z_callSI K (mX12_isIn l hR hc) ceX12_isIn q1539 ⟨rfl, rfl, rfl, rfl⟩ rfl rfl rfl dX12_isItem_10 ?_
  obtain ⟨hz, hf, h⟩ := bz_e h
  obtain rfl := Option.some.inj h
  exact z_zret K hz dX12_isItem_13
/-! GoingOverModel.isJoin (I)Z -/
abbrev rmX12_isJoin : Room := { frames := 1, cells := 0, slots := 0, locals := 22 }
def pX12_isJoin (R : Rf) (T : Mm) (a0 : Nat) (x1 : Int32) : Option (Int32) :=
  ix 2 270 (bd1 (pX12_isIn R T x1 0 ((T.1 (R a0 6) (2 : Int32).toNatClampNeg) - 1)) (fun (u1 : Int32) => bz u1 (some u1)))
set_option maxRecDepth 100000 in
set_option maxHeartbeats 4000000 in
theorem mX12_isJoin {g : Gl} {R : Rf} {T : Mm} {a0 : Nat} {x1 : Int32} (l : Launch) (hR : Ty g R) (k0 : kd g a0 = 12) {r : Int32} (h : pX12_isJoin R T a0 x1 = some r) : MI l g yX12_isJoin cX12_isJoin 2 (some .boolean) rmX12_isJoin [.ref (g.2.2.1 a0), .int x1] R T r R T := by
  refine z_metI (own := RX12) (lv := [some (.ref (g.2.2.1 a0)), some (.int x1)]) (by decide +kernel) rfl rfl rfl (fun X K => ?_)
  unfold pX12_isJoin at h
  refine z_iload_n K dX12_isJoin_0 rfl ?_
  refine z_iconst K 0 dX12_isJoin_1 rfl ?_
  refine z_aload_n K dX12_isJoin_2 rfl ?_
  refine z_getR K clX12 k0 6 rfl rfl q1344 dX12_isJoin_3 ?_
  refine z_iconst K 2 dX12_isJoin_6 rfl ?_
  obtain ⟨hi, h⟩ := ix_e h
  refine z_iald K (hR.at (k := 6) (t := 20270) k0 rfl rfl) rfl rfl rfl hi dX12_isJoin_7 ?_
  refine z_iconst K 1 dX12_isJoin_8 rfl ?_
  refine z_isub K dX12_isJoin_9 ?_
  obtain ⟨u1, hc, h⟩ := bd1_e h
  refine z_callSI K (mX12_isIn l hR hc) ceX12_isIn q1539 ⟨rfl, rfl, rfl, rfl⟩ rfl rfl rfl dX12_isJoin_10 ?_
  obtain ⟨hz, hf, h⟩ := bz_e h
  obtain rfl := Option.some.inj h
  exact z_zret K hz dX12_isJoin_13
/-! GoingOverModel.allOf (I)I -/
abbrev rmX12_allOf : Room := { frames := 0, cells := 0, slots := 0, locals := 0 }
def pX12_allOf_4 (R : Rf) (T : Mm) (a0 : Nat) (x1 : Int32) (e43 : Int32 → Option (Int32)) (r4 : Int32 → Int32 → Option (Int32)) (x2 : Int32) (x3 : Int32) : Option (Int32) :=
  ix 1 270 (if (T.1 (R a0 6) (1 : Int32).toNatClampNeg) ≤ x3 then e43 x2 else ix (12 + x3) 270 (if (T.1 (R a0 6) (12 + x3).toNatClampNeg) = x1 then lt (x2 ||| (1 <<< (x3 &&& 31))) (fun (v3 : Int32) => lt (x3 + 1) (fun (v4 : Int32) => r4 v3 v4)) else lt (x2 ||| 0) (fun (v1 : Int32) => lt (x3 + 1) (fun (v2 : Int32) => r4 v1 v2))))
def pX12_allOf_43 (R : Rf) (T : Mm) (a0 : Nat) (x1 : Int32) (x2 : Int32) : Option (Int32) :=
  some x2
def pX12_allOf (R : Rf) (T : Mm) (a0 : Nat) (x1 : Int32) : Option (Int32) :=
  zl2 (pX12_allOf_4 R T a0 x1 (pX12_allOf_43 R T a0 x1)) FU 0 0
set_option maxRecDepth 100000 in
set_option maxHeartbeats 4000000 in
theorem wX12_allOf_4 {X : Cx} {g : Gl} {l : Launch} {R : Rf} {T : Mm} {a0 : Nat} {x1 : Int32} (K : Ok X g l cX12_allOf RX12 4 (some .int) rmX12_allOf) (hR : Ty g R) (k0 : kd g a0 = 12) {r : Int32} {e43 : Int32 → Option (Int32)} (he43 : ∀ (x2 : Int32), e43 x2 = some r → Zj X g 4 (QI X g r R T) R T [none, none, some (.int x2), none] [] 43) : ∀ (n : Nat) (x2 : Int32) (x3 : Int32), zl2 (pX12_allOf_4 R T a0 x1 e43) n x2 x3 = some r → Zj X g 4 (QI X g r R T) R T [some (.ref (g.2.2.1 a0)), some (.int x1), some (.int x2), some (.int x3)] [] 4 := by
  intro n
  induction n with
  | zero =>
    intro x2 x3 h
    exact absurd h (by simp [zl2])
  | succ n hr4 =>
    intro x2 x3 h
    rw [zl2_s] at h
    unfold pX12_allOf_4 at h
    refine z_iload_n K dX12_allOf_4 rfl ?_
    refine z_aload_n K dX12_allOf_5 rfl ?_
    refine z_getR K clX12 k0 6 rfl rfl q1344 dX12_allOf_6 ?_
    refine z_iconst K 1 dX12_allOf_9 rfl ?_
    obtain ⟨hi, h⟩ := ix_e h
    refine z_iald K (hR.at (k := 6) (t := 20270) k0 rfl rfl) rfl rfl rfl hi dX12_allOf_10 ?_
    refine z_icmp_ge K 43 dX12_allOf_11 (by decide) (fun c => ?_) (fun c => ?_)
    · have h := ite_t h c
      refine Zj.mask [false, false, true, false] ?_
      exact he43 _ h
    · have h := ite_f h c
      refine z_iload_n K dX12_allOf_14 rfl ?_
      refine z_aload_n K dX12_allOf_15 rfl ?_
      refine z_getR K clX12 k0 6 rfl rfl q1344 dX12_allOf_16 ?_
      refine z_bipush K 12 dX12_allOf_19 rfl ?_
      refine z_iload_n K dX12_allOf_21 rfl ?_
      refine z_iadd K dX12_allOf_22 ?_
      obtain ⟨hi, h⟩ := ix_e h
      refine z_iald K (hR.at (k := 6) (t := 20270) k0 rfl rfl) rfl rfl rfl hi dX12_allOf_23 ?_
      refine z_iload_n K dX12_allOf_24 rfl ?_
      refine z_icmp_ne K 34 dX12_allOf_25 (by decide) (fun c => ?_) (fun c => ?_)
      · have h := ite_f h c
        refine z_iconst K 0 dX12_allOf_34 rfl ?_
        refine z_ior K dX12_allOf_35 ?_
        refine z_istore_n K dX12_allOf_36 rfl rfl ?_
        refine z_iinc K 1 dX12_allOf_37 rfl rfl rfl rfl ?_
        refine z_goto K 4 dX12_allOf_40 (by decide) ?_
        refine Zj.mask [true, true, true, true] ?_
        exact hr4 _ _ h
      · have h := ite_t h c
        refine z_iconst K 1 dX12_allOf_28 rfl ?_
        refine z_iload_n K dX12_allOf_29 rfl ?_
        refine z_ishl K dX12_allOf_30 ?_
        refine z_goto K 35 dX12_allOf_31 (by decide) ?_
        refine z_ior K dX12_allOf_35 ?_
        refine z_istore_n K dX12_allOf_36 rfl rfl ?_
        refine z_iinc K 1 dX12_allOf_37 rfl rfl rfl rfl ?_
        refine z_goto K 4 dX12_allOf_40 (by decide) ?_
        refine Zj.mask [true, true, true, true] ?_
        exact hr4 _ _ h
set_option maxRecDepth 100000 in
set_option maxHeartbeats 4000000 in
theorem wX12_allOf_43 {X : Cx} {g : Gl} {l : Launch} {R : Rf} {T : Mm} {a0 : Nat} {x1 : Int32} (K : Ok X g l cX12_allOf RX12 4 (some .int) rmX12_allOf) (hR : Ty g R) (k0 : kd g a0 = 12) {r : Int32} (x2 : Int32) (h : pX12_allOf_43 R T a0 x1 x2 = some r) : Zj X g 4 (QI X g r R T) R T [none, none, some (.int x2), none] [] 43 := by
  unfold pX12_allOf_43 at h
  refine z_iload_n K dX12_allOf_43 rfl ?_
  obtain rfl := Option.some.inj h
  exact z_iret K dX12_allOf_44
set_option maxRecDepth 100000 in
set_option maxHeartbeats 4000000 in
theorem mX12_allOf {g : Gl} {R : Rf} {T : Mm} {a0 : Nat} {x1 : Int32} (l : Launch) (hR : Ty g R) (k0 : kd g a0 = 12) {r : Int32} (h : pX12_allOf R T a0 x1 = some r) : MI l g yX12_allOf cX12_allOf 4 (some .int) rmX12_allOf [.ref (g.2.2.1 a0), .int x1] R T r R T := by
  refine z_metI (own := RX12) (lv := [some (.ref (g.2.2.1 a0)), some (.int x1), none, none]) (by decide +kernel) rfl rfl rfl (fun X K => ?_)
  unfold pX12_allOf at h
  refine z_iconst K 0 dX12_allOf_0 rfl ?_
  refine z_istore_n K dX12_allOf_1 rfl rfl ?_
  refine z_iconst K 0 dX12_allOf_2 rfl ?_
  refine z_istore_n K dX12_allOf_3 rfl rfl ?_
  refine Zj.mask [true, true, true, true] ?_
  exact wX12_allOf_4 K hR k0 (wX12_allOf_43 K hR k0) FU _ _ h
/-! GoingOverModel.barrelOf (I)I -/
abbrev rmX12_barrelOf : Room := { frames := 1, cells := 0, slots := 0, locals := 23 }
def pX12_barrelOf (R : Rf) (T : Mm) (a0 : Nat) (x1 : Int32) : Option (Int32) :=
  bd1 (pX12_allOf R T a0 x1) (fun (u1 : Int32) => ix 81 270 (some (u1 &&& (T.1 (R a0 6) (81 : Int32).toNatClampNeg))))
set_option maxRecDepth 100000 in
set_option maxHeartbeats 4000000 in
theorem mX12_barrelOf {g : Gl} {R : Rf} {T : Mm} {a0 : Nat} {x1 : Int32} (l : Launch) (hR : Ty g R) (k0 : kd g a0 = 12) {r : Int32} (h : pX12_barrelOf R T a0 x1 = some r) : MI l g yX12_barrelOf cX12_barrelOf 2 (some .int) rmX12_barrelOf [.ref (g.2.2.1 a0), .int x1] R T r R T := by
  refine z_metI (own := RX12) (lv := [some (.ref (g.2.2.1 a0)), some (.int x1)]) (by decide +kernel) rfl rfl rfl (fun X K => ?_)
  unfold pX12_barrelOf at h
  refine z_aload_n K dX12_barrelOf_0 rfl ?_
  refine z_iload_n K dX12_barrelOf_1 rfl ?_
  obtain ⟨u1, hc, h⟩ := bd1_e h
  refine z_callVI K (mX12_allOf l hR k0 hc) clX12 k0 ceX12_allOf q1606 ⟨rfl, rfl, rfl, rfl⟩ rfl rfl rfl dX12_barrelOf_2 ?_
  refine z_aload_n K dX12_barrelOf_5 rfl ?_
  refine z_getR K clX12 k0 6 rfl rfl q1344 dX12_barrelOf_6 ?_
  refine z_bipush K 81 dX12_barrelOf_9 rfl ?_
  obtain ⟨hi, h⟩ := ix_e h
  refine z_iald K (hR.at (k := 6) (t := 20270) k0 rfl rfl) rfl rfl rfl hi dX12_barrelOf_11 ?_
  refine z_iand K dX12_barrelOf_12 ?_
  obtain rfl := Option.some.inj h
  exact z_iret K dX12_barrelOf_13
/-! GoingOverModel.weighsIn (I)I -/
abbrev rmX12_weighsIn : Room := { frames := 1, cells := 0, slots := 0, locals := 21 }
def pX12_weighsIn_4 (R : Rf) (T : Mm) (a0 : Nat) (x1 : Int32) (e44 : Int32 → Option (Int32)) (r4 : Int32 → Int32 → Option (Int32)) (x2 : Int32) (x3 : Int32) : Option (Int32) :=
  ix 1 270 (if (T.1 (R a0 6) (1 : Int32).toNatClampNeg) ≤ x3 then e44 x2 else bd1 (pX12_bitOf R T x1 x3) (fun (u1 : Int32) => if u1 = 0 then lt (x2 + 0) (fun (v2 : Int32) => lt (x3 + 1) (fun (v3 : Int32) => r4 v2 v3)) else ix (22 + x3) 270 (lt (x2 + (T.1 (R a0 6) (22 + x3).toNatClampNeg)) (fun (v4 : Int32) => lt (x3 + 1) (fun (v5 : Int32) => r4 v4 v5)))))
def pX12_weighsIn_44 (R : Rf) (T : Mm) (a0 : Nat) (x1 : Int32) (x2 : Int32) : Option (Int32) :=
  some x2
def pX12_weighsIn (R : Rf) (T : Mm) (a0 : Nat) (x1 : Int32) : Option (Int32) :=
  zl2 (pX12_weighsIn_4 R T a0 x1 (pX12_weighsIn_44 R T a0 x1)) FU 0 0
set_option maxRecDepth 100000 in
set_option maxHeartbeats 4000000 in
theorem wX12_weighsIn_4 {X : Cx} {g : Gl} {l : Launch} {R : Rf} {T : Mm} {a0 : Nat} {x1 : Int32} (K : Ok X g l cX12_weighsIn RX12 4 (some .int) rmX12_weighsIn) (hR : Ty g R) (k0 : kd g a0 = 12) {r : Int32} {e44 : Int32 → Option (Int32)} (he44 : ∀ (x2 : Int32), e44 x2 = some r → Zj X g 4 (QI X g r R T) R T [none, none, some (.int x2), none] [] 44) : ∀ (n : Nat) (x2 : Int32) (x3 : Int32), zl2 (pX12_weighsIn_4 R T a0 x1 e44) n x2 x3 = some r → Zj X g 4 (QI X g r R T) R T [some (.ref (g.2.2.1 a0)), some (.int x1), some (.int x2), some (.int x3)] [] 4 := by
  intro n
  induction n with
  | zero =>
    intro x2 x3 h
    exact absurd h (by simp [zl2])
  | succ n hr4 =>
    intro x2 x3 h
    rw [zl2_s] at h
    unfold pX12_weighsIn_4 at h
    refine z_iload_n K dX12_weighsIn_4 rfl ?_
    refine z_aload_n K dX12_weighsIn_5 rfl ?_
    refine z_getR K clX12 k0 6 rfl rfl q1344 dX12_weighsIn_6 ?_
    refine z_iconst K 1 dX12_weighsIn_9 rfl ?_
    obtain ⟨hi, h⟩ := ix_e h
    refine z_iald K (hR.at (k := 6) (t := 20270) k0 rfl rfl) rfl rfl rfl hi dX12_weighsIn_10 ?_
    refine z_icmp_ge K 44 dX12_weighsIn_11 (by decide) (fun c => ?_) (fun c => ?_)
    · have h := ite_t h c
      refine Zj.mask [false, false, true, false] ?_
      exact he44 _ h
    · have h := ite_f h c
      refine z_iload_n K dX12_weighsIn_14 rfl ?_
      refine z_iload_n K dX12_weighsIn_15 rfl ?_
      refine z_iload_n K dX12_weighsIn_16 rfl ?_
      obtain ⟨u1, hc, h⟩ := bd1_e h
      refine z_callSI K (mX12_bitOf l hR hc) ceX12_bitOf q1524 ⟨rfl, rfl, rfl, rfl⟩ rfl rfl rfl dX12_weighsIn_17 ?_
      refine z_if_eq K 35 dX12_weighsIn_20 (by decide) (fun c => ?_) (fun c => ?_)
      · have h := ite_t h c
        refine z_iconst K 0 dX12_weighsIn_35 rfl ?_
        refine z_iadd K dX12_weighsIn_36 ?_
        refine z_istore_n K dX12_weighsIn_37 rfl rfl ?_
        refine z_iinc K 1 dX12_weighsIn_38 rfl rfl rfl rfl ?_
        refine z_goto K 4 dX12_weighsIn_41 (by decide) ?_
        refine Zj.mask [true, true, true, true] ?_
        exact hr4 _ _ h
      · have h := ite_f h c
        refine z_aload_n K dX12_weighsIn_23 rfl ?_
        refine z_getR K clX12 k0 6 rfl rfl q1344 dX12_weighsIn_24 ?_
        refine z_bipush K 22 dX12_weighsIn_27 rfl ?_
        refine z_iload_n K dX12_weighsIn_29 rfl ?_
        refine z_iadd K dX12_weighsIn_30 ?_
        obtain ⟨hi, h⟩ := ix_e h
        refine z_iald K (hR.at (k := 6) (t := 20270) k0 rfl rfl) rfl rfl rfl hi dX12_weighsIn_31 ?_
        refine z_goto K 36 dX12_weighsIn_32 (by decide) ?_
        refine z_iadd K dX12_weighsIn_36 ?_
        refine z_istore_n K dX12_weighsIn_37 rfl rfl ?_
        refine z_iinc K 1 dX12_weighsIn_38 rfl rfl rfl rfl ?_
        refine z_goto K 4 dX12_weighsIn_41 (by decide) ?_
        refine Zj.mask [true, true, true, true] ?_
        exact hr4 _ _ h
set_option maxRecDepth 100000 in
set_option maxHeartbeats 4000000 in
theorem wX12_weighsIn_44 {X : Cx} {g : Gl} {l : Launch} {R : Rf} {T : Mm} {a0 : Nat} {x1 : Int32} (K : Ok X g l cX12_weighsIn RX12 4 (some .int) rmX12_weighsIn) (hR : Ty g R) (k0 : kd g a0 = 12) {r : Int32} (x2 : Int32) (h : pX12_weighsIn_44 R T a0 x1 x2 = some r) : Zj X g 4 (QI X g r R T) R T [none, none, some (.int x2), none] [] 44 := by
  unfold pX12_weighsIn_44 at h
  refine z_iload_n K dX12_weighsIn_44 rfl ?_
  obtain rfl := Option.some.inj h
  exact z_iret K dX12_weighsIn_45
set_option maxRecDepth 100000 in
set_option maxHeartbeats 4000000 in
theorem mX12_weighsIn {g : Gl} {R : Rf} {T : Mm} {a0 : Nat} {x1 : Int32} (l : Launch) (hR : Ty g R) (k0 : kd g a0 = 12) {r : Int32} (h : pX12_weighsIn R T a0 x1 = some r) : MI l g yX12_weighsIn cX12_weighsIn 4 (some .int) rmX12_weighsIn [.ref (g.2.2.1 a0), .int x1] R T r R T := by
  refine z_metI (own := RX12) (lv := [some (.ref (g.2.2.1 a0)), some (.int x1), none, none]) (by decide +kernel) rfl rfl rfl (fun X K => ?_)
  unfold pX12_weighsIn at h
  refine z_iconst K 0 dX12_weighsIn_0 rfl ?_
  refine z_istore_n K dX12_weighsIn_1 rfl rfl ?_
  refine z_iconst K 0 dX12_weighsIn_2 rfl ?_
  refine z_istore_n K dX12_weighsIn_3 rfl rfl ?_
  refine Zj.mask [true, true, true, true] ?_
  exact wX12_weighsIn_4 K hR k0 (wX12_weighsIn_44 K hR k0) FU _ _ h
/-! GoingOverModel.weightOf (I)I -/
abbrev rmX12_weightOf : Room := { frames := 2, cells := 0, slots := 0, locals := 44 }
def pX12_weightOf (R : Rf) (T : Mm) (a0 : Nat) (x1 : Int32) : Option (Int32) :=
  bd1 (pX12_barrelOf R T a0 x1) (fun (u1 : Int32) => bd1 (pX12_weighsIn R T a0 u1) (fun (u2 : Int32) => some u2))
set_option maxRecDepth 100000 in
set_option maxHeartbeats 4000000 in
theorem mX12_weightOf {g : Gl} {R : Rf} {T : Mm} {a0 : Nat} {x1 : Int32} (l : Launch) (hR : Ty g R) (k0 : kd g a0 = 12) {r : Int32} (h : pX12_weightOf R T a0 x1 = some r) : MI l g yX12_weightOf cX12_weightOf 2 (some .int) rmX12_weightOf [.ref (g.2.2.1 a0), .int x1] R T r R T := by
  refine z_metI (own := RX12) (lv := [some (.ref (g.2.2.1 a0)), some (.int x1)]) (by decide +kernel) rfl rfl rfl (fun X K => ?_)
  unfold pX12_weightOf at h
  refine z_aload_n K dX12_weightOf_0 rfl ?_
  refine z_aload_n K dX12_weightOf_1 rfl ?_
  refine z_iload_n K dX12_weightOf_2 rfl ?_
  obtain ⟨u1, hc, h⟩ := bd1_e h
  refine z_callVI K (mX12_barrelOf l hR k0 hc) clX12 k0 ceX12_barrelOf q1602 ⟨rfl, rfl, rfl, rfl⟩ rfl rfl rfl dX12_weightOf_3 ?_
  obtain ⟨u2, hc, h⟩ := bd1_e h
  refine z_callVI K (mX12_weighsIn l hR k0 hc) clX12 k0 ceX12_weighsIn q1610 ⟨rfl, rfl, rfl, rfl⟩ rfl rfl rfl dX12_weightOf_6 ?_
  obtain rfl := Option.some.inj h
  exact z_iret K dX12_weightOf_9
/-! GoingOverModel.flowOn (I)I -/
abbrev rmX12_flowOn : Room := { frames := 0, cells := 0, slots := 0, locals := 0 }
def pX12_flowOn (R : Rf) (T : Mm) (a0 : Nat) (x1 : Int32) : Option (Int32) :=
  ix 4 270 (ix 5 270 (if (T.1 (R a0 6) (5 : Int32).toNatClampNeg) ≤ 0 then some ((T.1 (R a0 6) (4 : Int32).toNatClampNeg) + 0) else ix 5 270 (nz (T.1 (R a0 6) (5 : Int32).toNatClampNeg) (if (x1 - x1 / (T.1 (R a0 6) (5 : Int32).toNatClampNeg) * (T.1 (R a0 6) (5 : Int32).toNatClampNeg)) = 0 then ix 6 270 (some ((T.1 (R a0 6) (4 : Int32).toNatClampNeg) + (T.1 (R a0 6) (6 : Int32).toNatClampNeg))) else some ((T.1 (R a0 6) (4 : Int32).toNatClampNeg) + 0)))))
set_option maxRecDepth 100000 in
set_option maxHeartbeats 4000000 in
theorem mX12_flowOn {g : Gl} {R : Rf} {T : Mm} {a0 : Nat} {x1 : Int32} (l : Launch) (hR : Ty g R) (k0 : kd g a0 = 12) {r : Int32} (h : pX12_flowOn R T a0 x1 = some r) : MI l g yX12_flowOn cX12_flowOn 2 (some .int) rmX12_flowOn [.ref (g.2.2.1 a0), .int x1] R T r R T := by
  refine z_metI (own := RX12) (lv := [some (.ref (g.2.2.1 a0)), some (.int x1)]) (by decide +kernel) rfl rfl rfl (fun X K => ?_)
  unfold pX12_flowOn at h
  refine z_aload_n K dX12_flowOn_0 rfl ?_
  refine z_getR K clX12 k0 6 rfl rfl q1344 dX12_flowOn_1 ?_
  refine z_iconst K 4 dX12_flowOn_4 rfl ?_
  obtain ⟨hi, h⟩ := ix_e h
  refine z_iald K (hR.at (k := 6) (t := 20270) k0 rfl rfl) rfl rfl rfl hi dX12_flowOn_5 ?_
  refine z_aload_n K dX12_flowOn_6 rfl ?_
  refine z_getR K clX12 k0 6 rfl rfl q1344 dX12_flowOn_7 ?_
  refine z_iconst K 5 dX12_flowOn_10 rfl ?_
  obtain ⟨hi, h⟩ := ix_e h
  refine z_iald K (hR.at (k := 6) (t := 20270) k0 rfl rfl) rfl rfl rfl hi dX12_flowOn_11 ?_
  refine z_if_le K 36 dX12_flowOn_12 (by decide) (fun c => ?_) (fun c => ?_)
  · have h := ite_t h c
    refine z_iconst K 0 dX12_flowOn_36 rfl ?_
    refine z_iadd K dX12_flowOn_37 ?_
    obtain rfl := Option.some.inj h
    exact z_iret K dX12_flowOn_38
  · have h := ite_f h c
    refine z_iload_n K dX12_flowOn_15 rfl ?_
    refine z_aload_n K dX12_flowOn_16 rfl ?_
    refine z_getR K clX12 k0 6 rfl rfl q1344 dX12_flowOn_17 ?_
    refine z_iconst K 5 dX12_flowOn_20 rfl ?_
    obtain ⟨hi, h⟩ := ix_e h
    refine z_iald K (hR.at (k := 6) (t := 20270) k0 rfl rfl) rfl rfl rfl hi dX12_flowOn_21 ?_
    obtain ⟨hz, h⟩ := nz_e h
    refine z_irem K dX12_flowOn_22 hz ?_
    refine z_if_ne K 36 dX12_flowOn_23 (by decide) (fun c => ?_) (fun c => ?_)
    · have h := ite_f h c
      refine z_iconst K 0 dX12_flowOn_36 rfl ?_
      refine z_iadd K dX12_flowOn_37 ?_
      obtain rfl := Option.some.inj h
      exact z_iret K dX12_flowOn_38
    · have h := ite_t h c
      refine z_aload_n K dX12_flowOn_26 rfl ?_
      refine z_getR K clX12 k0 6 rfl rfl q1344 dX12_flowOn_27 ?_
      refine z_bipush K 6 dX12_flowOn_30 rfl ?_
      obtain ⟨hi, h⟩ := ix_e h
      refine z_iald K (hR.at (k := 6) (t := 20270) k0 rfl rfl) rfl rfl rfl hi dX12_flowOn_32 ?_
      refine z_goto K 37 dX12_flowOn_33 (by decide) ?_
      refine z_iadd K dX12_flowOn_37 ?_
      obtain rfl := Option.some.inj h
      exact z_iret K dX12_flowOn_38
/-! GoingOverModel.flowNow ()I -/
abbrev rmX12_flowNow : Room := { frames := 1, cells := 0, slots := 0, locals := 21 }
def pX12_flowNow (R : Rf) (T : Mm) (a0 : Nat) : Option (Int32) :=
  ix 80 270 (bd1 (pX12_flowOn R T a0 (T.1 (R a0 6) (80 : Int32).toNatClampNeg)) (fun (u1 : Int32) => some u1))
set_option maxRecDepth 100000 in
set_option maxHeartbeats 4000000 in
theorem mX12_flowNow {g : Gl} {R : Rf} {T : Mm} {a0 : Nat} (l : Launch) (hR : Ty g R) (k0 : kd g a0 = 12) {r : Int32} (h : pX12_flowNow R T a0 = some r) : MI l g yX12_flowNow cX12_flowNow 1 (some .int) rmX12_flowNow [.ref (g.2.2.1 a0)] R T r R T := by
  refine z_metI (own := RX12) (lv := [some (.ref (g.2.2.1 a0))]) (by decide +kernel) rfl rfl rfl (fun X K => ?_)
  unfold pX12_flowNow at h
  refine z_aload_n K dX12_flowNow_0 rfl ?_
  refine z_aload_n K dX12_flowNow_1 rfl ?_
  refine z_getR K clX12 k0 6 rfl rfl q1344 dX12_flowNow_2 ?_
  refine z_bipush K 80 dX12_flowNow_5 rfl ?_
  obtain ⟨hi, h⟩ := ix_e h
  refine z_iald K (hR.at (k := 6) (t := 20270) k0 rfl rfl) rfl rfl rfl hi dX12_flowNow_7 ?_
  obtain ⟨u1, hc, h⟩ := bd1_e h
  refine z_callVI K (mX12_flowOn l hR k0 hc) clX12 k0 ceX12_flowOn q1657 ⟨rfl, rfl, rfl, rfl⟩ rfl rfl rfl dX12_flowNow_8 ?_
  obtain rfl := Option.some.inj h
  exact z_iret K dX12_flowNow_11
/-! GoingOverModel.heldWith (III)I -/
abbrev rmX12_heldWith : Room := { frames := 1, cells := 0, slots := 0, locals := 22 }
def pX12_heldWith_19 (R : Rf) (T : Mm) (a0 : Nat) (x1 : Int32) (x2 : Int32) (x3 : Int32) (e117 : Int32 → Int32 → Option (Int32)) (r19 : Int32 → Int32 → Int32 → Option (Int32)) (x4 : Int32) (x5 : Int32) (x6 : Int32) : Option (Int32) :=
  ix 2 270 (if (T.1 (R a0 6) (2 : Int32).toNatClampNeg) ≤ x6 then e117 x4 x5 else bd1 (pX12_bitOf R T x3 x6) (fun (u2 : Int32) => if u2 = 0 then lt (x6 + 1) (fun (v10 : Int32) => r19 x4 x5 v10) else ix (32 + x6) 270 (ix (48 + x6) 270 (lt (((1 <<< ((T.1 (R a0 6) (32 + x6).toNatClampNeg) &&& 31)) ||| (1 <<< ((T.1 (R a0 6) (48 + x6).toNatClampNeg) &&& 31))) &&& x2) (fun (v3 : Int32) => bd1 (pX12_bits R T v3) (fun (u4 : Int32) => if u4 < 2 then lt (x6 + 1) (fun (v5 : Int32) => r19 x4 x5 v5) else if (v3 &&& x4) = 0 then lt (x6 + 1) (fun (v6 : Int32) => r19 x4 x5 v6) else if (v3 &&& (x4 ^^^ (-1))) = 0 then lt (x6 + 1) (fun (v9 : Int32) => r19 x4 x5 v9) else lt (x4 ||| v3) (fun (v7 : Int32) => lt (x6 + 1) (fun (v8 : Int32) => r19 v7 1 v8))))))))
def pX12_heldWith_117 (R : Rf) (T : Mm) (a0 : Nat) (x1 : Int32) (x2 : Int32) (x3 : Int32) (r8 : Int32 → Int32 → Option (Int32)) (e120 : Int32 → Option (Int32)) (x4 : Int32) (x5 : Int32) : Option (Int32) :=
  r8 x4 x5
def pX12_heldWith_8 (R : Rf) (T : Mm) (a0 : Nat) (x1 : Int32) (x2 : Int32) (x3 : Int32) (e120 : Int32 → Option (Int32)) (r8 : Int32 → Int32 → Option (Int32)) (x4 : Int32) (x5 : Int32) : Option (Int32) :=
  if x5 = 0 then e120 x4 else zl3 (pX12_heldWith_19 R T a0 x1 x2 x3 (pX12_heldWith_117 R T a0 x1 x2 x3 r8 e120)) FU x4 0 0
def pX12_heldWith_120 (R : Rf) (T : Mm) (a0 : Nat) (x1 : Int32) (x2 : Int32) (x3 : Int32) (x4 : Int32) : Option (Int32) :=
  some x4
def pX12_heldWith (R : Rf) (T : Mm) (a0 : Nat) (x1 : Int32) (x2 : Int32) (x3 : Int32) : Option (Int32) :=
  lt (1 <<< (x1 &&& 31)) (fun (v1 : Int32) => zl2 (pX12_heldWith_8 R T a0 x1 x2 x3 (pX12_heldWith_120 R T a0 x1 x2 x3)) FU v1 1)
set_option maxRecDepth 100000 in
set_option maxHeartbeats 4000000 in
theorem wX12_heldWith_19 {X : Cx} {g : Gl} {l : Launch} {R : Rf} {T : Mm} {a0 : Nat} {x1 : Int32} {x2 : Int32} {x3 : Int32} (K : Ok X g l cX12_heldWith RX12 8 (some .int) rmX12_heldWith) (hR : Ty g R) (k0 : kd g a0 = 12) {r : Int32} {e117 : Int32 → Int32 → Option (Int32)} (he117 : ∀ (x4 : Int32) (x5 : Int32), e117 x4 x5 = some r → Zj X g 8 (QI X g r R T) R T [some (.ref (g.2.2.1 a0)), none, some (.int x2), some (.int x3), some (.int x4), some (.int x5), none, none] [] 117) : ∀ (n : Nat) (x4 : Int32) (x5 : Int32) (x6 : Int32), zl3 (pX12_heldWith_19 R T a0 x1 x2 x3 e117) n x4 x5 x6 = some r → Zj X g 8 (QI X g r R T) R T [some (.ref (g.2.2.1 a0)), none, some (.int x2), some (.int x3), some (.int x4), some (.int x5), some (.int x6), none] [] 19 := by
  intro n
  induction n with
  | zero =>
    intro x4 x5 x6 h
    exact absurd h (by simp [zl3])
  | succ n hr19 =>
    intro x4 x5 x6 h
    rw [zl3_s] at h
    unfold pX12_heldWith_19 at h
    refine z_iload K dX12_heldWith_19 rfl ?_
    refine z_aload_n K dX12_heldWith_21 rfl ?_
    refine z_getR K clX12 k0 6 rfl rfl q1344 dX12_heldWith_22 ?_
    refine z_iconst K 2 dX12_heldWith_25 rfl ?_
    obtain ⟨hi, h⟩ := ix_e h
    refine z_iald K (hR.at (k := 6) (t := 20270) k0 rfl rfl) rfl rfl rfl hi dX12_heldWith_26 ?_
    refine z_icmp_ge K 117 dX12_heldWith_27 (by decide) (fun c => ?_) (fun c => ?_)
    · have h := ite_t h c
      refine Zj.mask [true, false, true, true, true, true, false, false] ?_
      exact he117 _ _ h
    · have h := ite_f h c
      refine z_iload_n K dX12_heldWith_30 rfl ?_
      refine z_iload K dX12_heldWith_31 rfl ?_
      obtain ⟨u2, hc, h⟩ := bd1_e h
      refine z_callSI K (mX12_bitOf l hR hc) ceX12_bitOf q1524 ⟨rfl, rfl, rfl, rfl⟩ rfl rfl rfl dX12_heldWith_33 ?_
      refine z_if_ne K 42 dX12_heldWith_36 (by decide) (fun c => ?_) (fun c => ?_)
      · have h := ite_f h c
        refine z_iconst K 1 dX12_heldWith_42 rfl ?_
        refine z_aload_n K dX12_heldWith_43 rfl ?_
        refine z_getR K clX12 k0 6 rfl rfl q1344 dX12_heldWith_44 ?_
        refine z_bipush K 32 dX12_heldWith_47 rfl ?_
        refine z_iload K dX12_heldWith_49 rfl ?_
        refine z_iadd K dX12_heldWith_51 ?_
        obtain ⟨hi, h⟩ := ix_e h
        refine z_iald K (hR.at (k := 6) (t := 20270) k0 rfl rfl) rfl rfl rfl hi dX12_heldWith_52 ?_
        refine z_ishl K dX12_heldWith_53 ?_
        refine z_iconst K 1 dX12_heldWith_54 rfl ?_
        refine z_aload_n K dX12_heldWith_55 rfl ?_
        refine z_getR K clX12 k0 6 rfl rfl q1344 dX12_heldWith_56 ?_
        refine z_bipush K 48 dX12_heldWith_59 rfl ?_
        refine z_iload K dX12_heldWith_61 rfl ?_
        refine z_iadd K dX12_heldWith_63 ?_
        obtain ⟨hi, h⟩ := ix_e h
        refine z_iald K (hR.at (k := 6) (t := 20270) k0 rfl rfl) rfl rfl rfl hi dX12_heldWith_64 ?_
        refine z_ishl K dX12_heldWith_65 ?_
        refine z_ior K dX12_heldWith_66 ?_
        refine z_iload_n K dX12_heldWith_67 rfl ?_
        refine z_iand K dX12_heldWith_68 ?_
        refine z_istore K dX12_heldWith_69 rfl rfl ?_
        refine z_iload K dX12_heldWith_71 rfl ?_
        obtain ⟨u4, hc, h⟩ := bd1_e h
        refine z_callSI K (mX12_bits l hR hc) ceX12_bits q1626 ⟨rfl, rfl, rfl, rfl⟩ rfl rfl rfl dX12_heldWith_73 ?_
        refine z_iconst K 2 dX12_heldWith_76 rfl ?_
        refine z_icmp_lt K 111 dX12_heldWith_77 (by decide) (fun c => ?_) (fun c => ?_)
        · have h := ite_t h c
          refine z_iinc K 1 dX12_heldWith_111 rfl rfl rfl rfl ?_
          refine z_goto K 19 dX12_heldWith_114 (by decide) ?_
          refine Zj.mask [true, false, true, true, true, true, true, false] ?_
          exact hr19 _ _ _ h
        · have h := ite_f h c
          refine z_iload K dX12_heldWith_80 rfl ?_
          refine z_iload K dX12_heldWith_82 rfl ?_
          refine z_iand K dX12_heldWith_84 ?_
          refine z_if_eq K 111 dX12_heldWith_85 (by decide) (fun c => ?_) (fun c => ?_)
          · have h := ite_t h c
            refine z_iinc K 1 dX12_heldWith_111 rfl rfl rfl rfl ?_
            refine z_goto K 19 dX12_heldWith_114 (by decide) ?_
            refine Zj.mask [true, false, true, true, true, true, true, false] ?_
            exact hr19 _ _ _ h
          · have h := ite_f h c
            refine z_iload K dX12_heldWith_88 rfl ?_
            refine z_iload K dX12_heldWith_90 rfl ?_
            refine z_iconst K (-1) dX12_heldWith_92 rfl ?_
            refine z_ixor K dX12_heldWith_93 ?_
            refine z_iand K dX12_heldWith_94 ?_
            refine z_if_ne K 101 dX12_heldWith_95 (by decide) (fun c => ?_) (fun c => ?_)
            · have h := ite_f h c
              refine z_iload K dX12_heldWith_101 rfl ?_
              refine z_iload K dX12_heldWith_103 rfl ?_
              refine z_ior K dX12_heldWith_105 ?_
              refine z_istore K dX12_heldWith_106 rfl rfl ?_
              refine z_iconst K 1 dX12_heldWith_108 rfl ?_
              refine z_istore K dX12_heldWith_109 rfl rfl ?_
              refine z_iinc K 1 dX12_heldWith_111 rfl rfl rfl rfl ?_
              refine z_goto K 19 dX12_heldWith_114 (by decide) ?_
              refine Zj.mask [true, false, true, true, true, true, true, false] ?_
              exact hr19 _ _ _ h
            · have h := ite_t h c
              refine z_goto K 111 dX12_heldWith_98 (by decide) ?_
              refine z_iinc K 1 dX12_heldWith_111 rfl rfl rfl rfl ?_
              refine z_goto K 19 dX12_heldWith_114 (by decide) ?_
              refine Zj.mask [true, false, true, true, true, true, true, false] ?_
              exact hr19 _ _ _ h
      · have h := ite_t h c
        refine z_goto K 111 dX12_heldWith_39 (by decide) ?_
        refine z_iinc K 1 dX12_heldWith_111 rfl rfl rfl rfl ?_
        refine z_goto K 19 dX12_heldWith_114 (by decide) ?_
        refine Zj.mask [true, false, true, true, true, true, true, false] ?_
        exact hr19 _ _ _ h
set_option maxRecDepth 100000 in
set_option maxHeartbeats 4000000 in
theorem wX12_heldWith_117 {X : Cx} {g : Gl} {l : Launch} {R : Rf} {T : Mm} {a0 : Nat} {x1 : Int32} {x2 : Int32} {x3 : Int32} (K : Ok X g l cX12_heldWith RX12 8 (some .int) rmX12_heldWith) (hR : Ty g R) (k0 : kd g a0 = 12) {r : Int32} {r8 : Int32 → Int32 → Option (Int32)} (hr8 : ∀ (x4 : Int32) (x5 : Int32), r8 x4 x5 = some r → Zj X g 8 (QI X g r R T) R T [some (.ref (g.2.2.1 a0)), none, some (.int x2), some (.int x3), some (.int x4), some (.int x5), none, none] [] 8) {e120 : Int32 → Option (Int32)} (he120 : ∀ (x4 : Int32), e120 x4 = some r → Zj X g 8 (QI X g r R T) R T [none, none, none, none, some (.int x4), none, none, none] [] 120) (x4 : Int32) (x5 : Int32) (h : pX12_heldWith_117 R T a0 x1 x2 x3 r8 e120 x4 x5 = some r) : Zj X g 8 (QI X g r R T) R T [some (.ref (g.2.2.1 a0)), none, some (.int x2), some (.int x3), some (.int x4), some (.int x5), none, none] [] 117 := by
  unfold pX12_heldWith_117 at h
  refine z_goto K 8 dX12_heldWith_117 (by decide) ?_
  refine Zj.mask [true, false, true, true, true, true, false, false] ?_
  exact hr8 _ _ h
set_option maxRecDepth 100000 in
set_option maxHeartbeats 4000000 in
theorem wX12_heldWith_8 {X : Cx} {g : Gl} {l : Launch} {R : Rf} {T : Mm} {a0 : Nat} {x1 : Int32} {x2 : Int32} {x3 : Int32} (K : Ok X g l cX12_heldWith RX12 8 (some .int) rmX12_heldWith) (hR : Ty g R) (k0 : kd g a0 = 12) {r : Int32} {e120 : Int32 → Option (Int32)} (he120 : ∀ (x4 : Int32), e120 x4 = some r → Zj X g 8 (QI X g r R T) R T [none, none, none, none, some (.int x4), none, none, none] [] 120) : ∀ (n : Nat) (x4 : Int32) (x5 : Int32), zl2 (pX12_heldWith_8 R T a0 x1 x2 x3 e120) n x4 x5 = some r → Zj X g 8 (QI X g r R T) R T [some (.ref (g.2.2.1 a0)), none, some (.int x2), some (.int x3), some (.int x4), some (.int x5), none, none] [] 8 := by
  intro n
  induction n with
  | zero =>
    intro x4 x5 h
    exact absurd h (by simp [zl2])
  | succ n hr8 =>
    intro x4 x5 h
    rw [zl2_s] at h
    unfold pX12_heldWith_8 at h
    refine z_iload K dX12_heldWith_8 rfl ?_
    refine z_if_eq K 120 dX12_heldWith_10 (by decide) (fun c => ?_) (fun c => ?_)
    · have h := ite_t h c
      refine Zj.mask [false, false, false, false, true, false, false, false] ?_
      exact he120 _ h
    · have h := ite_f h c
      refine z_iconst K 0 dX12_heldWith_13 rfl ?_
      refine z_istore K dX12_heldWith_14 rfl rfl ?_
      refine z_iconst K 0 dX12_heldWith_16 rfl ?_
      refine z_istore K dX12_heldWith_17 rfl rfl ?_
      refine Zj.mask [true, false, true, true, true, true, true, false] ?_
      exact wX12_heldWith_19 K hR k0 (wX12_heldWith_117 K hR k0 hr8 he120) FU _ _ _ h
set_option maxRecDepth 100000 in
set_option maxHeartbeats 4000000 in
theorem wX12_heldWith_120 {X : Cx} {g : Gl} {l : Launch} {R : Rf} {T : Mm} {a0 : Nat} {x1 : Int32} {x2 : Int32} {x3 : Int32} (K : Ok X g l cX12_heldWith RX12 8 (some .int) rmX12_heldWith) (hR : Ty g R) (k0 : kd g a0 = 12) {r : Int32} (x4 : Int32) (h : pX12_heldWith_120 R T a0 x1 x2 x3 x4 = some r) : Zj X g 8 (QI X g r R T) R T [none, none, none, none, some (.int x4), none, none, none] [] 120 := by
  unfold pX12_heldWith_120 at h
  refine z_iload K dX12_heldWith_120 rfl ?_
  obtain rfl := Option.some.inj h
  exact z_iret K dX12_heldWith_122
set_option maxRecDepth 100000 in
set_option maxHeartbeats 4000000 in
theorem mX12_heldWith {g : Gl} {R : Rf} {T : Mm} {a0 : Nat} {x1 : Int32} {x2 : Int32} {x3 : Int32} (l : Launch) (hR : Ty g R) (k0 : kd g a0 = 12) {r : Int32} (h : pX12_heldWith R T a0 x1 x2 x3 = some r) : MI l g yX12_heldWith cX12_heldWith 8 (some .int) rmX12_heldWith [.ref (g.2.2.1 a0), .int x1, .int x2, .int x3] R T r R T := by
  refine z_metI (own := RX12) (lv := [some (.ref (g.2.2.1 a0)), some (.int x1), some (.int x2), some (.int x3), none, none, none, none]) (by decide +kernel) rfl rfl rfl (fun X K => ?_)
  unfold pX12_heldWith at h
  refine z_iconst K 1 dX12_heldWith_0 rfl ?_
  refine z_iload_n K dX12_heldWith_1 rfl ?_
  refine z_ishl K dX12_heldWith_2 ?_
  refine z_istore K dX12_heldWith_3 rfl rfl ?_
  refine z_iconst K 1 dX12_heldWith_5 rfl ?_
  refine z_istore K dX12_heldWith_6 rfl rfl ?_
  refine Zj.mask [true, false, true, true, true, true, false, false] ?_
  exact wX12_heldWith_8 K hR k0 (wX12_heldWith_120 K hR k0) FU _ _ h
/-! GoingOverModel.partsOf (II)I -/
abbrev rmX12_partsOf : Room := { frames := 2, cells := 0, slots := 0, locals := 49 }
def pX12_partsOf_8 (R : Rf) (T : Mm) (a0 : Nat) (x1 : Int32) (x2 : Int32) (e56 : Int32 → Option (Int32)) (r8 : Int32 → Int32 → Int32 → Option (Int32)) (x3 : Int32) (x4 : Int32) (x5 : Int32) : Option (Int32) :=
  ix 1 270 (if (T.1 (R a0 6) (1 : Int32).toNatClampNeg) ≤ x5 then e56 x3 else bd1 (pX12_bitOf R T x4 x5) (fun (u1 : Int32) => if u1 = 0 then lt (x5 + 1) (fun (v6 : Int32) => r8 x3 x4 v6) else bd1 (pX12_heldWith R T a0 x5 x1 x2) (fun (u2 : Int32) => lt (x4 &&& (u2 ^^^ (-1))) (fun (v3 : Int32) => lt (x3 + 1) (fun (v4 : Int32) => lt (x5 + 1) (fun (v5 : Int32) => r8 v4 v3 v5))))))
def pX12_partsOf_56 (R : Rf) (T : Mm) (a0 : Nat) (x1 : Int32) (x2 : Int32) (x3 : Int32) : Option (Int32) :=
  some x3
def pX12_partsOf (R : Rf) (T : Mm) (a0 : Nat) (x1 : Int32) (x2 : Int32) : Option (Int32) :=
  zl3 (pX12_partsOf_8 R T a0 x1 x2 (pX12_partsOf_56 R T a0 x1 x2)) FU 0 x1 0
set_option maxRecDepth 100000 in
set_option maxHeartbeats 4000000 in
theorem wX12_partsOf_8 {X : Cx} {g : Gl} {l : Launch} {R : Rf} {T : Mm} {a0 : Nat} {x1 : Int32} {x2 : Int32} (K : Ok X g l cX12_partsOf RX12 6 (some .int) rmX12_partsOf) (hR : Ty g R) (k0 : kd g a0 = 12) {r : Int32} {e56 : Int32 → Option (Int32)} (he56 : ∀ (x3 : Int32), e56 x3 = some r → Zj X g 6 (QI X g r R T) R T [none, none, none, some (.int x3), none, none] [] 56) : ∀ (n : Nat) (x3 : Int32) (x4 : Int32) (x5 : Int32), zl3 (pX12_partsOf_8 R T a0 x1 x2 e56) n x3 x4 x5 = some r → Zj X g 6 (QI X g r R T) R T [some (.ref (g.2.2.1 a0)), some (.int x1), some (.int x2), some (.int x3), some (.int x4), some (.int x5)] [] 8 := by
  intro n
  induction n with
  | zero =>
    intro x3 x4 x5 h
    exact absurd h (by simp [zl3])
  | succ n hr8 =>
    intro x3 x4 x5 h
    rw [zl3_s] at h
    unfold pX12_partsOf_8 at h
    refine z_iload K dX12_partsOf_8 rfl ?_
    refine z_aload_n K dX12_partsOf_10 rfl ?_
    refine z_getR K clX12 k0 6 rfl rfl q1344 dX12_partsOf_11 ?_
    refine z_iconst K 1 dX12_partsOf_14 rfl ?_
    obtain ⟨hi, h⟩ := ix_e h
    refine z_iald K (hR.at (k := 6) (t := 20270) k0 rfl rfl) rfl rfl rfl hi dX12_partsOf_15 ?_
    refine z_icmp_ge K 56 dX12_partsOf_16 (by decide) (fun c => ?_) (fun c => ?_)
    · have h := ite_t h c
      refine Zj.mask [false, false, false, true, false, false] ?_
      exact he56 _ h
    · have h := ite_f h c
      refine z_iload K dX12_partsOf_19 rfl ?_
      refine z_iload K dX12_partsOf_21 rfl ?_
      obtain ⟨u1, hc, h⟩ := bd1_e h
      refine z_callSI K (mX12_bitOf l hR hc) ceX12_bitOf q1524 ⟨rfl, rfl, rfl, rfl⟩ rfl rfl rfl dX12_partsOf_23 ?_
      refine z_if_ne K 32 dX12_partsOf_26 (by decide) (fun c => ?_) (fun c => ?_)
      · have h := ite_f h c
        refine z_iload K dX12_partsOf_32 rfl ?_
        refine z_aload_n K dX12_partsOf_34 rfl ?_
        refine z_iload K dX12_partsOf_35 rfl ?_
        refine z_iload_n K dX12_partsOf_37 rfl ?_
        refine z_iload_n K dX12_partsOf_38 rfl ?_
        obtain ⟨u2, hc, h⟩ := bd1_e h
        refine z_callVI K (mX12_heldWith l hR k0 hc) clX12 k0 ceX12_heldWith q1622 ⟨rfl, rfl, rfl, rfl⟩ rfl rfl rfl dX12_partsOf_39 ?_
        refine z_iconst K (-1) dX12_partsOf_42 rfl ?_
        refine z_ixor K dX12_partsOf_43 ?_
        refine z_iand K dX12_partsOf_44 ?_
        refine z_istore K dX12_partsOf_45 rfl rfl ?_
        refine z_iinc K 1 dX12_partsOf_47 rfl rfl rfl rfl ?_
        refine z_iinc K 1 dX12_partsOf_50 rfl rfl rfl rfl ?_
        refine z_goto K 8 dX12_partsOf_53 (by decide) ?_
        refine Zj.mask [true, true, true, true, true, true] ?_
        exact hr8 _ _ _ h
      · have h := ite_t h c
        refine z_goto K 50 dX12_partsOf_29 (by decide) ?_
        refine z_iinc K 1 dX12_partsOf_50 rfl rfl rfl rfl ?_
        refine z_goto K 8 dX12_partsOf_53 (by decide) ?_
        refine Zj.mask [true, true, true, true, true, true] ?_
        exact hr8 _ _ _ h
set_option maxRecDepth 100000 in
set_option maxHeartbeats 4000000 in
theorem wX12_partsOf_56 {X : Cx} {g : Gl} {l : Launch} {R : Rf} {T : Mm} {a0 : Nat} {x1 : Int32} {x2 : Int32} (K : Ok X g l cX12_partsOf RX12 6 (some .int) rmX12_partsOf) (hR : Ty g R) (k0 : kd g a0 = 12) {r : Int32} (x3 : Int32) (h : pX12_partsOf_56 R T a0 x1 x2 x3 = some r) : Zj X g 6 (QI X g r R T) R T [none, none, none, some (.int x3), none, none] [] 56 := by
  unfold pX12_partsOf_56 at h
  refine z_iload_n K dX12_partsOf_56 rfl ?_
  obtain rfl := Option.some.inj h
  exact z_iret K dX12_partsOf_57
set_option maxRecDepth 100000 in
set_option maxHeartbeats 4000000 in
theorem mX12_partsOf {g : Gl} {R : Rf} {T : Mm} {a0 : Nat} {x1 : Int32} {x2 : Int32} (l : Launch) (hR : Ty g R) (k0 : kd g a0 = 12) {r : Int32} (h : pX12_partsOf R T a0 x1 x2 = some r) : MI l g yX12_partsOf cX12_partsOf 6 (some .int) rmX12_partsOf [.ref (g.2.2.1 a0), .int x1, .int x2] R T r R T := by
  refine z_metI (own := RX12) (lv := [some (.ref (g.2.2.1 a0)), some (.int x1), some (.int x2), none, none, none]) (by decide +kernel) rfl rfl rfl (fun X K => ?_)
  unfold pX12_partsOf at h
  refine z_iconst K 0 dX12_partsOf_0 rfl ?_
  refine z_istore_n K dX12_partsOf_1 rfl rfl ?_
  refine z_iload_n K dX12_partsOf_2 rfl ?_
  refine z_istore K dX12_partsOf_3 rfl rfl ?_
  refine z_iconst K 0 dX12_partsOf_5 rfl ?_
  refine z_istore K dX12_partsOf_6 rfl rfl ?_
  refine Zj.mask [true, true, true, true, true, true] ?_
  exact wX12_partsOf_8 K hR k0 (wX12_partsOf_56 K hR k0) FU _ _ _ h
/-! GoingOverModel.joinsFrom (I)I -/
abbrev rmX12_joinsFrom : Room := { frames := 1, cells := 0, slots := 0, locals := 21 }
def pX12_joinsFrom_4 (R : Rf) (T : Mm) (a0 : Nat) (x1 : Int32) (e57 : Int32 → Option (Int32)) (r4 : Int32 → Int32 → Option (Int32)) (x2 : Int32) (x3 : Int32) : Option (Int32) :=
  ix 2 270 (if (T.1 (R a0 6) (2 : Int32).toNatClampNeg) ≤ x3 then e57 x2 else ix 82 270 (bd1 (pX12_bitOf R T (T.1 (R a0 6) (82 : Int32).toNatClampNeg) x3) (fun (u1 : Int32) => if u1 = 0 then lt (x2 ||| 0) (fun (v2 : Int32) => lt (x3 + 1) (fun (v3 : Int32) => r4 v2 v3)) else ix (64 + x3) 270 (if (T.1 (R a0 6) (64 + x3).toNatClampNeg) < x1 then lt (x2 ||| 0) (fun (v4 : Int32) => lt (x3 + 1) (fun (v5 : Int32) => r4 v4 v5)) else lt (x2 ||| (1 <<< (x3 &&& 31))) (fun (v6 : Int32) => lt (x3 + 1) (fun (v7 : Int32) => r4 v6 v7))))))
def pX12_joinsFrom_57 (R : Rf) (T : Mm) (a0 : Nat) (x1 : Int32) (x2 : Int32) : Option (Int32) :=
  some x2
def pX12_joinsFrom (R : Rf) (T : Mm) (a0 : Nat) (x1 : Int32) : Option (Int32) :=
  zl2 (pX12_joinsFrom_4 R T a0 x1 (pX12_joinsFrom_57 R T a0 x1)) FU 0 0
set_option maxRecDepth 100000 in
set_option maxHeartbeats 4000000 in
theorem wX12_joinsFrom_4 {X : Cx} {g : Gl} {l : Launch} {R : Rf} {T : Mm} {a0 : Nat} {x1 : Int32} (K : Ok X g l cX12_joinsFrom RX12 4 (some .int) rmX12_joinsFrom) (hR : Ty g R) (k0 : kd g a0 = 12) {r : Int32} {e57 : Int32 → Option (Int32)} (he57 : ∀ (x2 : Int32), e57 x2 = some r → Zj X g 4 (QI X g r R T) R T [none, none, some (.int x2), none] [] 57) : ∀ (n : Nat) (x2 : Int32) (x3 : Int32), zl2 (pX12_joinsFrom_4 R T a0 x1 e57) n x2 x3 = some r → Zj X g 4 (QI X g r R T) R T [some (.ref (g.2.2.1 a0)), some (.int x1), some (.int x2), some (.int x3)] [] 4 := by
  intro n
  induction n with
  | zero =>
    intro x2 x3 h
    exact absurd h (by simp [zl2])
  | succ n hr4 =>
    intro x2 x3 h
    rw [zl2_s] at h
    unfold pX12_joinsFrom_4 at h
    refine z_iload_n K dX12_joinsFrom_4 rfl ?_
    refine z_aload_n K dX12_joinsFrom_5 rfl ?_
    refine z_getR K clX12 k0 6 rfl rfl q1344 dX12_joinsFrom_6 ?_
    refine z_iconst K 2 dX12_joinsFrom_9 rfl ?_
    obtain ⟨hi, h⟩ := ix_e h
    refine z_iald K (hR.at (k := 6) (t := 20270) k0 rfl rfl) rfl rfl rfl hi dX12_joinsFrom_10 ?_
    refine z_icmp_ge K 57 dX12_joinsFrom_11 (by decide) (fun c => ?_) (fun c => ?_)
    · have h := ite_t h c
      refine Zj.mask [false, false, true, false] ?_
      exact he57 _ h
    · have h := ite_f h c
      refine z_iload_n K dX12_joinsFrom_14 rfl ?_
      refine z_aload_n K dX12_joinsFrom_15 rfl ?_
      refine z_getR K clX12 k0 6 rfl rfl q1344 dX12_joinsFrom_16 ?_
      refine z_bipush K 82 dX12_joinsFrom_19 rfl ?_
      obtain ⟨hi, h⟩ := ix_e h
      refine z_iald K (hR.at (k := 6) (t := 20270) k0 rfl rfl) rfl rfl rfl hi dX12_joinsFrom_21 ?_
      refine z_iload_n K dX12_joinsFrom_22 rfl ?_
      obtain ⟨u1, hc, h⟩ := bd1_e h
      refine z_callSI K (mX12_bitOf l hR hc) ceX12_bitOf q1524 ⟨rfl, rfl, rfl, rfl⟩ rfl rfl rfl dX12_joinsFrom_23 ?_
      refine z_if_eq K 48 dX12_joinsFrom_26 (by decide) (fun c => ?_) (fun c => ?_)
      · have h := ite_t h c
        refine z_iconst K 0 dX12_joinsFrom_48 rfl ?_
        refine z_ior K dX12_joinsFrom_49 ?_
        refine z_istore_n K dX12_joinsFrom_50 rfl rfl ?_
        refine z_iinc K 1 dX12_joinsFrom_51 rfl rfl rfl rfl ?_
        refine z_goto K 4 dX12_joinsFrom_54 (by decide) ?_
        refine Zj.mask [true, true, true, true] ?_
        exact hr4 _ _ h
      · have h := ite_f h c
        refine z_aload_n K dX12_joinsFrom_29 rfl ?_
        refine z_getR K clX12 k0 6 rfl rfl q1344 dX12_joinsFrom_30 ?_
        refine z_bipush K 64 dX12_joinsFrom_33 rfl ?_
        refine z_iload_n K dX12_joinsFrom_35 rfl ?_
        refine z_iadd K dX12_joinsFrom_36 ?_
        obtain ⟨hi, h⟩ := ix_e h
        refine z_iald K (hR.at (k := 6) (t := 20270) k0 rfl rfl) rfl rfl rfl hi dX12_joinsFrom_37 ?_
        refine z_iload_n K dX12_joinsFrom_38 rfl ?_
        refine z_icmp_lt K 48 dX12_joinsFrom_39 (by decide) (fun c => ?_) (fun c => ?_)
        · have h := ite_t h c
          refine z_iconst K 0 dX12_joinsFrom_48 rfl ?_
          refine z_ior K dX12_joinsFrom_49 ?_
          refine z_istore_n K dX12_joinsFrom_50 rfl rfl ?_
          refine z_iinc K 1 dX12_joinsFrom_51 rfl rfl rfl rfl ?_
          refine z_goto K 4 dX12_joinsFrom_54 (by decide) ?_
          refine Zj.mask [true, true, true, true] ?_
          exact hr4 _ _ h
        · have h := ite_f h c
          refine z_iconst K 1 dX12_joinsFrom_42 rfl ?_
          refine z_iload_n K dX12_joinsFrom_43 rfl ?_
          refine z_ishl K dX12_joinsFrom_44 ?_
          refine z_goto K 49 dX12_joinsFrom_45 (by decide) ?_
          refine z_ior K dX12_joinsFrom_49 ?_
          refine z_istore_n K dX12_joinsFrom_50 rfl rfl ?_
          refine z_iinc K 1 dX12_joinsFrom_51 rfl rfl rfl rfl ?_
          refine z_goto K 4 dX12_joinsFrom_54 (by decide) ?_
          refine Zj.mask [true, true, true, true] ?_
          exact hr4 _ _ h
set_option maxRecDepth 100000 in
set_option maxHeartbeats 4000000 in
theorem wX12_joinsFrom_57 {X : Cx} {g : Gl} {l : Launch} {R : Rf} {T : Mm} {a0 : Nat} {x1 : Int32} (K : Ok X g l cX12_joinsFrom RX12 4 (some .int) rmX12_joinsFrom) (hR : Ty g R) (k0 : kd g a0 = 12) {r : Int32} (x2 : Int32) (h : pX12_joinsFrom_57 R T a0 x1 x2 = some r) : Zj X g 4 (QI X g r R T) R T [none, none, some (.int x2), none] [] 57 := by
  unfold pX12_joinsFrom_57 at h
  refine z_iload_n K dX12_joinsFrom_57 rfl ?_
  obtain rfl := Option.some.inj h
  exact z_iret K dX12_joinsFrom_58
set_option maxRecDepth 100000 in
set_option maxHeartbeats 4000000 in
theorem mX12_joinsFrom {g : Gl} {R : Rf} {T : Mm} {a0 : Nat} {x1 : Int32} (l : Launch) (hR : Ty g R) (k0 : kd g a0 = 12) {r : Int32} (h : pX12_joinsFrom R T a0 x1 = some r) : MI l g yX12_joinsFrom cX12_joinsFrom 4 (some .int) rmX12_joinsFrom [.ref (g.2.2.1 a0), .int x1] R T r R T := by
  refine z_metI (own := RX12) (lv := [some (.ref (g.2.2.1 a0)), some (.int x1), none, none]) (by decide +kernel) rfl rfl rfl (fun X K => ?_)
  unfold pX12_joinsFrom at h
  refine z_iconst K 0 dX12_joinsFrom_0 rfl ?_
  refine z_istore_n K dX12_joinsFrom_1 rfl rfl ?_
  refine z_iconst K 0 dX12_joinsFrom_2 rfl ?_
  refine z_istore_n K dX12_joinsFrom_3 rfl rfl ?_
  refine Zj.mask [true, true, true, true] ?_
  exact wX12_joinsFrom_4 K hR k0 (wX12_joinsFrom_57 K hR k0) FU _ _ h
/-! GoingOverModel.isDown (I)Z -/
abbrev rmX12_isDown : Room := { frames := 0, cells := 0, slots := 0, locals := 0 }
def pX12_isDown (R : Rf) (T : Mm) (a0 : Nat) (x1 : Int32) : Option (Int32) :=
  ix (84 + x1) 270 (if (T.1 (R a0 6) (84 + x1).toNatClampNeg) < 2 then some 0 else some 1)
set_option maxRecDepth 100000 in
set_option maxHeartbeats 4000000 in
theorem mX12_isDown {g : Gl} {R : Rf} {T : Mm} {a0 : Nat} {x1 : Int32} (l : Launch) (hR : Ty g R) (k0 : kd g a0 = 12) {r : Int32} (h : pX12_isDown R T a0 x1 = some r) : MI l g yX12_isDown cX12_isDown 2 (some .boolean) rmX12_isDown [.ref (g.2.2.1 a0), .int x1] R T r R T := by
  refine z_metI (own := RX12) (lv := [some (.ref (g.2.2.1 a0)), some (.int x1)]) (by decide +kernel) rfl rfl rfl (fun X K => ?_)
  unfold pX12_isDown at h
  refine z_aload_n K dX12_isDown_0 rfl ?_
  refine z_getR K clX12 k0 6 rfl rfl q1344 dX12_isDown_1 ?_
  refine z_bipush K 84 dX12_isDown_4 rfl ?_
  refine z_iload_n K dX12_isDown_6 rfl ?_
  refine z_iadd K dX12_isDown_7 ?_
  obtain ⟨hi, h⟩ := ix_e h
  refine z_iald K (hR.at (k := 6) (t := 20270) k0 rfl rfl) rfl rfl rfl hi dX12_isDown_8 ?_
  refine z_iconst K 2 dX12_isDown_9 rfl ?_
  refine z_icmp_lt K 17 dX12_isDown_10 (by decide) (fun c => ?_) (fun c => ?_)
  · have h := ite_t h c
    refine z_iconst K 0 dX12_isDown_17 rfl ?_
    obtain rfl := Option.some.inj h
    exact z_zret (v := 0) K rfl dX12_isDown_18
  · have h := ite_f h c
    refine z_iconst K 1 dX12_isDown_13 rfl ?_
    refine z_goto K 18 dX12_isDown_14 (by decide) ?_
    obtain rfl := Option.some.inj h
    exact z_zret (v := 1) K rfl dX12_isDown_18
/-! GoingOverModel.fateJoins (I)I -/
abbrev rmX12_fateJoins : Room := { frames := 2, cells := 0, slots := 0, locals := 44 }
def pX12_fateJoins (R : Rf) (T : Mm) (a0 : Nat) (x1 : Int32) : Option (Int32) :=
  bd1 (pX12_isDown R T a0 x1) (fun (u1 : Int32) => if u1 = 0 then ix 3 270 (ix (7 + x1) 270 (bd1 (pX12_joinsFrom R T a0 ((T.1 (R a0 6) (3 : Int32).toNatClampNeg) - (T.1 (R a0 6) (7 + x1).toNatClampNeg))) (fun (u2 : Int32) => some u2))) else ix 82 270 (some (T.1 (R a0 6) (82 : Int32).toNatClampNeg)))
set_option maxRecDepth 100000 in
set_option maxHeartbeats 4000000 in
theorem mX12_fateJoins {g : Gl} {R : Rf} {T : Mm} {a0 : Nat} {x1 : Int32} (l : Launch) (hR : Ty g R) (k0 : kd g a0 = 12) {r : Int32} (h : pX12_fateJoins R T a0 x1 = some r) : MI l g yX12_fateJoins cX12_fateJoins 2 (some .int) rmX12_fateJoins [.ref (g.2.2.1 a0), .int x1] R T r R T := by
  refine z_metI (own := RX12) (lv := [some (.ref (g.2.2.1 a0)), some (.int x1)]) (by decide +kernel) rfl rfl rfl (fun X K => ?_)
  unfold pX12_fateJoins at h
  refine z_aload_n K dX12_fateJoins_0 rfl ?_
  refine z_iload_n K dX12_fateJoins_1 rfl ?_
  obtain ⟨u1, hc, h⟩ := bd1_e h
  refine z_callVI K (mX12_isDown l hR k0 hc) clX12 k0 ceX12_isDown q1697 ⟨rfl, rfl, rfl, rfl⟩ rfl rfl rfl dX12_fateJoins_2 ?_
  refine z_if_eq K 18 dX12_fateJoins_5 (by decide) (fun c => ?_) (fun c => ?_)
  · have h := ite_t h c
    refine z_aload_n K dX12_fateJoins_18 rfl ?_
    refine z_aload_n K dX12_fateJoins_19 rfl ?_
    refine z_getR K clX12 k0 6 rfl rfl q1344 dX12_fateJoins_20 ?_
    refine z_iconst K 3 dX12_fateJoins_23 rfl ?_
    obtain ⟨hi, h⟩ := ix_e h
    refine z_iald K (hR.at (k := 6) (t := 20270) k0 rfl rfl) rfl rfl rfl hi dX12_fateJoins_24 ?_
    refine z_aload_n K dX12_fateJoins_25 rfl ?_
    refine z_getR K clX12 k0 6 rfl rfl q1344 dX12_fateJoins_26 ?_
    refine z_bipush K 7 dX12_fateJoins_29 rfl ?_
    refine z_iload_n K dX12_fateJoins_31 rfl ?_
    refine z_iadd K dX12_fateJoins_32 ?_
    obtain ⟨hi, h⟩ := ix_e h
    refine z_iald K (hR.at (k := 6) (t := 20270) k0 rfl rfl) rfl rfl rfl hi dX12_fateJoins_33 ?_
    refine z_isub K dX12_fateJoins_34 ?_
    obtain ⟨u2, hc, h⟩ := bd1_e h
    refine z_callVI K (mX12_joinsFrom l hR k0 hc) clX12 k0 ceX12_joinsFrom q1681 ⟨rfl, rfl, rfl, rfl⟩ rfl rfl rfl dX12_fateJoins_35 ?_
    obtain rfl := Option.some.inj h
    exact z_iret K dX12_fateJoins_38
  · have h := ite_f h c
    refine z_aload_n K dX12_fateJoins_8 rfl ?_
    refine z_getR K clX12 k0 6 rfl rfl q1344 dX12_fateJoins_9 ?_
    refine z_bipush K 82 dX12_fateJoins_12 rfl ?_
    obtain ⟨hi, h⟩ := ix_e h
    refine z_iald K (hR.at (k := 6) (t := 20270) k0 rfl rfl) rfl rfl rfl hi dX12_fateJoins_14 ?_
    refine z_goto K 38 dX12_fateJoins_15 (by decide) ?_
    obtain rfl := Option.some.inj h
    exact z_iret K dX12_fateJoins_38
/-! GoingOverModel.partsNow (I)I -/
abbrev rmX12_partsNow : Room := { frames := 3, cells := 0, slots := 0, locals := 74 }
def pX12_partsNow (R : Rf) (T : Mm) (a0 : Nat) (x1 : Int32) : Option (Int32) :=
  bd1 (pX12_barrelOf R T a0 x1) (fun (u1 : Int32) => ix 82 270 (bd1 (pX12_partsOf R T a0 u1 (T.1 (R a0 6) (82 : Int32).toNatClampNeg)) (fun (u2 : Int32) => some u2)))
set_option maxRecDepth 100000 in
set_option maxHeartbeats 4000000 in
theorem mX12_partsNow {g : Gl} {R : Rf} {T : Mm} {a0 : Nat} {x1 : Int32} (l : Launch) (hR : Ty g R) (k0 : kd g a0 = 12) {r : Int32} (h : pX12_partsNow R T a0 x1 = some r) : MI l g yX12_partsNow cX12_partsNow 2 (some .int) rmX12_partsNow [.ref (g.2.2.1 a0), .int x1] R T r R T := by
  refine z_metI (own := RX12) (lv := [some (.ref (g.2.2.1 a0)), some (.int x1)]) (by decide +kernel) rfl rfl rfl (fun X K => ?_)
  unfold pX12_partsNow at h
  refine z_aload_n K dX12_partsNow_0 rfl ?_
  refine z_aload_n K dX12_partsNow_1 rfl ?_
  refine z_iload_n K dX12_partsNow_2 rfl ?_
  obtain ⟨u1, hc, h⟩ := bd1_e h
  refine z_callVI K (mX12_barrelOf l hR k0 hc) clX12 k0 ceX12_barrelOf q1602 ⟨rfl, rfl, rfl, rfl⟩ rfl rfl rfl dX12_partsNow_3 ?_
  refine z_aload_n K dX12_partsNow_6 rfl ?_
  refine z_getR K clX12 k0 6 rfl rfl q1344 dX12_partsNow_7 ?_
  refine z_bipush K 82 dX12_partsNow_10 rfl ?_
  obtain ⟨hi, h⟩ := ix_e h
  refine z_iald K (hR.at (k := 6) (t := 20270) k0 rfl rfl) rfl rfl rfl hi dX12_partsNow_12 ?_
  obtain ⟨u2, hc, h⟩ := bd1_e h
  refine z_callVI K (mX12_partsOf l hR k0 hc) clX12 k0 ceX12_partsOf q1618 ⟨rfl, rfl, rfl, rfl⟩ rfl rfl rfl dX12_partsNow_13 ?_
  obtain rfl := Option.some.inj h
  exact z_iret K dX12_partsNow_16
/-! GoingOverModel.fateOf (I)I -/
abbrev rmX12_fateOf : Room := { frames := 3, cells := 0, slots := 0, locals := 74 }
def pX12_fateOf (R : Rf) (T : Mm) (a0 : Nat) (x1 : Int32) : Option (Int32) :=
  bd1 (pX12_barrelOf R T a0 x1) (fun (u1 : Int32) => bd1 (pX12_fateJoins R T a0 x1) (fun (u2 : Int32) => bd1 (pX12_partsOf R T a0 u1 u2) (fun (u3 : Int32) => some u3)))
set_option maxRecDepth 100000 in
set_option maxHeartbeats 4000000 in
theorem mX12_fateOf {g : Gl} {R : Rf} {T : Mm} {a0 : Nat} {x1 : Int32} (l : Launch) (hR : Ty g R) (k0 : kd g a0 = 12) {r : Int32} (h : pX12_fateOf R T a0 x1 = some r) : MI l g yX12_fateOf cX12_fateOf 2 (some .int) rmX12_fateOf [.ref (g.2.2.1 a0), .int x1] R T r R T := by
  refine z_metI (own := RX12) (lv := [some (.ref (g.2.2.1 a0)), some (.int x1)]) (by decide +kernel) rfl rfl rfl (fun X K => ?_)
  unfold pX12_fateOf at h
  refine z_aload_n K dX12_fateOf_0 rfl ?_
  refine z_aload_n K dX12_fateOf_1 rfl ?_
  refine z_iload_n K dX12_fateOf_2 rfl ?_
  obtain ⟨u1, hc, h⟩ := bd1_e h
  refine z_callVI K (mX12_barrelOf l hR k0 hc) clX12 k0 ceX12_barrelOf q1602 ⟨rfl, rfl, rfl, rfl⟩ rfl rfl rfl dX12_fateOf_3 ?_
  refine z_aload_n K dX12_fateOf_6 rfl ?_
  refine z_iload_n K dX12_fateOf_7 rfl ?_
  obtain ⟨u2, hc, h⟩ := bd1_e h
  refine z_callVI K (mX12_fateJoins l hR k0 hc) clX12 k0 ceX12_fateJoins q1745 ⟨rfl, rfl, rfl, rfl⟩ rfl rfl rfl dX12_fateOf_8 ?_
  obtain ⟨u3, hc, h⟩ := bd1_e h
  refine z_callVI K (mX12_partsOf l hR k0 hc) clX12 k0 ceX12_partsOf q1618 ⟨rfl, rfl, rfl, rfl⟩ rfl rfl rfl dX12_fateOf_11 ?_
  obtain rfl := Option.some.inj h
  exact z_iret K dX12_fateOf_14
/-! GoingOverModel.lowestBit (I)I -/
abbrev rmX12_lowestBit : Room := { frames := 1, cells := 0, slots := 0, locals := 21 }
def pX12_lowestBit_2 (R : Rf) (T : Mm) (a0 : Nat) (x1 : Int32) (e16 : Int32 → Option (Int32)) (r2 : Int32 → Option (Int32)) (x2 : Int32) : Option (Int32) :=
  bd1 (pX12_bitOf R T x1 x2) (fun (u1 : Int32) => if u1 = 0 then lt (x2 + 1) (fun (v2 : Int32) => r2 v2) else e16 x2)
def pX12_lowestBit_16 (R : Rf) (T : Mm) (a0 : Nat) (x1 : Int32) (x2 : Int32) : Option (Int32) :=
  some x2
def pX12_lowestBit (R : Rf) (T : Mm) (a0 : Nat) (x1 : Int32) : Option (Int32) :=
  zl1 (pX12_lowestBit_2 R T a0 x1 (pX12_lowestBit_16 R T a0 x1)) FU 0
set_option maxRecDepth 100000 in
set_option maxHeartbeats 4000000 in
theorem wX12_lowestBit_2 {X : Cx} {g : Gl} {l : Launch} {R : Rf} {T : Mm} {a0 : Nat} {x1 : Int32} (K : Ok X g l cX12_lowestBit RX12 3 (some .int) rmX12_lowestBit) (hR : Ty g R) (k0 : kd g a0 = 12) {r : Int32} {e16 : Int32 → Option (Int32)} (he16 : ∀ (x2 : Int32), e16 x2 = some r → Zj X g 3 (QI X g r R T) R T [none, none, some (.int x2)] [] 16) : ∀ (n : Nat) (x2 : Int32), zl1 (pX12_lowestBit_2 R T a0 x1 e16) n x2 = some r → Zj X g 3 (QI X g r R T) R T [none, some (.int x1), some (.int x2)] [] 2 := by
  intro n
  induction n with
  | zero =>
    intro x2 h
    exact absurd h (by simp [zl1])
  | succ n hr2 =>
    intro x2 h
    rw [zl1_s] at h
    unfold pX12_lowestBit_2 at h
    refine z_iload_n K dX12_lowestBit_2 rfl ?_
    refine z_iload_n K dX12_lowestBit_3 rfl ?_
    obtain ⟨u1, hc, h⟩ := bd1_e h
    refine z_callSI K (mX12_bitOf l hR hc) ceX12_bitOf q1524 ⟨rfl, rfl, rfl, rfl⟩ rfl rfl rfl dX12_lowestBit_4 ?_
    refine z_if_ne K 16 dX12_lowestBit_7 (by decide) (fun c => ?_) (fun c => ?_)
    · have h := ite_f h c
      refine Zj.mask [false, false, true] ?_
      exact he16 _ h
    · have h := ite_t h c
      refine z_iinc K 1 dX12_lowestBit_10 rfl rfl rfl rfl ?_
      refine z_goto K 2 dX12_lowestBit_13 (by decide) ?_
      refine Zj.mask [false, true, true] ?_
      exact hr2 _ h
set_option maxRecDepth 100000 in
set_option maxHeartbeats 4000000 in
theorem wX12_lowestBit_16 {X : Cx} {g : Gl} {l : Launch} {R : Rf} {T : Mm} {a0 : Nat} {x1 : Int32} (K : Ok X g l cX12_lowestBit RX12 3 (some .int) rmX12_lowestBit) (hR : Ty g R) (k0 : kd g a0 = 12) {r : Int32} (x2 : Int32) (h : pX12_lowestBit_16 R T a0 x1 x2 = some r) : Zj X g 3 (QI X g r R T) R T [none, none, some (.int x2)] [] 16 := by
  unfold pX12_lowestBit_16 at h
  refine z_iload_n K dX12_lowestBit_16 rfl ?_
  obtain rfl := Option.some.inj h
  exact z_iret K dX12_lowestBit_17
set_option maxRecDepth 100000 in
set_option maxHeartbeats 4000000 in
theorem mX12_lowestBit {g : Gl} {R : Rf} {T : Mm} {a0 : Nat} {x1 : Int32} (l : Launch) (hR : Ty g R) (k0 : kd g a0 = 12) {r : Int32} (h : pX12_lowestBit R T a0 x1 = some r) : MI l g yX12_lowestBit cX12_lowestBit 3 (some .int) rmX12_lowestBit [.ref (g.2.2.1 a0), .int x1] R T r R T := by
  refine z_metI (own := RX12) (lv := [some (.ref (g.2.2.1 a0)), some (.int x1), none]) (by decide +kernel) rfl rfl rfl (fun X K => ?_)
  unfold pX12_lowestBit at h
  refine z_iconst K 0 dX12_lowestBit_0 rfl ?_
  refine z_istore_n K dX12_lowestBit_1 rfl rfl ?_
  refine Zj.mask [false, true, true] ?_
  exact wX12_lowestBit_2 K hR k0 (wX12_lowestBit_16 K hR k0) FU _ h
/-! GoingOverModel.who0 (I)I -/
abbrev rmX12_who0 : Room := { frames := 0, cells := 0, slots := 0, locals := 0 }
def pX12_who0_4 (R : Rf) (T : Mm) (a0 : Nat) (x1 : Int32) (e43 : Int32 → Option (Int32)) (r4 : Int32 → Int32 → Option (Int32)) (x2 : Int32) (x3 : Int32) : Option (Int32) :=
  ix 0 270 (if (T.1 (R a0 6) (0 : Int32).toNatClampNeg) ≤ x3 then e43 x2 else ix (84 + x3) 270 (if (T.1 (R a0 6) (84 + x3).toNatClampNeg) = x1 then lt (x2 ||| (1 <<< (x3 &&& 31))) (fun (v3 : Int32) => lt (x3 + 1) (fun (v4 : Int32) => r4 v3 v4)) else lt (x2 ||| 0) (fun (v1 : Int32) => lt (x3 + 1) (fun (v2 : Int32) => r4 v1 v2))))
def pX12_who0_43 (R : Rf) (T : Mm) (a0 : Nat) (x1 : Int32) (x2 : Int32) : Option (Int32) :=
  some x2
def pX12_who0 (R : Rf) (T : Mm) (a0 : Nat) (x1 : Int32) : Option (Int32) :=
  zl2 (pX12_who0_4 R T a0 x1 (pX12_who0_43 R T a0 x1)) FU 0 0
set_option maxRecDepth 100000 in
set_option maxHeartbeats 4000000 in
theorem wX12_who0_4 {X : Cx} {g : Gl} {l : Launch} {R : Rf} {T : Mm} {a0 : Nat} {x1 : Int32} (K : Ok X g l cX12_who0 RX12 4 (some .int) rmX12_who0) (hR : Ty g R) (k0 : kd g a0 = 12) {r : Int32} {e43 : Int32 → Option (Int32)} (he43 : ∀ (x2 : Int32), e43 x2 = some r → Zj X g 4 (QI X g r R T) R T [none, none, some (.int x2), none] [] 43) : ∀ (n : Nat) (x2 : Int32) (x3 : Int32), zl2 (pX12_who0_4 R T a0 x1 e43) n x2 x3 = some r → Zj X g 4 (QI X g r R T) R T [some (.ref (g.2.2.1 a0)), some (.int x1), some (.int x2), some (.int x3)] [] 4 := by
  intro n
  induction n with
  | zero =>
    intro x2 x3 h
    exact absurd h (by simp [zl2])
  | succ n hr4 =>
    intro x2 x3 h
    rw [zl2_s] at h
    unfold pX12_who0_4 at h
    refine z_iload_n K dX12_who0_4 rfl ?_
    refine z_aload_n K dX12_who0_5 rfl ?_
    refine z_getR K clX12 k0 6 rfl rfl q1344 dX12_who0_6 ?_
    refine z_iconst K 0 dX12_who0_9 rfl ?_
    obtain ⟨hi, h⟩ := ix_e h
    refine z_iald K (hR.at (k := 6) (t := 20270) k0 rfl rfl) rfl rfl rfl hi dX12_who0_10 ?_
    refine z_icmp_ge K 43 dX12_who0_11 (by decide) (fun c => ?_) (fun c => ?_)
    · have h := ite_t h c
      refine Zj.mask [false, false, true, false] ?_
      exact he43 _ h
    · have h := ite_f h c
      refine z_iload_n K dX12_who0_14 rfl ?_
      refine z_aload_n K dX12_who0_15 rfl ?_
      refine z_getR K clX12 k0 6 rfl rfl q1344 dX12_who0_16 ?_
      refine z_bipush K 84 dX12_who0_19 rfl ?_
      refine z_iload_n K dX12_who0_21 rfl ?_
      refine z_iadd K dX12_who0_22 ?_
      obtain ⟨hi, h⟩ := ix_e h
      refine z_iald K (hR.at (k := 6) (t := 20270) k0 rfl rfl) rfl rfl rfl hi dX12_who0_23 ?_
      refine z_iload_n K dX12_who0_24 rfl ?_
      refine z_icmp_ne K 34 dX12_who0_25 (by decide) (fun c => ?_) (fun c => ?_)
      · have h := ite_f h c
        refine z_iconst K 0 dX12_who0_34 rfl ?_
        refine z_ior K dX12_who0_35 ?_
        refine z_istore_n K dX12_who0_36 rfl rfl ?_
        refine z_iinc K 1 dX12_who0_37 rfl rfl rfl rfl ?_
        refine z_goto K 4 dX12_who0_40 (by decide) ?_
        refine Zj.mask [true, true, true, true] ?_
        exact hr4 _ _ h
      · have h := ite_t h c
        refine z_iconst K 1 dX12_who0_28 rfl ?_
        refine z_iload_n K dX12_who0_29 rfl ?_
        refine z_ishl K dX12_who0_30 ?_
        refine z_goto K 35 dX12_who0_31 (by decide) ?_
        refine z_ior K dX12_who0_35 ?_
        refine z_istore_n K dX12_who0_36 rfl rfl ?_
        refine z_iinc K 1 dX12_who0_37 rfl rfl rfl rfl ?_
        refine z_goto K 4 dX12_who0_40 (by decide) ?_
        refine Zj.mask [true, true, true, true] ?_
        exact hr4 _ _ h
set_option maxRecDepth 100000 in
set_option maxHeartbeats 4000000 in
theorem wX12_who0_43 {X : Cx} {g : Gl} {l : Launch} {R : Rf} {T : Mm} {a0 : Nat} {x1 : Int32} (K : Ok X g l cX12_who0 RX12 4 (some .int) rmX12_who0) (hR : Ty g R) (k0 : kd g a0 = 12) {r : Int32} (x2 : Int32) (h : pX12_who0_43 R T a0 x1 x2 = some r) : Zj X g 4 (QI X g r R T) R T [none, none, some (.int x2), none] [] 43 := by
  unfold pX12_who0_43 at h
  refine z_iload_n K dX12_who0_43 rfl ?_
  obtain rfl := Option.some.inj h
  exact z_iret K dX12_who0_44
set_option maxRecDepth 100000 in
set_option maxHeartbeats 4000000 in
theorem mX12_who0 {g : Gl} {R : Rf} {T : Mm} {a0 : Nat} {x1 : Int32} (l : Launch) (hR : Ty g R) (k0 : kd g a0 = 12) {r : Int32} (h : pX12_who0 R T a0 x1 = some r) : MI l g yX12_who0 cX12_who0 4 (some .int) rmX12_who0 [.ref (g.2.2.1 a0), .int x1] R T r R T := by
  refine z_metI (own := RX12) (lv := [some (.ref (g.2.2.1 a0)), some (.int x1), none, none]) (by decide +kernel) rfl rfl rfl (fun X K => ?_)
  unfold pX12_who0 at h
  refine z_iconst K 0 dX12_who0_0 rfl ?_
  refine z_istore_n K dX12_who0_1 rfl rfl ?_
  refine z_iconst K 0 dX12_who0_2 rfl ?_
  refine z_istore_n K dX12_who0_3 rfl rfl ?_
  refine Zj.mask [true, true, true, true] ?_
  exact wX12_who0_4 K hR k0 (wX12_who0_43 K hR k0) FU _ _ h
/-! GoingOverModel.person (II)I -/
abbrev rmX12_person : Room := { frames := 4, cells := 0, slots := 0, locals := 95 }
def pX12_person_23 (R : Rf) (a0 : Nat) (x1 : Int32) (x2 : Int32) (T : Mm) (as0 : Nat) (xs1 : Int32) : Option (Int32 × Mm) :=
  bd2 (pX12_throwsIf R T as0 xs1) (fun (u2 : Int32) (T2 : Mm) => if u2 = 0 then if x2 = 0 then ix (7 + x1) 270 (some (T2.1 (R a0 6) (7 + x1).toNatClampNeg, T2)) else if x2 = 1 then ix (84 + x1) 270 (some (T2.1 (R a0 6) (84 + x1).toNatClampNeg, T2)) else if x2 = 2 then bd1 (pX12_weightOf R T2 a0 x1) (fun (u4 : Int32) => some (u4, T2)) else if x2 = 3 then bd1 (pX12_partsNow R T2 a0 x1) (fun (u5 : Int32) => some (u5, T2)) else if x2 = 4 then bd1 (pX12_barrelOf R T2 a0 x1) (fun (u6 : Int32) => some (u6, T2)) else bd1 (pX12_allOf R T2 a0 x1) (fun (u3 : Int32) => some (u3, T2)) else some (0, T2))
def pX12_person_18 (R : Rf) (a0 : Nat) (x1 : Int32) (x2 : Int32) (T : Mm) (as0 : Nat) : Option (Int32 × Mm) :=
  pX12_person_23 R a0 x1 x2 T as0 1
def pX12_person (R : Rf) (T : Mm) (a0 : Nat) (x1 : Int32) (x2 : Int32) : Option (Int32 × Mm) :=
  bd1 (pX12_isPerson R T a0 x1) (fun (u1 : Int32) => if u1 = 0 then pX12_person_18 R a0 x1 x2 T a0 else bd1 (pX12_isIn R T x2 0 5) (fun (u7 : Int32) => if u7 = 0 then pX12_person_18 R a0 x1 x2 T a0 else pX12_person_23 R a0 x1 x2 T a0 0))
set_option maxRecDepth 100000 in
set_option maxHeartbeats 4000000 in
theorem wX12_person_23 {X : Cx} {g : Gl} {l : Launch} {R : Rf} {a0 : Nat} {x1 : Int32} {x2 : Int32} (K : Ok X g l cX12_person RX12 3 (some .int) rmX12_person) (hR : Ty g R) (k0 : kd g a0 = 12) {r : Int32 × Mm} (T : Mm) (as0 : Nat) (xs1 : Int32) (ks0 : kd g as0 = 12) (h : pX12_person_23 R a0 x1 x2 T as0 xs1 = some r) : Zj X g 3 (QI X g r.1 R r.2) R T [some (.ref (g.2.2.1 a0)), some (.int x1), some (.int x2)] [.int xs1, .ref (g.2.2.1 as0)] 23 := by
  unfold pX12_person_23 at h
  obtain ⟨u2, T2, hc, h⟩ := bd2_e h
  refine z_callVI K (mX12_throwsIf l hR ks0 hc) clX12 ks0 ceX12_throwsIf q1594 ⟨rfl, rfl, rfl, rfl⟩ rfl rfl rfl dX12_person_23 ?_
  refine z_if_eq K 31 dX12_person_26 (by decide) (fun c => ?_) (fun c => ?_)
  · have h := ite_t h c
    refine z_iload_n K dX12_person_31 rfl ?_
    rcases ite_or h with ⟨c0, h⟩ | ⟨c0, h⟩
    · refine z_tin K 68 0 c0 dX12_person_32 (by decide) (by decide) rfl (by decide) ?_
      refine z_aload_n K dX12_person_68 rfl ?_
      refine z_getR K clX12 k0 6 rfl rfl q1344 dX12_person_69 ?_
      refine z_bipush K 7 dX12_person_72 rfl ?_
      refine z_iload_n K dX12_person_74 rfl ?_
      refine z_iadd K dX12_person_75 ?_
      obtain ⟨hi, h⟩ := ix_e h
      refine z_iald K (hR.at (k := 6) (t := 20270) k0 rfl rfl) rfl rfl rfl hi dX12_person_76 ?_
      obtain rfl := Option.some.inj h
      exact z_iret K dX12_person_77
    rcases ite_or h with ⟨c1, h⟩ | ⟨c1, h⟩
    · refine z_tin K 78 1 c1 dX12_person_32 (by decide) (by decide) rfl (by decide) ?_
      refine z_aload_n K dX12_person_78 rfl ?_
      refine z_getR K clX12 k0 6 rfl rfl q1344 dX12_person_79 ?_
      refine z_bipush K 84 dX12_person_82 rfl ?_
      refine z_iload_n K dX12_person_84 rfl ?_
      refine z_iadd K dX12_person_85 ?_
      obtain ⟨hi, h⟩ := ix_e h
      refine z_iald K (hR.at (k := 6) (t := 20270) k0 rfl rfl) rfl rfl rfl hi dX12_person_86 ?_
      obtain rfl := Option.some.inj h
      exact z_iret K dX12_person_87
    rcases ite_or h with ⟨c2, h⟩ | ⟨c2, h⟩
    · refine z_tin K 88 2 c2 dX12_person_32 (by decide) (by decide) rfl (by decide) ?_
      refine z_aload_n K dX12_person_88 rfl ?_
      refine z_iload_n K dX12_person_89 rfl ?_
      obtain ⟨u4, hc, h⟩ := bd1_e h
      refine z_callVI K (mX12_weightOf l hR k0 hc) clX12 k0 ceX12_weightOf q1598 ⟨rfl, rfl, rfl, rfl⟩ rfl rfl rfl dX12_person_90 ?_
      obtain rfl := Option.some.inj h
      exact z_iret K dX12_person_93
    rcases ite_or h with ⟨c3, h⟩ | ⟨c3, h⟩
    · refine z_tin K 94 3 c3 dX12_person_32 (by decide) (by decide) rfl (by decide) ?_
      refine z_aload_n K dX12_person_94 rfl ?_
      refine z_iload_n K dX12_person_95 rfl ?_
      obtain ⟨u5, hc, h⟩ := bd1_e h
      refine z_callVI K (mX12_partsNow l hR k0 hc) clX12 k0 ceX12_partsNow q1614 ⟨rfl, rfl, rfl, rfl⟩ rfl rfl rfl dX12_person_96 ?_
      obtain rfl := Option.some.inj h
      exact z_iret K dX12_person_99
    rcases ite_or h with ⟨c4, h⟩ | ⟨c4, h⟩
    · refine z_tin K 100 4 c4 dX12_person_32 (by decide) (by decide) rfl (by decide) ?_
      refine z_aload_n K dX12_person_100 rfl ?_
      refine z_iload_n K dX12_person_101 rfl ?_
      obtain ⟨u6, hc, h⟩ := bd1_e h
      refine z_callVI K (mX12_barrelOf l hR k0 hc) clX12 k0 ceX12_barrelOf q1602 ⟨rfl, rfl, rfl, rfl⟩ rfl rfl rfl dX12_person_102 ?_
      obtain rfl := Option.some.inj h
      exact z_iret K dX12_person_105
    refine z_tout K 106 5 (lt_p (lt_s (lt_s (lt_s (lt_s (lt_s lt_0 c0) c1) c2) c3) c4)) dX12_person_32 (by decide) (by decide) (by decide) ?_
    refine z_aload_n K dX12_person_106 rfl ?_
    refine z_iload_n K dX12_person_107 rfl ?_
    obtain ⟨u3, hc, h⟩ := bd1_e h
    refine z_callVI K (mX12_allOf l hR k0 hc) clX12 k0 ceX12_allOf q1606 ⟨rfl, rfl, rfl, rfl⟩ rfl rfl rfl dX12_person_108 ?_
    obtain rfl := Option.some.inj h
    exact z_iret K dX12_person_111
  · have h := ite_f h c
    refine z_iconst K 0 dX12_person_29 rfl ?_
    obtain rfl := Option.some.inj h
    exact z_iret K dX12_person_30
set_option maxRecDepth 100000 in
set_option maxHeartbeats 4000000 in
theorem wX12_person_18 {X : Cx} {g : Gl} {l : Launch} {R : Rf} {a0 : Nat} {x1 : Int32} {x2 : Int32} (K : Ok X g l cX12_person RX12 3 (some .int) rmX12_person) (hR : Ty g R) (k0 : kd g a0 = 12) {r : Int32 × Mm} (T : Mm) (as0 : Nat) (ks0 : kd g as0 = 12) (h : pX12_person_18 R a0 x1 x2 T as0 = some r) : Zj X g 3 (QI X g r.1 R r.2) R T [some (.ref (g.2.2.1 a0)), some (.int x1), some (.int x2)] [.ref (g.2.2.1 as0)] 18 := by
  unfold pX12_person_18 at h
  refine z_iconst K 1 dX12_person_18 rfl ?_
  refine z_goto K 23 dX12_person_19 (by decide) ?_
  refine Zj.mask [true, true, true] ?_
  exact wX12_person_23 K hR k0 _ _ _ ks0 h
set_option maxRecDepth 100000 in
set_option maxHeartbeats 4000000 in
theorem mX12_person {g : Gl} {R : Rf} {T : Mm} {a0 : Nat} {x1 : Int32} {x2 : Int32} (l : Launch) (hR : Ty g R) (k0 : kd g a0 = 12) {r : Int32 × Mm} (h : pX12_person R T a0 x1 x2 = some r) : MI l g yX12_person cX12_person 3 (some .int) rmX12_person [.ref (g.2.2.1 a0), .int x1, .int x2] R T r.1 R r.2 := by
  refine z_metI (own := RX12) (lv := [some (.ref (g.2.2.1 a0)), some (.int x1), some (.int x2)]) (by decide +kernel) rfl rfl rfl (fun X K => ?_)
  unfold pX12_person at h
  refine z_aload_n K dX12_person_0 rfl ?_
  refine z_aload_n K dX12_person_1 rfl ?_
  refine z_iload_n K dX12_person_2 rfl ?_
  obtain ⟨u1, hc, h⟩ := bd1_e h
  refine z_callVI K (mX12_isPerson l hR k0 hc) clX12 k0 ceX12_isPerson q1590 ⟨rfl, rfl, rfl, rfl⟩ rfl rfl rfl dX12_person_3 ?_
  refine z_if_eq K 18 dX12_person_6 (by decide) (fun c => ?_) (fun c => ?_)
  · have h := ite_t h c
    refine Zj.mask [true, true, true] ?_
    exact wX12_person_18 K hR k0 _ _ k0 h
  · have h := ite_f h c
    refine z_iload_n K dX12_person_9 rfl ?_
    refine z_iconst K 0 dX12_person_10 rfl ?_
    refine z_iconst K 5 dX12_person_11 rfl ?_
    obtain ⟨u7, hc, h⟩ := bd1_e h
    refine z_callSI K (mX12_isIn l hR hc) ceX12_isIn q1539 ⟨rfl, rfl, rfl, rfl⟩ rfl rfl rfl dX12_person_12 ?_
    refine z_if_ne K 22 dX12_person_15 (by decide) (fun c => ?_) (fun c => ?_)
    · have h := ite_f h c
      refine z_iconst K 0 dX12_person_22 rfl ?_
      refine Zj.mask [true, true, true] ?_
      exact wX12_person_23 K hR k0 _ _ _ k0 h
    · have h := ite_t h c
      refine Zj.mask [true, true, true] ?_
      exact wX12_person_18 K hR k0 _ _ k0 h
/-! GoingOverModel.item (II)I -/
abbrev rmX12_item : Room := { frames := 2, cells := 0, slots := 0, locals := 49 }
def pX12_item_60 (R : Rf) (a0 : Nat) (x1 : Int32) (x2 : Int32) (r20 : Mm → Int32 → Int32 → Option (Int32 × Mm)) (e76 : Mm → Int32 → Option (Int32 × Mm)) (T : Mm) (x4 : Int32) (xs0 : Int32) : Option (Int32 × Mm) :=
  lt (xs0 ||| (1 <<< (x4 &&& 31))) (fun (v3 : Int32) => lt (x4 + 1) (fun (v4 : Int32) => r20 T v3 v4))
def pX12_item_20 (R : Rf) (a0 : Nat) (x1 : Int32) (x2 : Int32) (e76 : Mm → Int32 → Option (Int32 × Mm)) (r20 : Mm → Int32 → Int32 → Option (Int32 × Mm)) (T : Mm) (x3 : Int32) (x4 : Int32) : Option (Int32 × Mm) :=
  ix 2 270 (if (T.1 (R a0 6) (2 : Int32).toNatClampNeg) ≤ x4 then e76 T x3 else ix (32 + x4) 270 (if (T.1 (R a0 6) (32 + x4).toNatClampNeg) = x1 then pX12_item_60 R a0 x1 x2 r20 e76 T x4 x3 else ix (48 + x4) 270 (if (T.1 (R a0 6) (48 + x4).toNatClampNeg) = x1 then pX12_item_60 R a0 x1 x2 r20 e76 T x4 x3 else lt (x3 ||| 0) (fun (v5 : Int32) => lt (x4 + 1) (fun (v6 : Int32) => r20 T v5 v6)))))
def pX12_item_76 (R : Rf) (a0 : Nat) (x1 : Int32) (x2 : Int32) (T : Mm) (x3 : Int32) : Option (Int32 × Mm) :=
  if x2 = 0 then ix (12 + x1) 270 (some (T.1 (R a0 6) (12 + x1).toNatClampNeg, T)) else if x2 = 1 then ix (22 + x1) 270 (some (T.1 (R a0 6) (22 + x1).toNatClampNeg, T)) else if x2 = 2 then ix 81 270 (some (((T.1 (R a0 6) (81 : Int32).toNatClampNeg) >>> (x1 &&& 31)) &&& 1, T)) else if x2 = 3 then some (x3, T) else if x2 = 4 then ix 81 270 (bd1 (pX12_bitOf R T (T.1 (R a0 6) (81 : Int32).toNatClampNeg) x1) (fun (u7 : Int32) => if u7 = 0 then some (x1, T) else ix 81 270 (ix 82 270 (bd1 (pX12_heldWith R T a0 x1 (T.1 (R a0 6) (81 : Int32).toNatClampNeg) (T.1 (R a0 6) (82 : Int32).toNatClampNeg)) (fun (u8 : Int32) => bd1 (pX12_lowestBit R T a0 u8) (fun (u9 : Int32) => some (u9, T))))))) else some ((-1), T)
def pX12_item (R : Rf) (T : Mm) (a0 : Nat) (x1 : Int32) (x2 : Int32) : Option (Int32 × Mm) :=
  lt (wI T a0 0 0) (fun (T1 : Mm) => bd1 (pX12_isItem R T1 a0 x1) (fun (u2 : Int32) => if u2 = 0 then some ((-1), T1) else zl3 (pX12_item_20 R a0 x1 x2 (pX12_item_76 R a0 x1 x2)) FU T1 0 0))
set_option maxRecDepth 100000 in
set_option maxHeartbeats 4000000 in
theorem wX12_item_60 {X : Cx} {g : Gl} {l : Launch} {R : Rf} {a0 : Nat} {x1 : Int32} {x2 : Int32} (K : Ok X g l cX12_item RX12 5 (some .int) rmX12_item) (hR : Ty g R) (k0 : kd g a0 = 12) {r : Int32 × Mm} {r20 : Mm → Int32 → Int32 → Option (Int32 × Mm)} (hr20 : ∀ (T : Mm) (x3 : Int32) (x4 : Int32), r20 T x3 x4 = some r → Zj X g 5 (QI X g r.1 R r.2) R T [some (.ref (g.2.2.1 a0)), some (.int x1), some (.int x2), some (.int x3), some (.int x4)] [] 20) {e76 : Mm → Int32 → Option (Int32 × Mm)} (he76 : ∀ (T : Mm) (x3 : Int32), e76 T x3 = some r → Zj X g 5 (QI X g r.1 R r.2) R T [some (.ref (g.2.2.1 a0)), some (.int x1), some (.int x2), some (.int x3), none] [] 76) (T : Mm) (x4 : Int32) (xs0 : Int32) (h : pX12_item_60 R a0 x1 x2 r20 e76 T x4 xs0 = some r) : Zj X g 5 (QI X g r.1 R r.2) R T [some (.ref (g.2.2.1 a0)), some (.int x1), some (.int x2), none, some (.int x4)] [.int xs0] 60 := by
  unfold pX12_item_60 at h
  refine z_iconst K 1 dX12_item_60 rfl ?_
  refine z_iload K dX12_item_61 rfl ?_
  refine z_ishl K dX12_item_63 ?_
  refine z_goto K 68 dX12_item_64 (by decide) ?_
  refine z_ior K dX12_item_68 ?_
  refine z_istore_n K dX12_item_69 rfl rfl ?_
  refine z_iinc K 1 dX12_item_70 rfl rfl rfl rfl ?_
  refine z_goto K 20 dX12_item_73 (by decide) ?_
  refine Zj.mask [true, true, true, true, true] ?_
  exact hr20 _ _ _ h
set_option maxRecDepth 100000 in
set_option maxHeartbeats 4000000 in
theorem wX12_item_20 {X : Cx} {g : Gl} {l : Launch} {R : Rf} {a0 : Nat} {x1 : Int32} {x2 : Int32} (K : Ok X g l cX12_item RX12 5 (some .int) rmX12_item) (hR : Ty g R) (k0 : kd g a0 = 12) {r : Int32 × Mm} {e76 : Mm → Int32 → Option (Int32 × Mm)} (he76 : ∀ (T : Mm) (x3 : Int32), e76 T x3 = some r → Zj X g 5 (QI X g r.1 R r.2) R T [some (.ref (g.2.2.1 a0)), some (.int x1), some (.int x2), some (.int x3), none] [] 76) : ∀ (n : Nat) (T : Mm) (x3 : Int32) (x4 : Int32), zl3 (pX12_item_20 R a0 x1 x2 e76) n T x3 x4 = some r → Zj X g 5 (QI X g r.1 R r.2) R T [some (.ref (g.2.2.1 a0)), some (.int x1), some (.int x2), some (.int x3), some (.int x4)] [] 20 := by
  intro n
  induction n with
  | zero =>
    intro T x3 x4 h
    exact absurd h (by simp [zl3])
  | succ n hr20 =>
    intro T x3 x4 h
    rw [zl3_s] at h
    unfold pX12_item_20 at h
    refine z_iload K dX12_item_20 rfl ?_
    refine z_aload_n K dX12_item_22 rfl ?_
    refine z_getR K clX12 k0 6 rfl rfl q1344 dX12_item_23 ?_
    refine z_iconst K 2 dX12_item_26 rfl ?_
    obtain ⟨hi, h⟩ := ix_e h
    refine z_iald K (hR.at (k := 6) (t := 20270) k0 rfl rfl) rfl rfl rfl hi dX12_item_27 ?_
    refine z_icmp_ge K 76 dX12_item_28 (by decide) (fun c => ?_) (fun c => ?_)
    · have h := ite_t h c
      refine Zj.mask [true, true, true, true, false] ?_
      exact he76 _ _ h
    · have h := ite_f h c
      refine z_iload_n K dX12_item_31 rfl ?_
      refine z_aload_n K dX12_item_32 rfl ?_
      refine z_getR K clX12 k0 6 rfl rfl q1344 dX12_item_33 ?_
      refine z_bipush K 32 dX12_item_36 rfl ?_
      refine z_iload K dX12_item_38 rfl ?_
      refine z_iadd K dX12_item_40 ?_
      obtain ⟨hi, h⟩ := ix_e h
      refine z_iald K (hR.at (k := 6) (t := 20270) k0 rfl rfl) rfl rfl rfl hi dX12_item_41 ?_
      refine z_iload_n K dX12_item_42 rfl ?_
      refine z_icmp_eq K 60 dX12_item_43 (by decide) (fun c => ?_) (fun c => ?_)
      · have h := ite_t h c
        refine Zj.mask [true, true, true, false, true] ?_
        exact wX12_item_60 K hR k0 hr20 he76 _ _ _ h
      · have h := ite_f h c
        refine z_aload_n K dX12_item_46 rfl ?_
        refine z_getR K clX12 k0 6 rfl rfl q1344 dX12_item_47 ?_
        refine z_bipush K 48 dX12_item_50 rfl ?_
        refine z_iload K dX12_item_52 rfl ?_
        refine z_iadd K dX12_item_54 ?_
        obtain ⟨hi, h⟩ := ix_e h
        refine z_iald K (hR.at (k := 6) (t := 20270) k0 rfl rfl) rfl rfl rfl hi dX12_item_55 ?_
        refine z_iload_n K dX12_item_56 rfl ?_
        refine z_icmp_ne K 67 dX12_item_57 (by decide) (fun c => ?_) (fun c => ?_)
        · have h := ite_f h c
          refine z_iconst K 0 dX12_item_67 rfl ?_
          refine z_ior K dX12_item_68 ?_
          refine z_istore_n K dX12_item_69 rfl rfl ?_
          refine z_iinc K 1 dX12_item_70 rfl rfl rfl rfl ?_
          refine z_goto K 20 dX12_item_73 (by decide) ?_
          refine Zj.mask [true, true, true, true, true] ?_
          exact hr20 _ _ _ h
        · have h := ite_t h c
          refine Zj.mask [true, true, true, false, true] ?_
          exact wX12_item_60 K hR k0 hr20 he76 _ _ _ h
set_option maxRecDepth 100000 in
set_option maxHeartbeats 4000000 in
theorem wX12_item_76 {X : Cx} {g : Gl} {l : Launch} {R : Rf} {a0 : Nat} {x1 : Int32} {x2 : Int32} (K : Ok X g l cX12_item RX12 5 (some .int) rmX12_item) (hR : Ty g R) (k0 : kd g a0 = 12) {r : Int32 × Mm} (T : Mm) (x3 : Int32) (h : pX12_item_76 R a0 x1 x2 T x3 = some r) : Zj X g 5 (QI X g r.1 R r.2) R T [some (.ref (g.2.2.1 a0)), some (.int x1), some (.int x2), some (.int x3), none] [] 76 := by
  unfold pX12_item_76 at h
  refine z_iload_n K dX12_item_76 rfl ?_
  rcases ite_or h with ⟨c0, h⟩ | ⟨c0, h⟩
  · refine z_tin K 112 0 c0 dX12_item_77 (by decide) (by decide) rfl (by decide) ?_
    refine z_aload_n K dX12_item_112 rfl ?_
    refine z_getR K clX12 k0 6 rfl rfl q1344 dX12_item_113 ?_
    refine z_bipush K 12 dX12_item_116 rfl ?_
    refine z_iload_n K dX12_item_118 rfl ?_
    refine z_iadd K dX12_item_119 ?_
    obtain ⟨hi, h⟩ := ix_e h
    refine z_iald K (hR.at (k := 6) (t := 20270) k0 rfl rfl) rfl rfl rfl hi dX12_item_120 ?_
    obtain rfl := Option.some.inj h
    exact z_iret K dX12_item_121
  rcases ite_or h with ⟨c1, h⟩ | ⟨c1, h⟩
  · refine z_tin K 122 1 c1 dX12_item_77 (by decide) (by decide) rfl (by decide) ?_
    refine z_aload_n K dX12_item_122 rfl ?_
    refine z_getR K clX12 k0 6 rfl rfl q1344 dX12_item_123 ?_
    refine z_bipush K 22 dX12_item_126 rfl ?_
    refine z_iload_n K dX12_item_128 rfl ?_
    refine z_iadd K dX12_item_129 ?_
    obtain ⟨hi, h⟩ := ix_e h
    refine z_iald K (hR.at (k := 6) (t := 20270) k0 rfl rfl) rfl rfl rfl hi dX12_item_130 ?_
    obtain rfl := Option.some.inj h
    exact z_iret K dX12_item_131
  rcases ite_or h with ⟨c2, h⟩ | ⟨c2, h⟩
  · refine z_tin K 132 2 c2 dX12_item_77 (by decide) (by decide) rfl (by decide) ?_
    refine z_aload_n K dX12_item_132 rfl ?_
    refine z_getR K clX12 k0 6 rfl rfl q1344 dX12_item_133 ?_
    refine z_bipush K 81 dX12_item_136 rfl ?_
    obtain ⟨hi, h⟩ := ix_e h
    refine z_iald K (hR.at (k := 6) (t := 20270) k0 rfl rfl) rfl rfl rfl hi dX12_item_138 ?_
    refine z_iload_n K dX12_item_139 rfl ?_
    refine z_ishr K dX12_item_140 ?_
    refine z_iconst K 1 dX12_item_141 rfl ?_
    refine z_iand K dX12_item_142 ?_
    obtain rfl := Option.some.inj h
    exact z_iret K dX12_item_143
  rcases ite_or h with ⟨c3, h⟩ | ⟨c3, h⟩
  · refine z_tin K 144 3 c3 dX12_item_77 (by decide) (by decide) rfl (by decide) ?_
    refine z_iload_n K dX12_item_144 rfl ?_
    obtain rfl := Option.some.inj h
    exact z_iret K dX12_item_145
  rcases ite_or h with ⟨c4, h⟩ | ⟨c4, h⟩
  · refine z_tin K 146 4 c4 dX12_item_77 (by decide) (by decide) rfl (by decide) ?_
    refine z_aload_n K dX12_item_146 rfl ?_
    refine z_getR K clX12 k0 6 rfl rfl q1344 dX12_item_147 ?_
    refine z_bipush K 81 dX12_item_150 rfl ?_
    obtain ⟨hi, h⟩ := ix_e h
    refine z_iald K (hR.at (k := 6) (t := 20270) k0 rfl rfl) rfl rfl rfl hi dX12_item_152 ?_
    refine z_iload_n K dX12_item_153 rfl ?_
    obtain ⟨u7, hc, h⟩ := bd1_e h
    refine z_callSI K (mX12_bitOf l hR hc) ceX12_bitOf q1524 ⟨rfl, rfl, rfl, rfl⟩ rfl rfl rfl dX12_item_154 ?_
    refine z_if_eq K 186 dX12_item_157 (by decide) (fun c => ?_) (fun c => ?_)
    · have h := ite_t h c
      refine z_iload_n K dX12_item_186 rfl ?_
      obtain rfl := Option.some.inj h
      exact z_iret K dX12_item_187
    · have h := ite_f h c
      refine z_aload_n K dX12_item_160 rfl ?_
      refine z_aload_n K dX12_item_161 rfl ?_
      refine z_iload_n K dX12_item_162 rfl ?_
      refine z_aload_n K dX12_item_163 rfl ?_
      refine z_getR K clX12 k0 6 rfl rfl q1344 dX12_item_164 ?_
      refine z_bipush K 81 dX12_item_167 rfl ?_
      obtain ⟨hi, h⟩ := ix_e h
      refine z_iald K (hR.at (k := 6) (t := 20270) k0 rfl rfl) rfl rfl rfl hi dX12_item_169 ?_
      refine z_aload_n K dX12_item_170 rfl ?_
      refine z_getR K clX12 k0 6 rfl rfl q1344 dX12_item_171 ?_
      refine z_bipush K 82 dX12_item_174 rfl ?_
      obtain ⟨hi, h⟩ := ix_e h
      refine z_iald K (hR.at (k := 6) (t := 20270) k0 rfl rfl) rfl rfl rfl hi dX12_item_176 ?_
      obtain ⟨u8, hc, h⟩ := bd1_e h
      refine z_callVI K (mX12_heldWith l hR k0 hc) clX12 k0 ceX12_heldWith q1622 ⟨rfl, rfl, rfl, rfl⟩ rfl rfl rfl dX12_item_177 ?_
      obtain ⟨u9, hc, h⟩ := bd1_e h
      refine z_callVI K (mX12_lowestBit l hR k0 hc) clX12 k0 ceX12_lowestBit q1637 ⟨rfl, rfl, rfl, rfl⟩ rfl rfl rfl dX12_item_180 ?_
      refine z_goto K 187 dX12_item_183 (by decide) ?_
      obtain rfl := Option.some.inj h
      exact z_iret K dX12_item_187
  refine z_tout K 188 5 (lt_p (lt_s (lt_s (lt_s (lt_s (lt_s lt_0 c0) c1) c2) c3) c4)) dX12_item_77 (by decide) (by decide) (by decide) ?_
  refine z_iconst K (-1) dX12_item_188 rfl ?_
  obtain rfl := Option.some.inj h
  exact z_iret K dX12_item_189
set_option maxRecDepth 100000 in
set_option maxHeartbeats 4000000 in
theorem mX12_item {g : Gl} {R : Rf} {T : Mm} {a0 : Nat} {x1 : Int32} {x2 : Int32} (l : Launch) (hR : Ty g R) (k0 : kd g a0 = 12) {r : Int32 × Mm} (h : pX12_item R T a0 x1 x2 = some r) : MI l g yX12_item cX12_item 5 (some .int) rmX12_item [.ref (g.2.2.1 a0), .int x1, .int x2] R T r.1 R r.2 := by
  refine z_metI (own := RX12) (lv := [some (.ref (g.2.2.1 a0)), some (.int x1), some (.int x2), none, none]) (by decide +kernel) rfl rfl rfl (fun X K => ?_)
  unfold pX12_item at h
  refine z_aload_n K dX12_item_0 rfl ?_
  refine z_iconst K 0 dX12_item_1 rfl ?_
  refine z_putI K clX12 tyX12_ok nmX12 k0 0 rfl rfl q1338 rfl rfl rfl dX12_item_2 ?_
  refine z_aload_n K dX12_item_5 rfl ?_
  refine z_iload_n K dX12_item_6 rfl ?_
  obtain ⟨u2, hc, h⟩ := bd1_e h
  refine z_callVI K (mX12_isItem l hR k0 hc) clX12 k0 ceX12_isItem q1633 ⟨rfl, rfl, rfl, rfl⟩ rfl rfl rfl dX12_item_7 ?_
  refine z_if_ne K 15 dX12_item_10 (by decide) (fun c => ?_) (fun c => ?_)
  · have h := ite_f h c
    refine z_iconst K 0 dX12_item_15 rfl ?_
    refine z_istore_n K dX12_item_16 rfl rfl ?_
    refine z_iconst K 0 dX12_item_17 rfl ?_
    refine z_istore K dX12_item_18 rfl rfl ?_
    refine Zj.mask [true, true, true, true, true] ?_
    exact wX12_item_20 K hR k0 (wX12_item_76 K hR k0) FU _ _ _ h
  · have h := ite_t h c
    refine z_iconst K (-1) dX12_item_13 rfl ?_
    obtain rfl := Option.some.inj h
    exact z_iret K dX12_item_14
/-! GoingOverModel.join (II)I -/
abbrev rmX12_join : Room := { frames := 2, cells := 0, slots := 0, locals := 43 }
def pX12_join (R : Rf) (T : Mm) (a0 : Nat) (x1 : Int32) (x2 : Int32) : Option (Int32 × Mm) :=
  lt (wI T a0 0 0) (fun (T1 : Mm) => bd1 (pX12_isJoin R T1 a0 x1) (fun (u2 : Int32) => if u2 = 0 then some ((-1), T1) else if x2 = 0 then ix (32 + x1) 270 (some (T1.1 (R a0 6) (32 + x1).toNatClampNeg, T1)) else if x2 = 1 then ix (48 + x1) 270 (some (T1.1 (R a0 6) (48 + x1).toNatClampNeg, T1)) else if x2 = 2 then ix (64 + x1) 270 (some (T1.1 (R a0 6) (64 + x1).toNatClampNeg, T1)) else if x2 = 3 then ix 82 270 (some (((T1.1 (R a0 6) (82 : Int32).toNatClampNeg) >>> (x1 &&& 31)) &&& 1, T1)) else some ((-1), T1)))
set_option maxRecDepth 100000 in
set_option maxHeartbeats 4000000 in
theorem mX12_join {g : Gl} {R : Rf} {T : Mm} {a0 : Nat} {x1 : Int32} {x2 : Int32} (l : Launch) (hR : Ty g R) (k0 : kd g a0 = 12) {r : Int32 × Mm} (h : pX12_join R T a0 x1 x2 = some r) : MI l g yX12_join cX12_join 3 (some .int) rmX12_join [.ref (g.2.2.1 a0), .int x1, .int x2] R T r.1 R r.2 := by
  refine z_metI (own := RX12) (lv := [some (.ref (g.2.2.1 a0)), some (.int x1), some (.int x2)]) (by decide +kernel) rfl rfl rfl (fun X K => ?_)
  unfold pX12_join at h
  refine z_aload_n K dX12_join_0 rfl ?_
  refine z_iconst K 0 dX12_join_1 rfl ?_
  refine z_putI K clX12 tyX12_ok nmX12 k0 0 rfl rfl q1338 rfl rfl rfl dX12_join_2 ?_
  refine z_aload_n K dX12_join_5 rfl ?_
  refine z_iload_n K dX12_join_6 rfl ?_
  obtain ⟨u2, hc, h⟩ := bd1_e h
  refine z_callVI K (mX12_isJoin l hR k0 hc) clX12 k0 ceX12_isJoin q1645 ⟨rfl, rfl, rfl, rfl⟩ rfl rfl rfl dX12_join_7 ?_
  refine z_if_ne K 15 dX12_join_10 (by decide) (fun c => ?_) (fun c => ?_)
  · have h := ite_f h c
    refine z_iload_n K dX12_join_15 rfl ?_
    refine z_if_ne K 31 dX12_join_16 (by decide) (fun c => ?_) (fun c => ?_)
    · have h := ite_f h c
      refine z_iload_n K dX12_join_31 rfl ?_
      refine z_iconst K 1 dX12_join_32 rfl ?_
      refine z_icmp_ne K 48 dX12_join_33 (by decide) (fun c => ?_) (fun c => ?_)
      · have h := ite_f h c
        refine z_iload_n K dX12_join_48 rfl ?_
        refine z_iconst K 2 dX12_join_49 rfl ?_
        refine z_icmp_ne K 65 dX12_join_50 (by decide) (fun c => ?_) (fun c => ?_)
        · have h := ite_f h c
          refine z_iload_n K dX12_join_65 rfl ?_
          refine z_iconst K 3 dX12_join_66 rfl ?_
          refine z_icmp_ne K 84 dX12_join_67 (by decide) (fun c => ?_) (fun c => ?_)
          · have h := ite_f h c
            refine z_iconst K (-1) dX12_join_84 rfl ?_
            obtain rfl := Option.some.inj h
            exact z_iret K dX12_join_85
          · have h := ite_t h c
            refine z_aload_n K dX12_join_70 rfl ?_
            refine z_getR K clX12 k0 6 rfl rfl q1344 dX12_join_71 ?_
            refine z_bipush K 82 dX12_join_74 rfl ?_
            obtain ⟨hi, h⟩ := ix_e h
            refine z_iald K (hR.at (k := 6) (t := 20270) k0 rfl rfl) rfl rfl rfl hi dX12_join_76 ?_
            refine z_iload_n K dX12_join_77 rfl ?_
            refine z_ishr K dX12_join_78 ?_
            refine z_iconst K 1 dX12_join_79 rfl ?_
            refine z_iand K dX12_join_80 ?_
            refine z_goto K 85 dX12_join_81 (by decide) ?_
            obtain rfl := Option.some.inj h
            exact z_iret K dX12_join_85
        · have h := ite_t h c
          refine z_aload_n K dX12_join_53 rfl ?_
          refine z_getR K clX12 k0 6 rfl rfl q1344 dX12_join_54 ?_
          refine z_bipush K 64 dX12_join_57 rfl ?_
          refine z_iload_n K dX12_join_59 rfl ?_
          refine z_iadd K dX12_join_60 ?_
          obtain ⟨hi, h⟩ := ix_e h
          refine z_iald K (hR.at (k := 6) (t := 20270) k0 rfl rfl) rfl rfl rfl hi dX12_join_61 ?_
          refine z_goto K 85 dX12_join_62 (by decide) ?_
          obtain rfl := Option.some.inj h
          exact z_iret K dX12_join_85
      · have h := ite_t h c
        refine z_aload_n K dX12_join_36 rfl ?_
        refine z_getR K clX12 k0 6 rfl rfl q1344 dX12_join_37 ?_
        refine z_bipush K 48 dX12_join_40 rfl ?_
        refine z_iload_n K dX12_join_42 rfl ?_
        refine z_iadd K dX12_join_43 ?_
        obtain ⟨hi, h⟩ := ix_e h
        refine z_iald K (hR.at (k := 6) (t := 20270) k0 rfl rfl) rfl rfl rfl hi dX12_join_44 ?_
        refine z_goto K 85 dX12_join_45 (by decide) ?_
        obtain rfl := Option.some.inj h
        exact z_iret K dX12_join_85
    · have h := ite_t h c
      refine z_aload_n K dX12_join_19 rfl ?_
      refine z_getR K clX12 k0 6 rfl rfl q1344 dX12_join_20 ?_
      refine z_bipush K 32 dX12_join_23 rfl ?_
      refine z_iload_n K dX12_join_25 rfl ?_
      refine z_iadd K dX12_join_26 ?_
      obtain ⟨hi, h⟩ := ix_e h
      refine z_iald K (hR.at (k := 6) (t := 20270) k0 rfl rfl) rfl rfl rfl hi dX12_join_27 ?_
      refine z_goto K 85 dX12_join_28 (by decide) ?_
      obtain rfl := Option.some.inj h
      exact z_iret K dX12_join_85
  · have h := ite_t h c
    refine z_iconst K (-1) dX12_join_13 rfl ?_
    obtain rfl := Option.some.inj h
    exact z_iret K dX12_join_14
