/-! GoingOver$Tape.isSmall (I)Z -/
abbrev rmX10_isSmall : Room := { frames := 0, cells := 0, slots := 0, locals := 0 }
def pX10_isSmall (R : Rf) (T : Mm) (x0 : Int32) : Option (Int32) :=
  if x0 < 97 then some 0 else if 122 < x0 then some 0 else some 1
set_option maxRecDepth 100000 in
set_option maxHeartbeats 4000000 in
theorem mX10_isSmall {g : Gl} {R : Rf} {T : Mm} {x0 : Int32} (l : Launch) (hR : Ty g R) {r : Int32} (h : pX10_isSmall R T x0 = some r) : MI l g yX10_isSmall cX10_isSmall 1 (some .boolean) rmX10_isSmall [.int x0] R T r R T := by
  refine z_metI (own := RX10) (lv := [some (.int x0)]) (by decide +kernel) rfl rfl rfl (fun X K => ?_)
  unfold pX10_isSmall at h
  refine z_iload_n K dX10_isSmall_0 rfl ?_
  refine z_bipush K 97 dX10_isSmall_1 rfl ?_
  refine z_icmp_lt K 16 dX10_isSmall_3 (by decide) (fun c => ?_) (fun c => ?_)
  · have h := ite_t h c
    refine z_iconst K 0 dX10_isSmall_16 rfl ?_
    obtain rfl := Option.some.inj h
    exact z_zret (v := 0) K rfl dX10_isSmall_17
  · have h := ite_f h c
    refine z_iload_n K dX10_isSmall_6 rfl ?_
    refine z_bipush K 122 dX10_isSmall_7 rfl ?_
    refine z_icmp_gt K 16 dX10_isSmall_9 (by decide) (fun c => ?_) (fun c => ?_)
    · have h := ite_t h c
      refine z_iconst K 0 dX10_isSmall_16 rfl ?_
      obtain rfl := Option.some.inj h
      exact z_zret (v := 0) K rfl dX10_isSmall_17
    · have h := ite_f h c
      refine z_iconst K 1 dX10_isSmall_12 rfl ?_
      refine z_goto K 17 dX10_isSmall_13 (by decide) ?_
      obtain rfl := Option.some.inj h
      exact z_zret (v := 1) K rfl dX10_isSmall_17
/-! GoingOver$Tape.isDigit (I)Z -/
abbrev rmX10_isDigit : Room := { frames := 0, cells := 0, slots := 0, locals := 0 }
def pX10_isDigit (R : Rf) (T : Mm) (x0 : Int32) : Option (Int32) :=
  if x0 < 48 then some 0 else if 57 < x0 then some 0 else some 1
set_option maxRecDepth 100000 in
set_option maxHeartbeats 4000000 in
theorem mX10_isDigit {g : Gl} {R : Rf} {T : Mm} {x0 : Int32} (l : Launch) (hR : Ty g R) {r : Int32} (h : pX10_isDigit R T x0 = some r) : MI l g yX10_isDigit cX10_isDigit 1 (some .boolean) rmX10_isDigit [.int x0] R T r R T := by
  refine z_metI (own := RX10) (lv := [some (.int x0)]) (by decide +kernel) rfl rfl rfl (fun X K => ?_)
  unfold pX10_isDigit at h
  refine z_iload_n K dX10_isDigit_0 rfl ?_
  refine z_bipush K 48 dX10_isDigit_1 rfl ?_
  refine z_icmp_lt K 16 dX10_isDigit_3 (by decide) (fun c => ?_) (fun c => ?_)
  · have h := ite_t h c
    refine z_iconst K 0 dX10_isDigit_16 rfl ?_
    obtain rfl := Option.some.inj h
    exact z_zret (v := 0) K rfl dX10_isDigit_17
  · have h := ite_f h c
    refine z_iload_n K dX10_isDigit_6 rfl ?_
    refine z_bipush K 57 dX10_isDigit_7 rfl ?_
    refine z_icmp_gt K 16 dX10_isDigit_9 (by decide) (fun c => ?_) (fun c => ?_)
    · have h := ite_t h c
      refine z_iconst K 0 dX10_isDigit_16 rfl ?_
      obtain rfl := Option.some.inj h
      exact z_zret (v := 0) K rfl dX10_isDigit_17
    · have h := ite_f h c
      refine z_iconst K 1 dX10_isDigit_12 rfl ?_
      refine z_goto K 17 dX10_isDigit_13 (by decide) ?_
      obtain rfl := Option.some.inj h
      exact z_zret (v := 1) K rfl dX10_isDigit_17
/-! GoingOver$Tape.longer (JI)J -/
abbrev rmX10_longer : Room := { frames := 0, cells := 0, slots := 0, locals := 0 }
def pX10_longer (R : Rf) (T : Mm) (j0 : Int64) (x2 : Int32) : Option (Int64) :=
  some ((j0 <<< ((5 : Int32).toInt64 &&& 63)) ||| (((x2 - 97) + 1).toInt64))
set_option maxRecDepth 100000 in
set_option maxHeartbeats 4000000 in
theorem mX10_longer {g : Gl} {R : Rf} {T : Mm} {j0 : Int64} {x2 : Int32} (l : Launch) (hR : Ty g R) {r : Int64} (h : pX10_longer R T j0 x2 = some r) : ML l g yX10_longer cX10_longer 3 (some .long) rmX10_longer [.long j0, .int x2] R T r R T := by
  refine z_metL (own := RX10) (lv := [some (.long j0), none, some (.int x2)]) (by decide +kernel) rfl rfl rfl (fun X K => ?_)
  unfold pX10_longer at h
  refine z_lload_n K dX10_longer_0 rfl ?_
  refine z_iconst K 5 dX10_longer_1 rfl ?_
  refine z_lshl K dX10_longer_2 ?_
  refine z_iload_n K dX10_longer_3 rfl ?_
  refine z_bipush K 97 dX10_longer_4 rfl ?_
  refine z_isub K dX10_longer_6 ?_
  refine z_iconst K 1 dX10_longer_7 rfl ?_
  refine z_iadd K dX10_longer_8 ?_
  refine z_i2l K dX10_longer_9 ?_
  refine z_lor K dX10_longer_10 ?_
  obtain rfl := Option.some.inj h
  exact z_lret K dX10_longer_11
/-! GoingOver$Tape.add (IIIJ)V -/
abbrev rmX10_add : Room := { frames := 0, cells := 0, slots := 0, locals := 0 }
def pX10_add (R : Rf) (T : Mm) (a0 : Nat) (x1 : Int32) (x2 : Int32) (x3 : Int32) (j4 : Int64) : Option (Mm) :=
  if 940 < (T.1 a0 5) then some T else ix (T.1 a0 5) 941 (lt (wI T (R a0 7) (T.1 a0 5).toNatClampNeg x1) (fun (T1 : Mm) => ix (T1.1 a0 5) 941 (lt (wI T1 (R a0 8) (T1.1 a0 5).toNatClampNeg x2) (fun (T2 : Mm) => ix (T2.1 a0 5) 941 (lt (wI T2 (R a0 9) (T2.1 a0 5).toNatClampNeg x3) (fun (T3 : Mm) => ix (T3.1 a0 5) 941 (lt (wJ T3 (R a0 10) (T3.1 a0 5).toNatClampNeg j4) (fun (T4 : Mm) => lt (wI T4 a0 5 ((T4.1 a0 5) + 1)) (fun (T5 : Mm) => some T5)))))))))
set_option maxRecDepth 100000 in
set_option maxHeartbeats 4000000 in
theorem mX10_add {g : Gl} {R : Rf} {T : Mm} {a0 : Nat} {x1 : Int32} {x2 : Int32} {x3 : Int32} {j4 : Int64} (l : Launch) (hR : Ty g R) (k0 : kd g a0 = 10) {r : Mm} (h : pX10_add R T a0 x1 x2 x3 j4 = some r) : MV l g yX10_add cX10_add 6 none rmX10_add [.ref (g.2.2.1 a0), .int x1, .int x2, .int x3, .long j4] R T R r := by
  refine z_metV (own := RX10) (lv := [some (.ref (g.2.2.1 a0)), some (.int x1), some (.int x2), some (.int x3), some (.long j4), none]) (by decide +kernel) rfl rfl rfl (fun X K => ?_)
  unfold pX10_add at h
  refine z_aload_n K dX10_add_0 rfl ?_
  refine z_getI K clX10 k0 5 rfl rfl q204 dX10_add_1 ?_
  refine z_sipush K 940 dX10_add_4 rfl ?_
  refine z_icmp_gt K 61 dX10_add_7 (by decide) (fun c => ?_) (fun c => ?_)
  · have h := ite_t h c
    obtain rfl := Option.some.inj h
    exact z_vret K dX10_add_61
  · have h := ite_f h c
    refine z_aload_n K dX10_add_10 rfl ?_
    refine z_getR K clX10 k0 7 rfl rfl q206 dX10_add_11 ?_
    refine z_aload_n K dX10_add_14 rfl ?_
    refine z_getI K clX10 k0 5 rfl rfl q204 dX10_add_15 ?_
    refine z_iload_n K dX10_add_18 rfl ?_
    obtain ⟨hi, h⟩ := ix_e h
    refine z_iast K (hR.at (k := 7) (t := 20941) k0 rfl rfl) rfl rfl rfl hi dX10_add_19 ?_
    refine z_aload_n K dX10_add_20 rfl ?_
    refine z_getR K clX10 k0 8 rfl rfl q207 dX10_add_21 ?_
    refine z_aload_n K dX10_add_24 rfl ?_
    refine z_getI K clX10 k0 5 rfl rfl q204 dX10_add_25 ?_
    refine z_iload_n K dX10_add_28 rfl ?_
    obtain ⟨hi, h⟩ := ix_e h
    refine z_iast K (hR.at (k := 8) (t := 20941) k0 rfl rfl) rfl rfl rfl hi dX10_add_29 ?_
    refine z_aload_n K dX10_add_30 rfl ?_
    refine z_getR K clX10 k0 9 rfl rfl q208 dX10_add_31 ?_
    refine z_aload_n K dX10_add_34 rfl ?_
    refine z_getI K clX10 k0 5 rfl rfl q204 dX10_add_35 ?_
    refine z_iload_n K dX10_add_38 rfl ?_
    obtain ⟨hi, h⟩ := ix_e h
    refine z_iast K (hR.at (k := 9) (t := 20941) k0 rfl rfl) rfl rfl rfl hi dX10_add_39 ?_
    refine z_aload_n K dX10_add_40 rfl ?_
    refine z_getR K clX10 k0 10 rfl rfl q209 dX10_add_41 ?_
    refine z_aload_n K dX10_add_44 rfl ?_
    refine z_getI K clX10 k0 5 rfl rfl q204 dX10_add_45 ?_
    refine z_lload K dX10_add_48 rfl ?_
    obtain ⟨hi, h⟩ := ix_e h
    refine z_last K (hR.at (k := 10) (t := 30941) k0 rfl rfl) rfl rfl rfl hi dX10_add_50 ?_
    refine z_aload_n K dX10_add_51 rfl ?_
    refine z_dup K dX10_add_52 rfl ?_
    refine z_getI K clX10 k0 5 rfl rfl q204 dX10_add_53 ?_
    refine z_iconst K 1 dX10_add_56 rfl ?_
    refine z_iadd K dX10_add_57 ?_
    refine z_putI K clX10 tyX10_ok nmX10 k0 5 rfl rfl q204 rfl rfl rfl dX10_add_58 ?_
    obtain rfl := Option.some.inj h
    exact z_vret K dX10_add_61
/-! GoingOver$Tape.keywordOf (J)I -/
abbrev rmX10_keywordOf : Room := { frames := 0, cells := 0, slots := 0, locals := 0 }
def pX10_keywordOf_2 (R : Rf) (T : Mm) (a0 : Nat) (j1 : Int64) (e19 : Int32 → Option (Int32)) (e27 : Option (Int32)) (r2 : Int32 → Option (Int32)) (x3 : Int32) : Option (Int32) :=
  if 24 ≤ x3 then e27 else ix x3 24 (if (lg_cmp (T.2 (R a0 11) x3.toNatClampNeg) j1) = 0 then e19 x3 else lt (x3 + 1) (fun (v1 : Int32) => r2 v1))
def pX10_keywordOf_19 (R : Rf) (T : Mm) (a0 : Nat) (j1 : Int64) (x3 : Int32) : Option (Int32) :=
  some x3
def pX10_keywordOf_27 (R : Rf) (T : Mm) (a0 : Nat) (j1 : Int64) : Option (Int32) :=
  some (-1)
def pX10_keywordOf (R : Rf) (T : Mm) (a0 : Nat) (j1 : Int64) : Option (Int32) :=
  zl1 (pX10_keywordOf_2 R T a0 j1 (pX10_keywordOf_19 R T a0 j1) (pX10_keywordOf_27 R T a0 j1)) FU 0
set_option maxRecDepth 100000 in
set_option maxHeartbeats 4000000 in
theorem wX10_keywordOf_2 {X : Cx} {g : Gl} {l : Launch} {R : Rf} {T : Mm} {a0 : Nat} {j1 : Int64} (K : Ok X g l cX10_keywordOf RX10 4 (some .int) rmX10_keywordOf) (hR : Ty g R) (k0 : kd g a0 = 10) {r : Int32} {e19 : Int32 → Option (Int32)} (he19 : ∀ (x3 : Int32), e19 x3 = some r → Zj X g 4 (QI X g r R T) R T [none, none, none, some (.int x3)] [] 19) {e27 : Option (Int32)} (he27 : e27 = some r → Zj X g 4 (QI X g r R T) R T [none, none, none, none] [] 27) : ∀ (n : Nat) (x3 : Int32), zl1 (pX10_keywordOf_2 R T a0 j1 e19 e27) n x3 = some r → Zj X g 4 (QI X g r R T) R T [some (.ref (g.2.2.1 a0)), some (.long j1), none, some (.int x3)] [] 2 := by
  intro n
  induction n with
  | zero =>
    intro x3 h
    exact absurd h (by simp [zl1])
  | succ n hr2 =>
    intro x3 h
    rw [zl1_s] at h
    unfold pX10_keywordOf_2 at h
    refine z_iload_n K dX10_keywordOf_2 rfl ?_
    refine z_bipush K 24 dX10_keywordOf_3 rfl ?_
    refine z_icmp_ge K 27 dX10_keywordOf_5 (by decide) (fun c => ?_) (fun c => ?_)
    · have h := ite_t h c
      refine Zj.mask [false, false, false, false] ?_
      exact he27 h
    · have h := ite_f h c
      refine z_aload_n K dX10_keywordOf_8 rfl ?_
      refine z_getR K clX10 k0 11 rfl rfl q210 dX10_keywordOf_9 ?_
      refine z_iload_n K dX10_keywordOf_12 rfl ?_
      obtain ⟨hi, h⟩ := ix_e h
      refine z_lald K (hR.at (k := 11) (t := 30024) k0 rfl rfl) rfl rfl rfl hi dX10_keywordOf_13 ?_
      refine z_lload_n K dX10_keywordOf_14 rfl ?_
      refine z_lcmp K dX10_keywordOf_15 ?_
      refine z_if_ne K 21 dX10_keywordOf_16 (by decide) (fun c => ?_) (fun c => ?_)
      · have h := ite_f h c
        refine z_iinc K 1 dX10_keywordOf_21 rfl rfl rfl rfl ?_
        refine z_goto K 2 dX10_keywordOf_24 (by decide) ?_
        refine Zj.mask [true, true, false, true] ?_
        exact hr2 _ h
      · have h := ite_t h c
        refine Zj.mask [false, false, false, true] ?_
        exact he19 _ h
set_option maxRecDepth 100000 in
set_option maxHeartbeats 4000000 in
theorem wX10_keywordOf_19 {X : Cx} {g : Gl} {l : Launch} {R : Rf} {T : Mm} {a0 : Nat} {j1 : Int64} (K : Ok X g l cX10_keywordOf RX10 4 (some .int) rmX10_keywordOf) (hR : Ty g R) (k0 : kd g a0 = 10) {r : Int32} (x3 : Int32) (h : pX10_keywordOf_19 R T a0 j1 x3 = some r) : Zj X g 4 (QI X g r R T) R T [none, none, none, some (.int x3)] [] 19 := by
  unfold pX10_keywordOf_19 at h
  refine z_iload_n K dX10_keywordOf_19 rfl ?_
  obtain rfl := Option.some.inj h
  exact z_iret K dX10_keywordOf_20
set_option maxRecDepth 100000 in
set_option maxHeartbeats 4000000 in
theorem wX10_keywordOf_27 {X : Cx} {g : Gl} {l : Launch} {R : Rf} {T : Mm} {a0 : Nat} {j1 : Int64} (K : Ok X g l cX10_keywordOf RX10 4 (some .int) rmX10_keywordOf) (hR : Ty g R) (k0 : kd g a0 = 10) {r : Int32} (h : pX10_keywordOf_27 R T a0 j1 = some r) : Zj X g 4 (QI X g r R T) R T [none, none, none, none] [] 27 := by
  unfold pX10_keywordOf_27 at h
  refine z_iconst K (-1) dX10_keywordOf_27 rfl ?_
  obtain rfl := Option.some.inj h
  exact z_iret K dX10_keywordOf_28
set_option maxRecDepth 100000 in
set_option maxHeartbeats 4000000 in
theorem mX10_keywordOf {g : Gl} {R : Rf} {T : Mm} {a0 : Nat} {j1 : Int64} (l : Launch) (hR : Ty g R) (k0 : kd g a0 = 10) {r : Int32} (h : pX10_keywordOf R T a0 j1 = some r) : MI l g yX10_keywordOf cX10_keywordOf 4 (some .int) rmX10_keywordOf [.ref (g.2.2.1 a0), .long j1] R T r R T := by
  refine z_metI (own := RX10) (lv := [some (.ref (g.2.2.1 a0)), some (.long j1), none, none]) (by decide +kernel) rfl rfl rfl (fun X K => ?_)
  unfold pX10_keywordOf at h
  refine z_iconst K 0 dX10_keywordOf_0 rfl ?_
  refine z_istore_n K dX10_keywordOf_1 rfl rfl ?_
  refine Zj.mask [true, true, false, true] ?_
  exact wX10_keywordOf_2 K hR k0 (wX10_keywordOf_19 K hR k0) (wX10_keywordOf_27 K hR k0) FU _ h
/-! GoingOver$Tape.readRun (I)I -/
abbrev rmX10_readRun : Room := { frames := 1, cells := 0, slots := 0, locals := 25 }
def pX10_readRun_48 (R : Rf) (a0 : Nat) (x1 : Int32) (r13 : Mm → Int32 → Int32 → Int32 → Int64 → Int32 → Option (Int32 × Mm)) (e108 : Mm → Int32 → Int32 → Int32 → Int64 → Int32 → Option (Int32 × Mm)) (T : Mm) (x2 : Int32) (x3 : Int32) (x4 : Int32) (j5 : Int64) (x7 : Int32) : Option (Int32 × Mm) :=
  ix x7 940 (bd1 (pX10_isSmall R T (T.1 (R a0 0) x7.toNatClampNeg)) (fun (u2 : Int32) => if u2 = 0 then lt (x3 + 1) (fun (v3 : Int32) => ix x7 940 (lt (((x4 * 10) + (T.1 (R a0 0) x7.toNatClampNeg)) - 48) (fun (v4 : Int32) => lt (x7 + 1) (fun (v5 : Int32) => r13 T x2 v3 v4 j5 v5)))) else lt (x2 + 1) (fun (v6 : Int32) => ix x7 940 (bd1 (pX10_longer R T j5 (T.1 (R a0 0) x7.toNatClampNeg)) (fun (u7 : Int64) => lt (x7 + 1) (fun (v8 : Int32) => r13 T v6 x3 x4 u7 v8))))))
def pX10_readRun_13 (R : Rf) (a0 : Nat) (x1 : Int32) (e108 : Mm → Int32 → Int32 → Int32 → Int64 → Int32 → Option (Int32 × Mm)) (r13 : Mm → Int32 → Int32 → Int32 → Int64 → Int32 → Option (Int32 × Mm)) (T : Mm) (x2 : Int32) (x3 : Int32) (x4 : Int32) (j5 : Int64) (x7 : Int32) : Option (Int32 × Mm) :=
  if (T.1 a0 1) ≤ x7 then e108 T x2 x3 x4 j5 x7 else ix x7 940 (bd1 (pX10_isSmall R T (T.1 (R a0 0) x7.toNatClampNeg)) (fun (u1 : Int32) => if u1 = 0 then ix x7 940 (bd1 (pX10_isDigit R T (T.1 (R a0 0) x7.toNatClampNeg)) (fun (u9 : Int32) => if u9 = 0 then e108 T x2 x3 x4 j5 x7 else pX10_readRun_48 R a0 x1 r13 e108 T x2 x3 x4 j5 x7)) else pX10_readRun_48 R a0 x1 r13 e108 T x2 x3 x4 j5 x7))
def pX10_readRun_170 (R : Rf) (a0 : Nat) (x1 : Int32) (T : Mm) (x7 : Int32) : Option (Int32 × Mm) :=
  bd1 (pX10_add R T a0 1 x1 (-1) 0) (fun (T10 : Mm) => some (x7, T10))
def pX10_readRun_159 (R : Rf) (a0 : Nat) (x1 : Int32) (T : Mm) (j5 : Int64) (x7 : Int32) (x8 : Int32) (as0 : Nat) (xs1 : Int32) : Option (Int32 × Mm) :=
  bd1 (pX10_add R T as0 xs1 x1 x8 j5) (fun (T12 : Mm) => some (x7, T12))
def pX10_readRun_129 (R : Rf) (a0 : Nat) (x1 : Int32) (T : Mm) (x2 : Int32) (x3 : Int32) (j5 : Int64) (x7 : Int32) : Option (Int32 × Mm) :=
  if x3 = 0 then if 7 < x2 then pX10_readRun_170 R a0 x1 T x7 else bd1 (pX10_keywordOf R T a0 j5) (fun (u11 : Int32) => if u11 = (-1) then pX10_readRun_159 R a0 x1 T j5 x7 u11 a0 3 else pX10_readRun_159 R a0 x1 T j5 x7 u11 a0 4) else pX10_readRun_170 R a0 x1 T x7
def pX10_readRun_108 (R : Rf) (a0 : Nat) (x1 : Int32) (T : Mm) (x2 : Int32) (x3 : Int32) (x4 : Int32) (j5 : Int64) (x7 : Int32) : Option (Int32 × Mm) :=
  if x2 = 0 then if 3 < x3 then pX10_readRun_129 R a0 x1 T x2 x3 j5 x7 else bd1 (pX10_add R T a0 2 x1 x4 0) (fun (T13 : Mm) => some (x7, T13)) else pX10_readRun_129 R a0 x1 T x2 x3 j5 x7
def pX10_readRun (R : Rf) (T : Mm) (a0 : Nat) (x1 : Int32) : Option (Int32 × Mm) :=
  zl6 (pX10_readRun_13 R a0 x1 (pX10_readRun_108 R a0 x1)) FU T 0 0 0 0 x1
set_option maxRecDepth 100000 in
set_option maxHeartbeats 4000000 in
theorem wX10_readRun_48 {X : Cx} {g : Gl} {l : Launch} {R : Rf} {a0 : Nat} {x1 : Int32} (K : Ok X g l cX10_readRun RX10 9 (some .int) rmX10_readRun) (hR : Ty g R) (k0 : kd g a0 = 10) {r : Int32 × Mm} {r13 : Mm → Int32 → Int32 → Int32 → Int64 → Int32 → Option (Int32 × Mm)} (hr13 : ∀ (T : Mm) (x2 : Int32) (x3 : Int32) (x4 : Int32) (j5 : Int64) (x7 : Int32), r13 T x2 x3 x4 j5 x7 = some r → Zj X g 9 (QI X g r.1 R r.2) R T [some (.ref (g.2.2.1 a0)), some (.int x1), some (.int x2), some (.int x3), some (.int x4), some (.long j5), none, some (.int x7), none] [] 13) {e108 : Mm → Int32 → Int32 → Int32 → Int64 → Int32 → Option (Int32 × Mm)} (he108 : ∀ (T : Mm) (x2 : Int32) (x3 : Int32) (x4 : Int32) (j5 : Int64) (x7 : Int32), e108 T x2 x3 x4 j5 x7 = some r → Zj X g 9 (QI X g r.1 R r.2) R T [some (.ref (g.2.2.1 a0)), some (.int x1), some (.int x2), some (.int x3), some (.int x4), some (.long j5), none, some (.int x7), none] [] 108) (T : Mm) (x2 : Int32) (x3 : Int32) (x4 : Int32) (j5 : Int64) (x7 : Int32) (h : pX10_readRun_48 R a0 x1 r13 e108 T x2 x3 x4 j5 x7 = some r) : Zj X g 9 (QI X g r.1 R r.2) R T [some (.ref (g.2.2.1 a0)), some (.int x1), some (.int x2), some (.int x3), some (.int x4), some (.long j5), none, some (.int x7), none] [] 48 := by
  unfold pX10_readRun_48 at h
  refine z_aload_n K dX10_readRun_48 rfl ?_
  refine z_getR K clX10 k0 0 rfl rfl q195 dX10_readRun_49 ?_
  refine z_iload K dX10_readRun_52 rfl ?_
  obtain ⟨hi, h⟩ := ix_e h
  refine z_iald K (hR.at (k := 0) (t := 20940) k0 rfl rfl) rfl rfl rfl hi dX10_readRun_54 ?_
  obtain ⟨u2, hc, h⟩ := bd1_e h
  refine z_callSI K (mX10_isSmall l hR hc) ceX10_isSmall q596 ⟨rfl, rfl, rfl, rfl⟩ rfl rfl rfl dX10_readRun_55 ?_
  refine z_if_eq K 81 dX10_readRun_58 (by decide) (fun c => ?_) (fun c => ?_)
  · have h := ite_t h c
    refine z_iinc K 1 dX10_readRun_81 rfl rfl rfl rfl ?_
    refine z_iload K dX10_readRun_84 rfl ?_
    refine z_bipush K 10 dX10_readRun_86 rfl ?_
    refine z_imul K dX10_readRun_88 ?_
    refine z_aload_n K dX10_readRun_89 rfl ?_
    refine z_getR K clX10 k0 0 rfl rfl q195 dX10_readRun_90 ?_
    refine z_iload K dX10_readRun_93 rfl ?_
    obtain ⟨hi, h⟩ := ix_e h
    refine z_iald K (hR.at (k := 0) (t := 20940) k0 rfl rfl) rfl rfl rfl hi dX10_readRun_95 ?_
    refine z_iadd K dX10_readRun_96 ?_
    refine z_bipush K 48 dX10_readRun_97 rfl ?_
    refine z_isub K dX10_readRun_99 ?_
    refine z_istore K dX10_readRun_100 rfl rfl ?_
    refine z_iinc K 1 dX10_readRun_102 rfl rfl rfl rfl ?_
    refine z_goto K 13 dX10_readRun_105 (by decide) ?_
    refine Zj.mask [true, true, true, true, true, true, false, true, false] ?_
    exact hr13 _ _ _ _ _ _ h
  · have h := ite_f h c
    refine z_iinc K 1 dX10_readRun_61 rfl rfl rfl rfl ?_
    refine z_lload K dX10_readRun_64 rfl ?_
    refine z_aload_n K dX10_readRun_66 rfl ?_
    refine z_getR K clX10 k0 0 rfl rfl q195 dX10_readRun_67 ?_
    refine z_iload K dX10_readRun_70 rfl ?_
    obtain ⟨hi, h⟩ := ix_e h
    refine z_iald K (hR.at (k := 0) (t := 20940) k0 rfl rfl) rfl rfl rfl hi dX10_readRun_72 ?_
    obtain ⟨u7, hc, h⟩ := bd1_e h
    refine z_callSL K (mX10_longer l hR hc) ceX10_longer q192 ⟨rfl, rfl, rfl, rfl⟩ rfl rfl rfl dX10_readRun_73 ?_
    refine z_lstore K dX10_readRun_76 rfl rfl ?_
    refine z_goto K 102 dX10_readRun_78 (by decide) ?_
    refine z_iinc K 1 dX10_readRun_102 rfl rfl rfl rfl ?_
    refine z_goto K 13 dX10_readRun_105 (by decide) ?_
    refine Zj.mask [true, true, true, true, true, true, false, true, false] ?_
    exact hr13 _ _ _ _ _ _ h
set_option maxRecDepth 100000 in
set_option maxHeartbeats 4000000 in
theorem wX10_readRun_13 {X : Cx} {g : Gl} {l : Launch} {R : Rf} {a0 : Nat} {x1 : Int32} (K : Ok X g l cX10_readRun RX10 9 (some .int) rmX10_readRun) (hR : Ty g R) (k0 : kd g a0 = 10) {r : Int32 × Mm} {e108 : Mm → Int32 → Int32 → Int32 → Int64 → Int32 → Option (Int32 × Mm)} (he108 : ∀ (T : Mm) (x2 : Int32) (x3 : Int32) (x4 : Int32) (j5 : Int64) (x7 : Int32), e108 T x2 x3 x4 j5 x7 = some r → Zj X g 9 (QI X g r.1 R r.2) R T [some (.ref (g.2.2.1 a0)), some (.int x1), some (.int x2), some (.int x3), some (.int x4), some (.long j5), none, some (.int x7), none] [] 108) : ∀ (n : Nat) (T : Mm) (x2 : Int32) (x3 : Int32) (x4 : Int32) (j5 : Int64) (x7 : Int32), zl6 (pX10_readRun_13 R a0 x1 e108) n T x2 x3 x4 j5 x7 = some r → Zj X g 9 (QI X g r.1 R r.2) R T [some (.ref (g.2.2.1 a0)), some (.int x1), some (.int x2), some (.int x3), some (.int x4), some (.long j5), none, some (.int x7), none] [] 13 := by
  intro n
  induction n with
  | zero =>
    intro T x2 x3 x4 j5 x7 h
    exact absurd h (by simp [zl6])
  | succ n hr13 =>
    intro T x2 x3 x4 j5 x7 h
    rw [zl6_s] at h
    unfold pX10_readRun_13 at h
    refine z_iload K dX10_readRun_13 rfl ?_
    refine z_aload_n K dX10_readRun_15 rfl ?_
    refine z_getI K clX10 k0 1 rfl rfl q198 dX10_readRun_16 ?_
    refine z_icmp_ge K 108 dX10_readRun_19 (by decide) (fun c => ?_) (fun c => ?_)
    · have h := ite_t h c
      refine Zj.mask [true, true, true, true, true, true, false, true, false] ?_
      exact he108 _ _ _ _ _ _ h
    · have h := ite_f h c
      refine z_aload_n K dX10_readRun_22 rfl ?_
      refine z_getR K clX10 k0 0 rfl rfl q195 dX10_readRun_23 ?_
      refine z_iload K dX10_readRun_26 rfl ?_
      obtain ⟨hi, h⟩ := ix_e h
      refine z_iald K (hR.at (k := 0) (t := 20940) k0 rfl rfl) rfl rfl rfl hi dX10_readRun_28 ?_
      obtain ⟨u1, hc, h⟩ := bd1_e h
      refine z_callSI K (mX10_isSmall l hR hc) ceX10_isSmall q596 ⟨rfl, rfl, rfl, rfl⟩ rfl rfl rfl dX10_readRun_29 ?_
      refine z_if_ne K 48 dX10_readRun_32 (by decide) (fun c => ?_) (fun c => ?_)
      · have h := ite_f h c
        refine Zj.mask [true, true, true, true, true, true, false, true, false] ?_
        exact wX10_readRun_48 K hR k0 hr13 he108 _ _ _ _ _ _ h
      · have h := ite_t h c
        refine z_aload_n K dX10_readRun_35 rfl ?_
        refine z_getR K clX10 k0 0 rfl rfl q195 dX10_readRun_36 ?_
        refine z_iload K dX10_readRun_39 rfl ?_
        obtain ⟨hi, h⟩ := ix_e h
        refine z_iald K (hR.at (k := 0) (t := 20940) k0 rfl rfl) rfl rfl rfl hi dX10_readRun_41 ?_
        obtain ⟨u9, hc, h⟩ := bd1_e h
        refine z_callSI K (mX10_isDigit l hR hc) ceX10_isDigit q599 ⟨rfl, rfl, rfl, rfl⟩ rfl rfl rfl dX10_readRun_42 ?_
        refine z_if_eq K 108 dX10_readRun_45 (by decide) (fun c => ?_) (fun c => ?_)
        · have h := ite_t h c
          refine Zj.mask [true, true, true, true, true, true, false, true, false] ?_
          exact he108 _ _ _ _ _ _ h
        · have h := ite_f h c
          refine Zj.mask [true, true, true, true, true, true, false, true, false] ?_
          exact wX10_readRun_48 K hR k0 hr13 he108 _ _ _ _ _ _ h
set_option maxRecDepth 100000 in
set_option maxHeartbeats 4000000 in
theorem wX10_readRun_170 {X : Cx} {g : Gl} {l : Launch} {R : Rf} {a0 : Nat} {x1 : Int32} (K : Ok X g l cX10_readRun RX10 9 (some .int) rmX10_readRun) (hR : Ty g R) (k0 : kd g a0 = 10) {r : Int32 × Mm} (T : Mm) (x7 : Int32) (h : pX10_readRun_170 R a0 x1 T x7 = some r) : Zj X g 9 (QI X g r.1 R r.2) R T [some (.ref (g.2.2.1 a0)), some (.int x1), none, none, none, none, none, some (.int x7), none] [] 170 := by
  unfold pX10_readRun_170 at h
  refine z_aload_n K dX10_readRun_170 rfl ?_
  refine z_iconst K 1 dX10_readRun_171 rfl ?_
  refine z_iload_n K dX10_readRun_172 rfl ?_
  refine z_iconst K (-1) dX10_readRun_173 rfl ?_
  refine z_lconst K 0 dX10_readRun_174 rfl ?_
  obtain ⟨T10, hc, h⟩ := bd1_e h
  refine z_callVV K (mX10_add l hR k0 hc) clX10 k0 ceX10_add q606 ⟨rfl, rfl, rfl, rfl⟩ rfl rfl rfl dX10_readRun_175 ?_
  refine z_iload K dX10_readRun_178 rfl ?_
  obtain rfl := Option.some.inj h
  exact z_iret K dX10_readRun_180
set_option maxRecDepth 100000 in
set_option maxHeartbeats 4000000 in
theorem wX10_readRun_159 {X : Cx} {g : Gl} {l : Launch} {R : Rf} {a0 : Nat} {x1 : Int32} (K : Ok X g l cX10_readRun RX10 9 (some .int) rmX10_readRun) (hR : Ty g R) (k0 : kd g a0 = 10) {r : Int32 × Mm} (T : Mm) (j5 : Int64) (x7 : Int32) (x8 : Int32) (as0 : Nat) (xs1 : Int32) (ks0 : kd g as0 = 10) (h : pX10_readRun_159 R a0 x1 T j5 x7 x8 as0 xs1 = some r) : Zj X g 9 (QI X g r.1 R r.2) R T [none, some (.int x1), none, none, none, some (.long j5), none, some (.int x7), some (.int x8)] [.int xs1, .ref (g.2.2.1 as0)] 159 := by
  unfold pX10_readRun_159 at h
  refine z_iload_n K dX10_readRun_159 rfl ?_
  refine z_iload K dX10_readRun_160 rfl ?_
  refine z_lload K dX10_readRun_162 rfl ?_
  obtain ⟨T12, hc, h⟩ := bd1_e h
  refine z_callVV K (mX10_add l hR ks0 hc) clX10 ks0 ceX10_add q606 ⟨rfl, rfl, rfl, rfl⟩ rfl rfl rfl dX10_readRun_164 ?_
  refine z_goto K 178 dX10_readRun_167 (by decide) ?_
  refine z_iload K dX10_readRun_178 rfl ?_
  obtain rfl := Option.some.inj h
  exact z_iret K dX10_readRun_180
set_option maxRecDepth 100000 in
set_option maxHeartbeats 4000000 in
theorem wX10_readRun_129 {X : Cx} {g : Gl} {l : Launch} {R : Rf} {a0 : Nat} {x1 : Int32} (K : Ok X g l cX10_readRun RX10 9 (some .int) rmX10_readRun) (hR : Ty g R) (k0 : kd g a0 = 10) {r : Int32 × Mm} (T : Mm) (x2 : Int32) (x3 : Int32) (j5 : Int64) (x7 : Int32) (h : pX10_readRun_129 R a0 x1 T x2 x3 j5 x7 = some r) : Zj X g 9 (QI X g r.1 R r.2) R T [some (.ref (g.2.2.1 a0)), some (.int x1), some (.int x2), some (.int x3), none, some (.long j5), none, some (.int x7), none] [] 129 := by
  unfold pX10_readRun_129 at h
  refine z_iload_n K dX10_readRun_129 rfl ?_
  refine z_if_ne K 170 dX10_readRun_130 (by decide) (fun c => ?_) (fun c => ?_)
  · have h := ite_f h c
    refine Zj.mask [true, true, false, false, false, false, false, true, false] ?_
    exact wX10_readRun_170 K hR k0 _ _ h
  · have h := ite_t h c
    refine z_iload_n K dX10_readRun_133 rfl ?_
    refine z_bipush K 7 dX10_readRun_134 rfl ?_
    refine z_icmp_gt K 170 dX10_readRun_136 (by decide) (fun c => ?_) (fun c => ?_)
    · have h := ite_t h c
      refine Zj.mask [true, true, false, false, false, false, false, true, false] ?_
      exact wX10_readRun_170 K hR k0 _ _ h
    · have h := ite_f h c
      refine z_aload_n K dX10_readRun_139 rfl ?_
      refine z_lload K dX10_readRun_140 rfl ?_
      obtain ⟨u11, hc, h⟩ := bd1_e h
      refine z_callVI K (mX10_keywordOf l hR k0 hc) clX10 k0 ceX10_keywordOf q610 ⟨rfl, rfl, rfl, rfl⟩ rfl rfl rfl dX10_readRun_142 ?_
      refine z_istore K dX10_readRun_145 rfl rfl ?_
      refine z_aload_n K dX10_readRun_147 rfl ?_
      refine z_iload K dX10_readRun_148 rfl ?_
      refine z_iconst K (-1) dX10_readRun_150 rfl ?_
      refine z_icmp_ne K 158 dX10_readRun_151 (by decide) (fun c => ?_) (fun c => ?_)
      · have h := ite_f h c
        refine z_iconst K 4 dX10_readRun_158 rfl ?_
        refine Zj.mask [false, true, false, false, false, true, false, true, true] ?_
        exact wX10_readRun_159 K hR k0 _ _ _ _ _ _ k0 h
      · have h := ite_t h c
        refine z_iconst K 3 dX10_readRun_154 rfl ?_
        refine z_goto K 159 dX10_readRun_155 (by decide) ?_
        refine Zj.mask [false, true, false, false, false, true, false, true, true] ?_
        exact wX10_readRun_159 K hR k0 _ _ _ _ _ _ k0 h
set_option maxRecDepth 100000 in
set_option maxHeartbeats 4000000 in
theorem wX10_readRun_108 {X : Cx} {g : Gl} {l : Launch} {R : Rf} {a0 : Nat} {x1 : Int32} (K : Ok X g l cX10_readRun RX10 9 (some .int) rmX10_readRun) (hR : Ty g R) (k0 : kd g a0 = 10) {r : Int32 × Mm} (T : Mm) (x2 : Int32) (x3 : Int32) (x4 : Int32) (j5 : Int64) (x7 : Int32) (h : pX10_readRun_108 R a0 x1 T x2 x3 x4 j5 x7 = some r) : Zj X g 9 (QI X g r.1 R r.2) R T [some (.ref (g.2.2.1 a0)), some (.int x1), some (.int x2), some (.int x3), some (.int x4), some (.long j5), none, some (.int x7), none] [] 108 := by
  unfold pX10_readRun_108 at h
  refine z_iload_n K dX10_readRun_108 rfl ?_
  refine z_if_ne K 129 dX10_readRun_109 (by decide) (fun c => ?_) (fun c => ?_)
  · have h := ite_f h c
    refine Zj.mask [true, true, true, true, false, true, false, true, false] ?_
    exact wX10_readRun_129 K hR k0 _ _ _ _ _ h
  · have h := ite_t h c
    refine z_iload_n K dX10_readRun_112 rfl ?_
    refine z_iconst K 3 dX10_readRun_113 rfl ?_
    refine z_icmp_gt K 129 dX10_readRun_114 (by decide) (fun c => ?_) (fun c => ?_)
    · have h := ite_t h c
      refine Zj.mask [true, true, true, true, false, true, false, true, false] ?_
      exact wX10_readRun_129 K hR k0 _ _ _ _ _ h
    · have h := ite_f h c
      refine z_aload_n K dX10_readRun_117 rfl ?_
      refine z_iconst K 2 dX10_readRun_118 rfl ?_
      refine z_iload_n K dX10_readRun_119 rfl ?_
      refine z_iload K dX10_readRun_120 rfl ?_
      refine z_lconst K 0 dX10_readRun_122 rfl ?_
      obtain ⟨T13, hc, h⟩ := bd1_e h
      refine z_callVV K (mX10_add l hR k0 hc) clX10 k0 ceX10_add q606 ⟨rfl, rfl, rfl, rfl⟩ rfl rfl rfl dX10_readRun_123 ?_
      refine z_goto K 178 dX10_readRun_126 (by decide) ?_
      refine z_iload K dX10_readRun_178 rfl ?_
      obtain rfl := Option.some.inj h
      exact z_iret K dX10_readRun_180
set_option maxRecDepth 100000 in
set_option maxHeartbeats 4000000 in
theorem mX10_readRun {g : Gl} {R : Rf} {T : Mm} {a0 : Nat} {x1 : Int32} (l : Launch) (hR : Ty g R) (k0 : kd g a0 = 10) {r : Int32 × Mm} (h : pX10_readRun R T a0 x1 = some r) : MI l g yX10_readRun cX10_readRun 9 (some .int) rmX10_readRun [.ref (g.2.2.1 a0), .int x1] R T r.1 R r.2 := by
  refine z_metI (own := RX10) (lv := [some (.ref (g.2.2.1 a0)), some (.int x1), none, none, none, none, none, none, none]) (by decide +kernel) rfl rfl rfl (fun X K => ?_)
  unfold pX10_readRun at h
  refine z_iconst K 0 dX10_readRun_0 rfl ?_
  refine z_istore_n K dX10_readRun_1 rfl rfl ?_
  refine z_iconst K 0 dX10_readRun_2 rfl ?_
  refine z_istore_n K dX10_readRun_3 rfl rfl ?_
  refine z_iconst K 0 dX10_readRun_4 rfl ?_
  refine z_istore K dX10_readRun_5 rfl rfl ?_
  refine z_lconst K 0 dX10_readRun_7 rfl ?_
  refine z_lstore K dX10_readRun_8 rfl rfl ?_
  refine z_iload_n K dX10_readRun_10 rfl ?_
  refine z_istore K dX10_readRun_11 rfl rfl ?_
  refine Zj.mask [true, true, true, true, true, true, false, true, false] ?_
  exact wX10_readRun_13 K hR k0 (wX10_readRun_108 K hR k0) FU _ _ _ _ _ _ h
/-! GoingOver$Tape.isSign (I)Z -/
abbrev rmX10_isSign : Room := { frames := 0, cells := 0, slots := 0, locals := 0 }
def pX10_isSign (R : Rf) (T : Mm) (x0 : Int32) : Option (Int32) :=
  if x0 = 60 then some 1 else if x0 = 61 then some 1 else if x0 = 62 then some 1 else some 0
set_option maxRecDepth 100000 in
set_option maxHeartbeats 4000000 in
theorem mX10_isSign {g : Gl} {R : Rf} {T : Mm} {x0 : Int32} (l : Launch) (hR : Ty g R) {r : Int32} (h : pX10_isSign R T x0 = some r) : MI l g yX10_isSign cX10_isSign 1 (some .boolean) rmX10_isSign [.int x0] R T r R T := by
  refine z_metI (own := RX10) (lv := [some (.int x0)]) (by decide +kernel) rfl rfl rfl (fun X K => ?_)
  unfold pX10_isSign at h
  refine z_iload_n K dX10_isSign_0 rfl ?_
  refine z_bipush K 60 dX10_isSign_1 rfl ?_
  refine z_icmp_eq K 18 dX10_isSign_3 (by decide) (fun c => ?_) (fun c => ?_)
  · have h := ite_t h c
    refine z_iconst K 1 dX10_isSign_18 rfl ?_
    refine z_goto K 23 dX10_isSign_19 (by decide) ?_
    obtain rfl := Option.some.inj h
    exact z_zret (v := 1) K rfl dX10_isSign_23
  · have h := ite_f h c
    refine z_iload_n K dX10_isSign_6 rfl ?_
    refine z_bipush K 61 dX10_isSign_7 rfl ?_
    refine z_icmp_eq K 18 dX10_isSign_9 (by decide) (fun c => ?_) (fun c => ?_)
    · have h := ite_t h c
      refine z_iconst K 1 dX10_isSign_18 rfl ?_
      refine z_goto K 23 dX10_isSign_19 (by decide) ?_
      obtain rfl := Option.some.inj h
      exact z_zret (v := 1) K rfl dX10_isSign_23
    · have h := ite_f h c
      refine z_iload_n K dX10_isSign_12 rfl ?_
      refine z_bipush K 62 dX10_isSign_13 rfl ?_
      refine z_icmp_ne K 22 dX10_isSign_15 (by decide) (fun c => ?_) (fun c => ?_)
      · have h := ite_f h c
        refine z_iconst K 0 dX10_isSign_22 rfl ?_
        obtain rfl := Option.some.inj h
        exact z_zret (v := 0) K rfl dX10_isSign_23
      · have h := ite_t h c
        refine z_iconst K 1 dX10_isSign_18 rfl ?_
        refine z_goto K 23 dX10_isSign_19 (by decide) ?_
        obtain rfl := Option.some.inj h
        exact z_zret (v := 1) K rfl dX10_isSign_23
/-! GoingOver$Tape.readToken (I)I -/
abbrev rmX10_readToken : Room := { frames := 2, cells := 0, slots := 0, locals := 53 }
def pX10_readToken_37 (R : Rf) (a0 : Nat) (x1 : Int32) (T : Mm) : Option (Int32 × Mm) :=
  bd2 (pX10_readRun R T a0 x1) (fun (u3 : Int32) (T3 : Mm) => some (u3, T3))
def pX10_readToken_84 (R : Rf) (a0 : Nat) (x1 : Int32) (T : Mm) (x2 : Int32) (as0 : Nat) (xs1 : Int32) : Option (Int32 × Mm) :=
  bd1 (pX10_add R T as0 xs1 x1 x2 0) (fun (T5 : Mm) => some (x1 + 1, T5))
def pX10_readToken_73 (R : Rf) (a0 : Nat) (x1 : Int32) (T : Mm) (x2 : Int32) (xs0 : Int32) : Option (Int32 × Mm) :=
  if xs0 = 0 then pX10_readToken_84 R a0 x1 T x2 a0 1 else pX10_readToken_84 R a0 x1 T x2 a0 5
def pX10_readToken_68 (R : Rf) (a0 : Nat) (x1 : Int32) (T : Mm) (x2 : Int32) : Option (Int32 × Mm) :=
  pX10_readToken_73 R a0 x1 T x2 1
def pX10_readToken (R : Rf) (T : Mm) (a0 : Nat) (x1 : Int32) : Option (Int32 × Mm) :=
  ix x1 940 (lt (T.1 (R a0 0) x1.toNatClampNeg) (fun (v1 : Int32) => if v1 = 32 then some (x1 + 1, T) else if v1 = 10 then some (x1 + 1, T) else bd1 (pX10_isSmall R T v1) (fun (u2 : Int32) => if u2 = 0 then bd1 (pX10_isDigit R T v1) (fun (u4 : Int32) => if u4 = 0 then if v1 = 59 then pX10_readToken_68 R a0 x1 T v1 else if v1 = 40 then pX10_readToken_68 R a0 x1 T v1 else if v1 = 41 then pX10_readToken_68 R a0 x1 T v1 else bd1 (pX10_isSign R T v1) (fun (u6 : Int32) => if u6 = 0 then pX10_readToken_73 R a0 x1 T v1 0 else pX10_readToken_68 R a0 x1 T v1) else pX10_readToken_37 R a0 x1 T) else pX10_readToken_37 R a0 x1 T)))
set_option maxRecDepth 100000 in
set_option maxHeartbeats 4000000 in
theorem wX10_readToken_37 {X : Cx} {g : Gl} {l : Launch} {R : Rf} {a0 : Nat} {x1 : Int32} (K : Ok X g l cX10_readToken RX10 4 (some .int) rmX10_readToken) (hR : Ty g R) (k0 : kd g a0 = 10) {r : Int32 × Mm} (T : Mm) (h : pX10_readToken_37 R a0 x1 T = some r) : Zj X g 4 (QI X g r.1 R r.2) R T [some (.ref (g.2.2.1 a0)), some (.int x1), none, none] [] 37 := by
  unfold pX10_readToken_37 at h
  refine z_aload_n K dX10_readToken_37 rfl ?_
  refine z_iload_n K dX10_readToken_38 rfl ?_
  obtain ⟨u3, T3, hc, h⟩ := bd2_e h
  refine z_callVI K (mX10_readRun l hR k0 hc) clX10 k0 ceX10_readRun q602 ⟨rfl, rfl, rfl, rfl⟩ rfl rfl rfl dX10_readToken_39 ?_
  obtain rfl := Option.some.inj h
  exact z_iret K dX10_readToken_42
set_option maxRecDepth 100000 in
set_option maxHeartbeats 4000000 in
theorem wX10_readToken_84 {X : Cx} {g : Gl} {l : Launch} {R : Rf} {a0 : Nat} {x1 : Int32} (K : Ok X g l cX10_readToken RX10 4 (some .int) rmX10_readToken) (hR : Ty g R) (k0 : kd g a0 = 10) {r : Int32 × Mm} (T : Mm) (x2 : Int32) (as0 : Nat) (xs1 : Int32) (ks0 : kd g as0 = 10) (h : pX10_readToken_84 R a0 x1 T x2 as0 xs1 = some r) : Zj X g 4 (QI X g r.1 R r.2) R T [none, some (.int x1), some (.int x2), none] [.int xs1, .ref (g.2.2.1 as0)] 84 := by
  unfold pX10_readToken_84 at h
  refine z_iload_n K dX10_readToken_84 rfl ?_
  refine z_iload_n K dX10_readToken_85 rfl ?_
  refine z_lconst K 0 dX10_readToken_86 rfl ?_
  obtain ⟨T5, hc, h⟩ := bd1_e h
  refine z_callVV K (mX10_add l hR ks0 hc) clX10 ks0 ceX10_add q606 ⟨rfl, rfl, rfl, rfl⟩ rfl rfl rfl dX10_readToken_87 ?_
  refine z_iload_n K dX10_readToken_90 rfl ?_
  refine z_iconst K 1 dX10_readToken_91 rfl ?_
  refine z_iadd K dX10_readToken_92 ?_
  obtain rfl := Option.some.inj h
  exact z_iret K dX10_readToken_93
set_option maxRecDepth 100000 in
set_option maxHeartbeats 4000000 in
theorem wX10_readToken_73 {X : Cx} {g : Gl} {l : Launch} {R : Rf} {a0 : Nat} {x1 : Int32} (K : Ok X g l cX10_readToken RX10 4 (some .int) rmX10_readToken) (hR : Ty g R) (k0 : kd g a0 = 10) {r : Int32 × Mm} (T : Mm) (x2 : Int32) (xs0 : Int32) (h : pX10_readToken_73 R a0 x1 T x2 xs0 = some r) : Zj X g 4 (QI X g r.1 R r.2) R T [some (.ref (g.2.2.1 a0)), some (.int x1), some (.int x2), none] [.int xs0] 73 := by
  unfold pX10_readToken_73 at h
  refine z_istore_n K dX10_readToken_73 rfl rfl ?_
  refine z_aload_n K dX10_readToken_74 rfl ?_
  refine z_iload_n K dX10_readToken_75 rfl ?_
  refine z_if_eq K 83 dX10_readToken_76 (by decide) (fun c => ?_) (fun c => ?_)
  · have h := ite_t h c
    refine z_iconst K 1 dX10_readToken_83 rfl ?_
    refine Zj.mask [false, true, true, false] ?_
    exact wX10_readToken_84 K hR k0 _ _ _ _ k0 h
  · have h := ite_f h c
    refine z_iconst K 5 dX10_readToken_79 rfl ?_
    refine z_goto K 84 dX10_readToken_80 (by decide) ?_
    refine Zj.mask [false, true, true, false] ?_
    exact wX10_readToken_84 K hR k0 _ _ _ _ k0 h
set_option maxRecDepth 100000 in
set_option maxHeartbeats 4000000 in
theorem wX10_readToken_68 {X : Cx} {g : Gl} {l : Launch} {R : Rf} {a0 : Nat} {x1 : Int32} (K : Ok X g l cX10_readToken RX10 4 (some .int) rmX10_readToken) (hR : Ty g R) (k0 : kd g a0 = 10) {r : Int32 × Mm} (T : Mm) (x2 : Int32) (h : pX10_readToken_68 R a0 x1 T x2 = some r) : Zj X g 4 (QI X g r.1 R r.2) R T [some (.ref (g.2.2.1 a0)), some (.int x1), some (.int x2), none] [] 68 := by
  unfold pX10_readToken_68 at h
  refine z_iconst K 1 dX10_readToken_68 rfl ?_
  refine z_goto K 73 dX10_readToken_69 (by decide) ?_
  refine Zj.mask [true, true, true, false] ?_
  exact wX10_readToken_73 K hR k0 _ _ _ h
set_option maxRecDepth 100000 in
set_option maxHeartbeats 4000000 in
theorem mX10_readToken {g : Gl} {R : Rf} {T : Mm} {a0 : Nat} {x1 : Int32} (l : Launch) (hR : Ty g R) (k0 : kd g a0 = 10) {r : Int32 × Mm} (h : pX10_readToken R T a0 x1 = some r) : MI l g yX10_readToken cX10_readToken 4 (some .int) rmX10_readToken [.ref (g.2.2.1 a0), .int x1] R T r.1 R r.2 := by
  refine z_metI (own := RX10) (lv := [some (.ref (g.2.2.1 a0)), some (.int x1), none, none]) (by decide +kernel) rfl rfl rfl (fun X K => ?_)
  unfold pX10_readToken at h
  refine z_aload_n K dX10_readToken_0 rfl ?_
  refine z_getR K clX10 k0 0 rfl rfl q195 dX10_readToken_1 ?_
  refine z_iload_n K dX10_readToken_4 rfl ?_
  obtain ⟨hi, h⟩ := ix_e h
  refine z_iald K (hR.at (k := 0) (t := 20940) k0 rfl rfl) rfl rfl rfl hi dX10_readToken_5 ?_
  refine z_istore_n K dX10_readToken_6 rfl rfl ?_
  refine z_iload_n K dX10_readToken_7 rfl ?_
  refine z_bipush K 32 dX10_readToken_8 rfl ?_
  refine z_icmp_eq K 19 dX10_readToken_10 (by decide) (fun c => ?_) (fun c => ?_)
  · have h := ite_t h c
    refine z_iload_n K dX10_readToken_19 rfl ?_
    refine z_iconst K 1 dX10_readToken_20 rfl ?_
    refine z_iadd K dX10_readToken_21 ?_
    obtain rfl := Option.some.inj h
    exact z_iret K dX10_readToken_22
  · have h := ite_f h c
    refine z_iload_n K dX10_readToken_13 rfl ?_
    refine z_bipush K 10 dX10_readToken_14 rfl ?_
    refine z_icmp_ne K 23 dX10_readToken_16 (by decide) (fun c => ?_) (fun c => ?_)
    · have h := ite_f h c
      refine z_iload_n K dX10_readToken_23 rfl ?_
      obtain ⟨u2, hc, h⟩ := bd1_e h
      refine z_callSI K (mX10_isSmall l hR hc) ceX10_isSmall q596 ⟨rfl, rfl, rfl, rfl⟩ rfl rfl rfl dX10_readToken_24 ?_
      refine z_if_ne K 37 dX10_readToken_27 (by decide) (fun c => ?_) (fun c => ?_)
      · have h := ite_f h c
        refine Zj.mask [true, true, false, false] ?_
        exact wX10_readToken_37 K hR k0 _ h
      · have h := ite_t h c
        refine z_iload_n K dX10_readToken_30 rfl ?_
        obtain ⟨u4, hc, h⟩ := bd1_e h
        refine z_callSI K (mX10_isDigit l hR hc) ceX10_isDigit q599 ⟨rfl, rfl, rfl, rfl⟩ rfl rfl rfl dX10_readToken_31 ?_
        refine z_if_eq K 43 dX10_readToken_34 (by decide) (fun c => ?_) (fun c => ?_)
        · have h := ite_t h c
          refine z_iload_n K dX10_readToken_43 rfl ?_
          refine z_bipush K 59 dX10_readToken_44 rfl ?_
          refine z_icmp_eq K 68 dX10_readToken_46 (by decide) (fun c => ?_) (fun c => ?_)
          · have h := ite_t h c
            refine Zj.mask [true, true, true, false] ?_
            exact wX10_readToken_68 K hR k0 _ _ h
          · have h := ite_f h c
            refine z_iload_n K dX10_readToken_49 rfl ?_
            refine z_bipush K 40 dX10_readToken_50 rfl ?_
            refine z_icmp_eq K 68 dX10_readToken_52 (by decide) (fun c => ?_) (fun c => ?_)
            · have h := ite_t h c
              refine Zj.mask [true, true, true, false] ?_
              exact wX10_readToken_68 K hR k0 _ _ h
            · have h := ite_f h c
              refine z_iload_n K dX10_readToken_55 rfl ?_
              refine z_bipush K 41 dX10_readToken_56 rfl ?_
              refine z_icmp_eq K 68 dX10_readToken_58 (by decide) (fun c => ?_) (fun c => ?_)
              · have h := ite_t h c
                refine Zj.mask [true, true, true, false] ?_
                exact wX10_readToken_68 K hR k0 _ _ h
              · have h := ite_f h c
                refine z_iload_n K dX10_readToken_61 rfl ?_
                obtain ⟨u6, hc, h⟩ := bd1_e h
                refine z_callSI K (mX10_isSign l hR hc) ceX10_isSign q614 ⟨rfl, rfl, rfl, rfl⟩ rfl rfl rfl dX10_readToken_62 ?_
                refine z_if_eq K 72 dX10_readToken_65 (by decide) (fun c => ?_) (fun c => ?_)
                · have h := ite_t h c
                  refine z_iconst K 0 dX10_readToken_72 rfl ?_
                  refine Zj.mask [true, true, true, false] ?_
                  exact wX10_readToken_73 K hR k0 _ _ _ h
                · have h := ite_f h c
                  refine Zj.mask [true, true, true, false] ?_
                  exact wX10_readToken_68 K hR k0 _ _ h
        · have h := ite_f h c
          refine Zj.mask [true, true, false, false] ?_
          exact wX10_readToken_37 K hR k0 _ h
    · have h := ite_t h c
      refine z_iload_n K dX10_readToken_19 rfl ?_
      refine z_iconst K 1 dX10_readToken_20 rfl ?_
      refine z_iadd K dX10_readToken_21 ?_
      obtain rfl := Option.some.inj h
      exact z_iret K dX10_readToken_22
/-! GoingOver$Tape.begin (I)V -/
abbrev rmX10_begin : Room := { frames := 3, cells := 0, slots := 0, locals := 76 }
def pX10_begin_48 (R : Rf) (a0 : Nat) (x1 : Int32) (e68 : Mm → Int32 → Option (Mm)) (r48 : Mm → Int32 → Int32 → Option (Mm)) (T : Mm) (x2 : Int32) (x3 : Int32) : Option (Mm) :=
  if x2 ≤ x3 then e68 T x2 else bd2 (pX10_readToken R T a0 x3) (fun (u7 : Int32) (T7 : Mm) => lt ((if (x3 + 1) < u7 then u7 else (x3 + 1))) (fun (v8 : Int32) => r48 T7 x2 v8))
def pX10_begin_68 (R : Rf) (a0 : Nat) (x1 : Int32) (T : Mm) (x2 : Int32) : Option (Mm) :=
  bd1 (pX10_add R T a0 0 x2 (-1) 0) (fun (T9 : Mm) => some T9)
def pX10_begin_23 (R : Rf) (a0 : Nat) (x1 : Int32) (T : Mm) (x2 : Int32) (as0 : Nat) (xs1 : Int32) : Option (Mm) :=
  bz xs1 (lt (wI T as0 4 xs1) (fun (T2 : Mm) => lt (wI T2 a0 2 0) (fun (T3 : Mm) => lt (wI T3 a0 3 0) (fun (T4 : Mm) => lt (wI T4 a0 5 0) (fun (T5 : Mm) => lt (wI T5 a0 6 0) (fun (T6 : Mm) => zl3 (pX10_begin_48 R a0 x1 (pX10_begin_68 R a0 x1)) FU T6 x2 0))))))
def pX10_begin (R : Rf) (T : Mm) (a0 : Nat) (x1 : Int32) : Option (Mm) :=
  lt ((if x1 < (T.1 a0 1) then x1 else (T.1 a0 1))) (fun (v1 : Int32) => if (T.1 a0 1) ≤ x1 then pX10_begin_23 R a0 x1 T v1 a0 0 else pX10_begin_23 R a0 x1 T v1 a0 1)
set_option maxRecDepth 100000 in
set_option maxHeartbeats 4000000 in
theorem wX10_begin_48 {X : Cx} {g : Gl} {l : Launch} {R : Rf} {a0 : Nat} {x1 : Int32} (K : Ok X g l cX10_begin RX10 4 none rmX10_begin) (hR : Ty g R) (k0 : kd g a0 = 10) {r : Mm} {e68 : Mm → Int32 → Option (Mm)} (he68 : ∀ (T : Mm) (x2 : Int32), e68 T x2 = some r → Zj X g 4 (QV X g R r) R T [some (.ref (g.2.2.1 a0)), none, some (.int x2), none] [] 68) : ∀ (n : Nat) (T : Mm) (x2 : Int32) (x3 : Int32), zl3 (pX10_begin_48 R a0 x1 e68) n T x2 x3 = some r → Zj X g 4 (QV X g R r) R T [some (.ref (g.2.2.1 a0)), none, some (.int x2), some (.int x3)] [] 48 := by
  intro n
  induction n with
  | zero =>
    intro T x2 x3 h
    exact absurd h (by simp [zl3])
  | succ n hr48 =>
    intro T x2 x3 h
    rw [zl3_s] at h
    unfold pX10_begin_48 at h
    refine z_iload_n K dX10_begin_48 rfl ?_
    refine z_iload_n K dX10_begin_49 rfl ?_
    refine z_icmp_ge K 68 dX10_begin_50 (by decide) (fun c => ?_) (fun c => ?_)
    · have h := ite_t h c
      refine Zj.mask [true, false, true, false] ?_
      exact he68 _ _ h
    · have h := ite_f h c
      refine z_iload_n K dX10_begin_53 rfl ?_
      refine z_iconst K 1 dX10_begin_54 rfl ?_
      refine z_iadd K dX10_begin_55 ?_
      refine z_aload_n K dX10_begin_56 rfl ?_
      refine z_iload_n K dX10_begin_57 rfl ?_
      obtain ⟨u7, T7, hc, h⟩ := bd2_e h
      refine z_callVI K (mX10_readToken l hR k0 hc) clX10 k0 ceX10_readToken q592 ⟨rfl, rfl, rfl, rfl⟩ rfl rfl rfl dX10_begin_58 ?_
      refine z_mmax K q617 q618 q122 q619 (Nat.le_of_ble_eq_true rfl) (Nat.le_of_ble_eq_true rfl) dX10_begin_61 ?_
      refine z_istore_n K dX10_begin_64 rfl rfl ?_
      refine z_goto K 48 dX10_begin_65 (by decide) ?_
      refine Zj.mask [true, false, true, true] ?_
      exact hr48 _ _ _ h
set_option maxRecDepth 100000 in
set_option maxHeartbeats 4000000 in
theorem wX10_begin_68 {X : Cx} {g : Gl} {l : Launch} {R : Rf} {a0 : Nat} {x1 : Int32} (K : Ok X g l cX10_begin RX10 4 none rmX10_begin) (hR : Ty g R) (k0 : kd g a0 = 10) {r : Mm} (T : Mm) (x2 : Int32) (h : pX10_begin_68 R a0 x1 T x2 = some r) : Zj X g 4 (QV X g R r) R T [some (.ref (g.2.2.1 a0)), none, some (.int x2), none] [] 68 := by
  unfold pX10_begin_68 at h
  refine z_aload_n K dX10_begin_68 rfl ?_
  refine z_iconst K 0 dX10_begin_69 rfl ?_
  refine z_iload_n K dX10_begin_70 rfl ?_
  refine z_iconst K (-1) dX10_begin_71 rfl ?_
  refine z_lconst K 0 dX10_begin_72 rfl ?_
  obtain ⟨T9, hc, h⟩ := bd1_e h
  refine z_callVV K (mX10_add l hR k0 hc) clX10 k0 ceX10_add q606 ⟨rfl, rfl, rfl, rfl⟩ rfl rfl rfl dX10_begin_73 ?_
  obtain rfl := Option.some.inj h
  exact z_vret K dX10_begin_76
set_option maxRecDepth 100000 in
set_option maxHeartbeats 4000000 in
theorem wX10_begin_23 {X : Cx} {g : Gl} {l : Launch} {R : Rf} {a0 : Nat} {x1 : Int32} (K : Ok X g l cX10_begin RX10 4 none rmX10_begin) (hR : Ty g R) (k0 : kd g a0 = 10) {r : Mm} (T : Mm) (x2 : Int32) (as0 : Nat) (xs1 : Int32) (ks0 : kd g as0 = 10) (h : pX10_begin_23 R a0 x1 T x2 as0 xs1 = some r) : Zj X g 4 (QV X g R r) R T [some (.ref (g.2.2.1 a0)), none, some (.int x2), none] [.int xs1, .ref (g.2.2.1 as0)] 23 := by
  unfold pX10_begin_23 at h
  obtain ⟨hz, hf, h⟩ := bz_e h
  refine z_putI K clX10 tyX10_ok nmX10 ks0 4 rfl rfl q203 rfl hz hf dX10_begin_23 ?_
  refine z_aload_n K dX10_begin_26 rfl ?_
  refine z_iconst K 0 dX10_begin_27 rfl ?_
  refine z_putI K clX10 tyX10_ok nmX10 k0 2 rfl rfl q200 rfl rfl rfl dX10_begin_28 ?_
  refine z_aload_n K dX10_begin_31 rfl ?_
  refine z_iconst K 0 dX10_begin_32 rfl ?_
  refine z_putI K clX10 tyX10_ok nmX10 k0 3 rfl rfl q201 rfl rfl rfl dX10_begin_33 ?_
  refine z_aload_n K dX10_begin_36 rfl ?_
  refine z_iconst K 0 dX10_begin_37 rfl ?_
  refine z_putI K clX10 tyX10_ok nmX10 k0 5 rfl rfl q204 rfl rfl rfl dX10_begin_38 ?_
  refine z_aload_n K dX10_begin_41 rfl ?_
  refine z_iconst K 0 dX10_begin_42 rfl ?_
  refine z_putI K clX10 tyX10_ok nmX10 k0 6 rfl rfl q205 rfl rfl rfl dX10_begin_43 ?_
  refine z_iconst K 0 dX10_begin_46 rfl ?_
  refine z_istore_n K dX10_begin_47 rfl rfl ?_
  refine Zj.mask [true, false, true, true] ?_
  exact wX10_begin_48 K hR k0 (wX10_begin_68 K hR k0) FU _ _ _ h
set_option maxRecDepth 100000 in
set_option maxHeartbeats 4000000 in
theorem mX10_begin {g : Gl} {R : Rf} {T : Mm} {a0 : Nat} {x1 : Int32} (l : Launch) (hR : Ty g R) (k0 : kd g a0 = 10) {r : Mm} (h : pX10_begin R T a0 x1 = some r) : MV l g yX10_begin cX10_begin 4 none rmX10_begin [.ref (g.2.2.1 a0), .int x1] R T R r := by
  refine z_metV (own := RX10) (lv := [some (.ref (g.2.2.1 a0)), some (.int x1), none, none]) (by decide +kernel) rfl rfl rfl (fun X K => ?_)
  unfold pX10_begin at h
  refine z_aload_n K dX10_begin_0 rfl ?_
  refine z_getI K clX10 k0 1 rfl rfl q198 dX10_begin_1 ?_
  refine z_iload_n K dX10_begin_4 rfl ?_
  refine z_mmin K q589 q590 q122 q591 (Nat.le_of_ble_eq_true rfl) (Nat.le_of_ble_eq_true rfl) dX10_begin_5 ?_
  refine z_istore_n K dX10_begin_8 rfl rfl ?_
  refine z_aload_n K dX10_begin_9 rfl ?_
  refine z_aload_n K dX10_begin_10 rfl ?_
  refine z_getI K clX10 k0 1 rfl rfl q198 dX10_begin_11 ?_
  refine z_iload_n K dX10_begin_14 rfl ?_
  refine z_icmp_le K 22 dX10_begin_15 (by decide) (fun c => ?_) (fun c => ?_)
  · have h := ite_t h c
    refine z_iconst K 0 dX10_begin_22 rfl ?_
    refine Zj.mask [true, false, true, false] ?_
    exact wX10_begin_23 K hR k0 _ _ _ _ k0 h
  · have h := ite_f h c
    refine z_iconst K 1 dX10_begin_18 rfl ?_
    refine z_goto K 23 dX10_begin_19 (by decide) ?_
    refine Zj.mask [true, false, true, false] ?_
    exact wX10_begin_23 K hR k0 _ _ _ _ k0 h
/-! GoingOver$Tape.atEnd ()Z -/
abbrev rmX10_atEnd : Room := { frames := 0, cells := 0, slots := 0, locals := 0 }
def pX10_atEnd (R : Rf) (T : Mm) (a0 : Nat) : Option (Int32) :=
  ix (T.1 a0 6) 941 (if (T.1 (R a0 7) (T.1 a0 6).toNatClampNeg) = 0 then some 1 else some 0)
set_option maxRecDepth 100000 in
set_option maxHeartbeats 4000000 in
theorem mX10_atEnd {g : Gl} {R : Rf} {T : Mm} {a0 : Nat} (l : Launch) (hR : Ty g R) (k0 : kd g a0 = 10) {r : Int32} (h : pX10_atEnd R T a0 = some r) : MI l g yX10_atEnd cX10_atEnd 1 (some .boolean) rmX10_atEnd [.ref (g.2.2.1 a0)] R T r R T := by
  refine z_metI (own := RX10) (lv := [some (.ref (g.2.2.1 a0))]) (by decide +kernel) rfl rfl rfl (fun X K => ?_)
  unfold pX10_atEnd at h
  refine z_aload_n K dX10_atEnd_0 rfl ?_
  refine z_getR K clX10 k0 7 rfl rfl q206 dX10_atEnd_1 ?_
  refine z_aload_n K dX10_atEnd_4 rfl ?_
  refine z_getI K clX10 k0 6 rfl rfl q205 dX10_atEnd_5 ?_
  obtain ⟨hi, h⟩ := ix_e h
  refine z_iald K (hR.at (k := 7) (t := 20941) k0 rfl rfl) rfl rfl rfl hi dX10_atEnd_8 ?_
  refine z_if_ne K 16 dX10_atEnd_9 (by decide) (fun c => ?_) (fun c => ?_)
  · have h := ite_f h c
    refine z_iconst K 0 dX10_atEnd_16 rfl ?_
    obtain rfl := Option.some.inj h
    exact z_zret (v := 0) K rfl dX10_atEnd_17
  · have h := ite_t h c
    refine z_iconst K 1 dX10_atEnd_12 rfl ?_
    refine z_goto K 17 dX10_atEnd_13 (by decide) ?_
    obtain rfl := Option.some.inj h
    exact z_zret (v := 1) K rfl dX10_atEnd_17
/-! GoingOver$Tape.keyword ()I -/
abbrev rmX10_keyword : Room := { frames := 0, cells := 0, slots := 0, locals := 0 }
def pX10_keyword (R : Rf) (T : Mm) (a0 : Nat) : Option (Int32) :=
  ix (T.1 a0 6) 941 (if (T.1 (R a0 7) (T.1 a0 6).toNatClampNeg) = 4 then ix (T.1 a0 6) 941 (some (T.1 (R a0 9) (T.1 a0 6).toNatClampNeg)) else some (-1))
set_option maxRecDepth 100000 in
set_option maxHeartbeats 4000000 in
theorem mX10_keyword {g : Gl} {R : Rf} {T : Mm} {a0 : Nat} (l : Launch) (hR : Ty g R) (k0 : kd g a0 = 10) {r : Int32} (h : pX10_keyword R T a0 = some r) : MI l g yX10_keyword cX10_keyword 1 (some .int) rmX10_keyword [.ref (g.2.2.1 a0)] R T r R T := by
  refine z_metI (own := RX10) (lv := [some (.ref (g.2.2.1 a0))]) (by decide +kernel) rfl rfl rfl (fun X K => ?_)
  unfold pX10_keyword at h
  refine z_aload_n K dX10_keyword_0 rfl ?_
  refine z_getR K clX10 k0 7 rfl rfl q206 dX10_keyword_1 ?_
  refine z_aload_n K dX10_keyword_4 rfl ?_
  refine z_getI K clX10 k0 6 rfl rfl q205 dX10_keyword_5 ?_
  obtain ⟨hi, h⟩ := ix_e h
  refine z_iald K (hR.at (k := 7) (t := 20941) k0 rfl rfl) rfl rfl rfl hi dX10_keyword_8 ?_
  refine z_iconst K 4 dX10_keyword_9 rfl ?_
  refine z_icmp_ne K 25 dX10_keyword_10 (by decide) (fun c => ?_) (fun c => ?_)
  · have h := ite_f h c
    refine z_iconst K (-1) dX10_keyword_25 rfl ?_
    obtain rfl := Option.some.inj h
    exact z_iret K dX10_keyword_26
  · have h := ite_t h c
    refine z_aload_n K dX10_keyword_13 rfl ?_
    refine z_getR K clX10 k0 9 rfl rfl q208 dX10_keyword_14 ?_
    refine z_aload_n K dX10_keyword_17 rfl ?_
    refine z_getI K clX10 k0 6 rfl rfl q205 dX10_keyword_18 ?_
    obtain ⟨hi, h⟩ := ix_e h
    refine z_iald K (hR.at (k := 9) (t := 20941) k0 rfl rfl) rfl rfl rfl hi dX10_keyword_21 ?_
    refine z_goto K 26 dX10_keyword_22 (by decide) ?_
    obtain rfl := Option.some.inj h
    exact z_iret K dX10_keyword_26
/-! GoingOver$Tape.atName ()Z -/
abbrev rmX10_atName : Room := { frames := 0, cells := 0, slots := 0, locals := 0 }
def pX10_atName (R : Rf) (T : Mm) (a0 : Nat) : Option (Int32) :=
  ix (T.1 a0 6) 941 (if (T.1 (R a0 7) (T.1 a0 6).toNatClampNeg) = 3 then some 1 else some 0)
set_option maxRecDepth 100000 in
set_option maxHeartbeats 4000000 in
theorem mX10_atName {g : Gl} {R : Rf} {T : Mm} {a0 : Nat} (l : Launch) (hR : Ty g R) (k0 : kd g a0 = 10) {r : Int32} (h : pX10_atName R T a0 = some r) : MI l g yX10_atName cX10_atName 1 (some .boolean) rmX10_atName [.ref (g.2.2.1 a0)] R T r R T := by
  refine z_metI (own := RX10) (lv := [some (.ref (g.2.2.1 a0))]) (by decide +kernel) rfl rfl rfl (fun X K => ?_)
  unfold pX10_atName at h
  refine z_aload_n K dX10_atName_0 rfl ?_
  refine z_getR K clX10 k0 7 rfl rfl q206 dX10_atName_1 ?_
  refine z_aload_n K dX10_atName_4 rfl ?_
  refine z_getI K clX10 k0 6 rfl rfl q205 dX10_atName_5 ?_
  obtain ⟨hi, h⟩ := ix_e h
  refine z_iald K (hR.at (k := 7) (t := 20941) k0 rfl rfl) rfl rfl rfl hi dX10_atName_8 ?_
  refine z_iconst K 3 dX10_atName_9 rfl ?_
  refine z_icmp_ne K 17 dX10_atName_10 (by decide) (fun c => ?_) (fun c => ?_)
  · have h := ite_f h c
    refine z_iconst K 0 dX10_atName_17 rfl ?_
    obtain rfl := Option.some.inj h
    exact z_zret (v := 0) K rfl dX10_atName_18
  · have h := ite_t h c
    refine z_iconst K 1 dX10_atName_13 rfl ?_
    refine z_goto K 18 dX10_atName_14 (by decide) ?_
    obtain rfl := Option.some.inj h
    exact z_zret (v := 1) K rfl dX10_atName_18
/-! GoingOver$Tape.fail (I)Z -/
abbrev rmX10_fail : Room := { frames := 0, cells := 0, slots := 0, locals := 0 }
def pX10_fail (R : Rf) (T : Mm) (a0 : Nat) (x1 : Int32) : Option (Int32 × Mm) :=
  lt (wI T a0 2 x1) (fun (T1 : Mm) => ix (T1.1 a0 6) 941 (lt (wI T1 a0 3 (T1.1 (R a0 8) (T1.1 a0 6).toNatClampNeg)) (fun (T2 : Mm) => some (0, T2))))
set_option maxRecDepth 100000 in
set_option maxHeartbeats 4000000 in
theorem mX10_fail {g : Gl} {R : Rf} {T : Mm} {a0 : Nat} {x1 : Int32} (l : Launch) (hR : Ty g R) (k0 : kd g a0 = 10) {r : Int32 × Mm} (h : pX10_fail R T a0 x1 = some r) : MI l g yX10_fail cX10_fail 2 (some .boolean) rmX10_fail [.ref (g.2.2.1 a0), .int x1] R T r.1 R r.2 := by
  refine z_metI (own := RX10) (lv := [some (.ref (g.2.2.1 a0)), some (.int x1)]) (by decide +kernel) rfl rfl rfl (fun X K => ?_)
  unfold pX10_fail at h
  refine z_aload_n K dX10_fail_0 rfl ?_
  refine z_iload_n K dX10_fail_1 rfl ?_
  refine z_putI K clX10 tyX10_ok nmX10 k0 2 rfl rfl q200 rfl rfl rfl dX10_fail_2 ?_
  refine z_aload_n K dX10_fail_5 rfl ?_
  refine z_aload_n K dX10_fail_6 rfl ?_
  refine z_getR K clX10 k0 8 rfl rfl q207 dX10_fail_7 ?_
  refine z_aload_n K dX10_fail_10 rfl ?_
  refine z_getI K clX10 k0 6 rfl rfl q205 dX10_fail_11 ?_
  obtain ⟨hi, h⟩ := ix_e h
  refine z_iald K (hR.at (k := 8) (t := 20941) k0 rfl rfl) rfl rfl rfl hi dX10_fail_14 ?_
  refine z_putI K clX10 tyX10_ok nmX10 k0 3 rfl rfl q201 rfl rfl rfl dX10_fail_15 ?_
  refine z_iconst K 0 dX10_fail_18 rfl ?_
  obtain rfl := Option.some.inj h
  exact z_zret (v := 0) K rfl dX10_fail_19
/-! GoingOver$Tape.name ()J -/
abbrev rmX10_name : Room := { frames := 0, cells := 0, slots := 0, locals := 0 }
def pX10_name (R : Rf) (T : Mm) (a0 : Nat) : Option (Int64) :=
  ix (T.1 a0 6) 941 (some (T.2 (R a0 10) (T.1 a0 6).toNatClampNeg))
set_option maxRecDepth 100000 in
set_option maxHeartbeats 4000000 in
theorem mX10_name {g : Gl} {R : Rf} {T : Mm} {a0 : Nat} (l : Launch) (hR : Ty g R) (k0 : kd g a0 = 10) {r : Int64} (h : pX10_name R T a0 = some r) : ML l g yX10_name cX10_name 1 (some .long) rmX10_name [.ref (g.2.2.1 a0)] R T r R T := by
  refine z_metL (own := RX10) (lv := [some (.ref (g.2.2.1 a0))]) (by decide +kernel) rfl rfl rfl (fun X K => ?_)
  unfold pX10_name at h
  refine z_aload_n K dX10_name_0 rfl ?_
  refine z_getR K clX10 k0 10 rfl rfl q209 dX10_name_1 ?_
  refine z_aload_n K dX10_name_4 rfl ?_
  refine z_getI K clX10 k0 6 rfl rfl q205 dX10_name_5 ?_
  obtain ⟨hi, h⟩ := ix_e h
  refine z_lald K (hR.at (k := 10) (t := 30941) k0 rfl rfl) rfl rfl rfl hi dX10_name_8 ?_
  obtain rfl := Option.some.inj h
  exact z_lret K dX10_name_9
/-! GoingOver$Falls.personNamed (J)I -/
abbrev rmX3_personNamed : Room := { frames := 0, cells := 0, slots := 0, locals := 0 }
def pX3_personNamed_2 (R : Rf) (T : Mm) (a0 : Nat) (j1 : Int64) (e21 : Int32 → Option (Int32)) (e29 : Option (Int32)) (r2 : Int32 → Option (Int32)) (x3 : Int32) : Option (Int32) :=
  if (T.1 a0 0) ≤ x3 then e29 else ix x3 5 (if (lg_cmp (T.2 (R a0 6) x3.toNatClampNeg) j1) = 0 then e21 x3 else lt (x3 + 1) (fun (v1 : Int32) => r2 v1))
def pX3_personNamed_21 (R : Rf) (T : Mm) (a0 : Nat) (j1 : Int64) (x3 : Int32) : Option (Int32) :=
  some x3
def pX3_personNamed_29 (R : Rf) (T : Mm) (a0 : Nat) (j1 : Int64) : Option (Int32) :=
  some (-1)
def pX3_personNamed (R : Rf) (T : Mm) (a0 : Nat) (j1 : Int64) : Option (Int32) :=
  zl1 (pX3_personNamed_2 R T a0 j1 (pX3_personNamed_21 R T a0 j1) (pX3_personNamed_29 R T a0 j1)) FU 0
set_option maxRecDepth 100000 in
set_option maxHeartbeats 4000000 in
theorem wX3_personNamed_2 {X : Cx} {g : Gl} {l : Launch} {R : Rf} {T : Mm} {a0 : Nat} {j1 : Int64} (K : Ok X g l cX3_personNamed RX3 4 (some .int) rmX3_personNamed) (hR : Ty g R) (k0 : kd g a0 = 3) {r : Int32} {e21 : Int32 → Option (Int32)} (he21 : ∀ (x3 : Int32), e21 x3 = some r → Zj X g 4 (QI X g r R T) R T [none, none, none, some (.int x3)] [] 21) {e29 : Option (Int32)} (he29 : e29 = some r → Zj X g 4 (QI X g r R T) R T [none, none, none, none] [] 29) : ∀ (n : Nat) (x3 : Int32), zl1 (pX3_personNamed_2 R T a0 j1 e21 e29) n x3 = some r → Zj X g 4 (QI X g r R T) R T [some (.ref (g.2.2.1 a0)), some (.long j1), none, some (.int x3)] [] 2 := by
  intro n
  induction n with
  | zero =>
    intro x3 h
    exact absurd h (by simp [zl1])
  | succ n hr2 =>
    intro x3 h
    rw [zl1_s] at h
    unfold pX3_personNamed_2 at h
    refine z_iload_n K dX3_personNamed_2 rfl ?_
    refine z_aload_n K dX3_personNamed_3 rfl ?_
    refine z_getI K clX3 k0 0 rfl rfl q245 dX3_personNamed_4 ?_
    refine z_icmp_ge K 29 dX3_personNamed_7 (by decide) (fun c => ?_) (fun c => ?_)
    · have h := ite_t h c
      refine Zj.mask [false, false, false, false] ?_
      exact he29 h
    · have h := ite_f h c
      refine z_aload_n K dX3_personNamed_10 rfl ?_
      refine z_getR K clX3 k0 6 rfl rfl q270 dX3_personNamed_11 ?_
      refine z_iload_n K dX3_personNamed_14 rfl ?_
      obtain ⟨hi, h⟩ := ix_e h
      refine z_lald K (hR.at (k := 6) (t := 30005) k0 rfl rfl) rfl rfl rfl hi dX3_personNamed_15 ?_
      refine z_lload_n K dX3_personNamed_16 rfl ?_
      refine z_lcmp K dX3_personNamed_17 ?_
      refine z_if_ne K 23 dX3_personNamed_18 (by decide) (fun c => ?_) (fun c => ?_)
      · have h := ite_f h c
        refine z_iinc K 1 dX3_personNamed_23 rfl rfl rfl rfl ?_
        refine z_goto K 2 dX3_personNamed_26 (by decide) ?_
        refine Zj.mask [true, true, false, true] ?_
        exact hr2 _ h
      · have h := ite_t h c
        refine Zj.mask [false, false, false, true] ?_
        exact he21 _ h
set_option maxRecDepth 100000 in
set_option maxHeartbeats 4000000 in
theorem wX3_personNamed_21 {X : Cx} {g : Gl} {l : Launch} {R : Rf} {T : Mm} {a0 : Nat} {j1 : Int64} (K : Ok X g l cX3_personNamed RX3 4 (some .int) rmX3_personNamed) (hR : Ty g R) (k0 : kd g a0 = 3) {r : Int32} (x3 : Int32) (h : pX3_personNamed_21 R T a0 j1 x3 = some r) : Zj X g 4 (QI X g r R T) R T [none, none, none, some (.int x3)] [] 21 := by
  unfold pX3_personNamed_21 at h
  refine z_iload_n K dX3_personNamed_21 rfl ?_
  obtain rfl := Option.some.inj h
  exact z_iret K dX3_personNamed_22
set_option maxRecDepth 100000 in
set_option maxHeartbeats 4000000 in
theorem wX3_personNamed_29 {X : Cx} {g : Gl} {l : Launch} {R : Rf} {T : Mm} {a0 : Nat} {j1 : Int64} (K : Ok X g l cX3_personNamed RX3 4 (some .int) rmX3_personNamed) (hR : Ty g R) (k0 : kd g a0 = 3) {r : Int32} (h : pX3_personNamed_29 R T a0 j1 = some r) : Zj X g 4 (QI X g r R T) R T [none, none, none, none] [] 29 := by
  unfold pX3_personNamed_29 at h
  refine z_iconst K (-1) dX3_personNamed_29 rfl ?_
  obtain rfl := Option.some.inj h
  exact z_iret K dX3_personNamed_30
set_option maxRecDepth 100000 in
set_option maxHeartbeats 4000000 in
theorem mX3_personNamed {g : Gl} {R : Rf} {T : Mm} {a0 : Nat} {j1 : Int64} (l : Launch) (hR : Ty g R) (k0 : kd g a0 = 3) {r : Int32} (h : pX3_personNamed R T a0 j1 = some r) : MI l g yX3_personNamed cX3_personNamed 4 (some .int) rmX3_personNamed [.ref (g.2.2.1 a0), .long j1] R T r R T := by
  refine z_metI (own := RX3) (lv := [some (.ref (g.2.2.1 a0)), some (.long j1), none, none]) (by decide +kernel) rfl rfl rfl (fun X K => ?_)
  unfold pX3_personNamed at h
  refine z_iconst K 0 dX3_personNamed_0 rfl ?_
  refine z_istore_n K dX3_personNamed_1 rfl rfl ?_
  refine Zj.mask [true, true, false, true] ?_
  exact wX3_personNamed_2 K hR k0 (wX3_personNamed_21 K hR k0) (wX3_personNamed_29 K hR k0) FU _ h
/-! GoingOver$Tape.advance ()V -/
abbrev rmX10_advance : Room := { frames := 0, cells := 0, slots := 0, locals := 0 }
def pX10_advance (R : Rf) (T : Mm) (a0 : Nat) : Option (Mm) :=
  if (T.1 a0 5) ≤ ((T.1 a0 6) + 1) then some T else lt (wI T a0 6 ((T.1 a0 6) + 1)) (fun (T1 : Mm) => some T1)
set_option maxRecDepth 100000 in
set_option maxHeartbeats 4000000 in
theorem mX10_advance {g : Gl} {R : Rf} {T : Mm} {a0 : Nat} (l : Launch) (hR : Ty g R) (k0 : kd g a0 = 10) {r : Mm} (h : pX10_advance R T a0 = some r) : MV l g yX10_advance cX10_advance 1 none rmX10_advance [.ref (g.2.2.1 a0)] R T R r := by
  refine z_metV (own := RX10) (lv := [some (.ref (g.2.2.1 a0))]) (by decide +kernel) rfl rfl rfl (fun X K => ?_)
  unfold pX10_advance at h
  refine z_aload_n K dX10_advance_0 rfl ?_
  refine z_getI K clX10 k0 6 rfl rfl q205 dX10_advance_1 ?_
  refine z_iconst K 1 dX10_advance_4 rfl ?_
  refine z_iadd K dX10_advance_5 ?_
  refine z_aload_n K dX10_advance_6 rfl ?_
  refine z_getI K clX10 k0 5 rfl rfl q204 dX10_advance_7 ?_
  refine z_icmp_ge K 23 dX10_advance_10 (by decide) (fun c => ?_) (fun c => ?_)
  · have h := ite_t h c
    obtain rfl := Option.some.inj h
    exact z_vret K dX10_advance_23
  · have h := ite_f h c
    refine z_aload_n K dX10_advance_13 rfl ?_
    refine z_dup K dX10_advance_14 rfl ?_
    refine z_getI K clX10 k0 6 rfl rfl q205 dX10_advance_15 ?_
    refine z_iconst K 1 dX10_advance_18 rfl ?_
    refine z_iadd K dX10_advance_19 ?_
    refine z_putI K clX10 tyX10_ok nmX10 k0 6 rfl rfl q205 rfl rfl rfl dX10_advance_20 ?_
    obtain rfl := Option.some.inj h
    exact z_vret K dX10_advance_23
/-! GoingOver$Falls.taken (LGoingOver$Tape;I)I -/
abbrev rmX3_taken : Room := { frames := 1, cells := 0, slots := 0, locals := 21 }
def pX3_taken_24 (R : Rf) (a0 : Nat) (x1 : Int32) (T : Mm) (as0 : Nat) (xs1 : Int32) : Option (Int32 × Mm) :=
  bd2 (pX10_fail R T as0 xs1) (fun (u2 : Int32) (T2 : Mm) => some ((-1), T2))
def pX3_taken (R : Rf) (T : Mm) (a0 : Nat) (x1 : Int32) : Option (Int32 × Mm) :=
  if x1 = (-1) then bd1 (pX10_atName R T a0) (fun (u1 : Int32) => if u1 = 0 then pX3_taken_24 R a0 x1 T a0 1 else pX3_taken_24 R a0 x1 T a0 3) else bd1 (pX10_advance R T a0) (fun (T3 : Mm) => some (x1, T3))
set_option maxRecDepth 100000 in
set_option maxHeartbeats 4000000 in
theorem wX3_taken_24 {X : Cx} {g : Gl} {l : Launch} {R : Rf} {a0 : Nat} {x1 : Int32} (K : Ok X g l cX3_taken RX3 2 (some .int) rmX3_taken) (hR : Ty g R) (k0 : kd g a0 = 10) {r : Int32 × Mm} (T : Mm) (as0 : Nat) (xs1 : Int32) (ks0 : kd g as0 = 10) (h : pX3_taken_24 R a0 x1 T as0 xs1 = some r) : Zj X g 2 (QI X g r.1 R r.2) R T [none, none] [.int xs1, .ref (g.2.2.1 as0)] 24 := by
  unfold pX3_taken_24 at h
  obtain ⟨u2, T2, hc, h⟩ := bd2_e h
  refine z_callVI K (mX10_fail l hR ks0 hc) clX10 ks0 ceX10_fail q636 ⟨rfl, rfl, rfl, rfl⟩ rfl rfl rfl dX3_taken_24 ?_
  refine z_pop K dX3_taken_27 rfl ?_
  refine z_iconst K (-1) dX3_taken_28 rfl ?_
  obtain rfl := Option.some.inj h
  exact z_iret K dX3_taken_29
set_option maxRecDepth 100000 in
set_option maxHeartbeats 4000000 in
theorem mX3_taken {g : Gl} {R : Rf} {T : Mm} {a0 : Nat} {x1 : Int32} (l : Launch) (hR : Ty g R) (k0 : kd g a0 = 10) {r : Int32 × Mm} (h : pX3_taken R T a0 x1 = some r) : MI l g yX3_taken cX3_taken 2 (some .int) rmX3_taken [.ref (g.2.2.1 a0), .int x1] R T r.1 R r.2 := by
  refine z_metI (own := RX3) (lv := [some (.ref (g.2.2.1 a0)), some (.int x1)]) (by decide +kernel) rfl rfl rfl (fun X K => ?_)
  unfold pX3_taken at h
  refine z_iload_n K dX3_taken_0 rfl ?_
  refine z_iconst K (-1) dX3_taken_1 rfl ?_
  refine z_icmp_eq K 11 dX3_taken_2 (by decide) (fun c => ?_) (fun c => ?_)
  · have h := ite_t h c
    refine z_aload_n K dX3_taken_11 rfl ?_
    refine z_aload_n K dX3_taken_12 rfl ?_
    obtain ⟨u1, hc, h⟩ := bd1_e h
    refine z_callVI K (mX10_atName l hR k0 hc) clX10 k0 ceX10_atName q670 ⟨rfl, rfl, rfl, rfl⟩ rfl rfl rfl dX3_taken_13 ?_
    refine z_if_eq K 23 dX3_taken_16 (by decide) (fun c => ?_) (fun c => ?_)
    · have h := ite_t h c
      refine z_iconst K 1 dX3_taken_23 rfl ?_
      refine Zj.mask [false, false] ?_
      exact wX3_taken_24 K hR k0 _ _ _ k0 h
    · have h := ite_f h c
      refine z_iconst K 3 dX3_taken_19 rfl ?_
      refine z_goto K 24 dX3_taken_20 (by decide) ?_
      refine Zj.mask [false, false] ?_
      exact wX3_taken_24 K hR k0 _ _ _ k0 h
  · have h := ite_f h c
    refine z_aload_n K dX3_taken_5 rfl ?_
    obtain ⟨T3, hc, h⟩ := bd1_e h
    refine z_callVV K (mX10_advance l hR k0 hc) clX10 k0 ceX10_advance q640 ⟨rfl, rfl, rfl, rfl⟩ rfl rfl rfl dX3_taken_6 ?_
    refine z_iload_n K dX3_taken_9 rfl ?_
    obtain rfl := Option.some.inj h
    exact z_iret K dX3_taken_10
/-! GoingOver$Falls.takePerson (LGoingOver$Tape;)I -/
abbrev rmX3_takePerson : Room := { frames := 2, cells := 0, slots := 0, locals := 42 }
def pX3_takePerson_20 (R : Rf) (a0 : Nat) (a1 : Nat) (T : Mm) (as0 : Nat) (xs1 : Int32) : Option (Int32 × Mm) :=
  bd2 (pX3_taken R T as0 xs1) (fun (u2 : Int32) (T2 : Mm) => some (u2, T2))
def pX3_takePerson (R : Rf) (T : Mm) (a0 : Nat) (a1 : Nat) : Option (Int32 × Mm) :=
  bd1 (pX10_atName R T a1) (fun (u1 : Int32) => if u1 = 0 then pX3_takePerson_20 R a0 a1 T a1 (-1) else bd1 (pX10_name R T a1) (fun (u3 : Int64) => bd1 (pX3_personNamed R T a0 u3) (fun (u4 : Int32) => pX3_takePerson_20 R a0 a1 T a1 u4)))
set_option maxRecDepth 100000 in
set_option maxHeartbeats 4000000 in
theorem wX3_takePerson_20 {X : Cx} {g : Gl} {l : Launch} {R : Rf} {a0 : Nat} {a1 : Nat} (K : Ok X g l cX3_takePerson RX3 2 (some .int) rmX3_takePerson) (hR : Ty g R) (k0 : kd g a0 = 3) (k1 : kd g a1 = 10) {r : Int32 × Mm} (T : Mm) (as0 : Nat) (xs1 : Int32) (ks0 : kd g as0 = 10) (h : pX3_takePerson_20 R a0 a1 T as0 xs1 = some r) : Zj X g 2 (QI X g r.1 R r.2) R T [none, none] [.int xs1, .ref (g.2.2.1 as0)] 20 := by
  unfold pX3_takePerson_20 at h
  obtain ⟨u2, T2, hc, h⟩ := bd2_e h
  refine z_callSI K (mX3_taken l hR ks0 hc) ceX3_taken q694 ⟨rfl, rfl, rfl, rfl⟩ rfl rfl rfl dX3_takePerson_20 ?_
  obtain rfl := Option.some.inj h
  exact z_iret K dX3_takePerson_23
set_option maxRecDepth 100000 in
set_option maxHeartbeats 4000000 in
theorem mX3_takePerson {g : Gl} {R : Rf} {T : Mm} {a0 : Nat} {a1 : Nat} (l : Launch) (hR : Ty g R) (k0 : kd g a0 = 3) (k1 : kd g a1 = 10) {r : Int32 × Mm} (h : pX3_takePerson R T a0 a1 = some r) : MI l g yX3_takePerson cX3_takePerson 2 (some .int) rmX3_takePerson [.ref (g.2.2.1 a0), .ref (g.2.2.1 a1)] R T r.1 R r.2 := by
  refine z_metI (own := RX3) (lv := [some (.ref (g.2.2.1 a0)), some (.ref (g.2.2.1 a1))]) (by decide +kernel) rfl rfl rfl (fun X K => ?_)
  unfold pX3_takePerson at h
  refine z_aload_n K dX3_takePerson_0 rfl ?_
  refine z_aload_n K dX3_takePerson_1 rfl ?_
  obtain ⟨u1, hc, h⟩ := bd1_e h
  refine z_callVI K (mX10_atName l hR k1 hc) clX10 k1 ceX10_atName q670 ⟨rfl, rfl, rfl, rfl⟩ rfl rfl rfl dX3_takePerson_2 ?_
  refine z_if_eq K 19 dX3_takePerson_5 (by decide) (fun c => ?_) (fun c => ?_)
  · have h := ite_t h c
    refine z_iconst K (-1) dX3_takePerson_19 rfl ?_
    refine Zj.mask [false, false] ?_
    exact wX3_takePerson_20 K hR k0 k1 _ _ _ k1 h
  · have h := ite_f h c
    refine z_aload_n K dX3_takePerson_8 rfl ?_
    refine z_aload_n K dX3_takePerson_9 rfl ?_
    obtain ⟨u3, hc, h⟩ := bd1_e h
    refine z_callVL K (mX10_name l hR k1 hc) clX10 k1 ceX10_name q674 ⟨rfl, rfl, rfl, rfl⟩ rfl rfl rfl dX3_takePerson_10 ?_
    obtain ⟨u4, hc, h⟩ := bd1_e h
    refine z_callVI K (mX3_personNamed l hR k0 hc) clX3 k0 ceX3_personNamed q678 ⟨rfl, rfl, rfl, rfl⟩ rfl rfl rfl dX3_takePerson_13 ?_
    refine z_goto K 20 dX3_takePerson_16 (by decide) ?_
    refine Zj.mask [false, false] ?_
    exact wX3_takePerson_20 K hR k0 k1 _ _ _ k1 h
/-! GoingOver$Book.readOfPerson (LGoingOver$Tape;LGoingOver$Falls;)Z -/
abbrev rmX0_readOfPerson : Room := { frames := 3, cells := 0, slots := 0, locals := 63 }
def pX0_readOfPerson_36 (R : Rf) (a0 : Nat) (a1 : Nat) (a2 : Nat) (T : Mm) (x3 : Int32) : Option (Int32 × Mm) :=
  ix (T.1 a0 1) 40 (lt (wI T (R a0 2) (T.1 a0 1).toNatClampNeg x3) (fun (T4 : Mm) => bd1 (pX10_advance R T4 a1) (fun (T5 : Mm) => some (1, T5))))
def pX0_readOfPerson (R : Rf) (T : Mm) (a0 : Nat) (a1 : Nat) (a2 : Nat) : Option (Int32 × Mm) :=
  bd2 (pX3_takePerson R T a2 a1) (fun (u1 : Int32) (T1 : Mm) => ix (T.1 a0 1) 40 (lt (wI T1 (R a0 3) (T.1 a0 1).toNatClampNeg u1) (fun (T2 : Mm) => bd1 (pX10_keyword R T2 a1) (fun (u3 : Int32) => if u3 = 5 then pX0_readOfPerson_36 R a0 a1 a2 T2 u3 else if u3 = 6 then pX0_readOfPerson_36 R a0 a1 a2 T2 u3 else bd2 (pX10_fail R T2 a1 1) (fun (u6 : Int32) (T6 : Mm) => bz u6 (some (u6, T6)))))))
set_option maxRecDepth 100000 in
set_option maxHeartbeats 4000000 in
theorem wX0_readOfPerson_36 {X : Cx} {g : Gl} {l : Launch} {R : Rf} {a0 : Nat} {a1 : Nat} {a2 : Nat} (K : Ok X g l cX0_readOfPerson RX0 4 (some .boolean) rmX0_readOfPerson) (hR : Ty g R) (k0 : kd g a0 = 0) (k1 : kd g a1 = 10) (k2 : kd g a2 = 3) {r : Int32 × Mm} (T : Mm) (x3 : Int32) (h : pX0_readOfPerson_36 R a0 a1 a2 T x3 = some r) : Zj X g 4 (QI X g r.1 R r.2) R T [some (.ref (g.2.2.1 a0)), some (.ref (g.2.2.1 a1)), none, some (.int x3)] [] 36 := by
  unfold pX0_readOfPerson_36 at h
  refine z_aload_n K dX0_readOfPerson_36 rfl ?_
  refine z_getR K clX0 k0 2 rfl rfl q389 dX0_readOfPerson_37 ?_
  refine z_aload_n K dX0_readOfPerson_40 rfl ?_
  refine z_getI K clX0 k0 1 rfl rfl q388 dX0_readOfPerson_41 ?_
  refine z_iload_n K dX0_readOfPerson_44 rfl ?_
  obtain ⟨hi, h⟩ := ix_e h
  refine z_iast K (hR.at (k := 2) (t := 20040) k0 rfl rfl) rfl rfl rfl hi dX0_readOfPerson_45 ?_
  refine z_aload_n K dX0_readOfPerson_46 rfl ?_
  obtain ⟨T5, hc, h⟩ := bd1_e h
  refine z_callVV K (mX10_advance l hR k1 hc) clX10 k1 ceX10_advance q1099 ⟨rfl, rfl, rfl, rfl⟩ rfl rfl rfl dX0_readOfPerson_47 ?_
  refine z_iconst K 1 dX0_readOfPerson_50 rfl ?_
  obtain rfl := Option.some.inj h
  exact z_zret (v := 1) K rfl dX0_readOfPerson_51
set_option maxRecDepth 100000 in
set_option maxHeartbeats 4000000 in
theorem mX0_readOfPerson {g : Gl} {R : Rf} {T : Mm} {a0 : Nat} {a1 : Nat} {a2 : Nat} (l : Launch) (hR : Ty g R) (k0 : kd g a0 = 0) (k1 : kd g a1 = 10) (k2 : kd g a2 = 3) {r : Int32 × Mm} (h : pX0_readOfPerson R T a0 a1 a2 = some r) : MI l g yX0_readOfPerson cX0_readOfPerson 4 (some .boolean) rmX0_readOfPerson [.ref (g.2.2.1 a0), .ref (g.2.2.1 a1), .ref (g.2.2.1 a2)] R T r.1 R r.2 := by
  refine z_metI (own := RX0) (lv := [some (.ref (g.2.2.1 a0)), some (.ref (g.2.2.1 a1)), some (.ref (g.2.2.1 a2)), none]) (by decide +kernel) rfl rfl rfl (fun X K => ?_)
  unfold pX0_readOfPerson at h
  refine z_aload_n K dX0_readOfPerson_0 rfl ?_
  refine z_getR K clX0 k0 3 rfl rfl q390 dX0_readOfPerson_1 ?_
  refine z_aload_n K dX0_readOfPerson_4 rfl ?_
  refine z_getI K clX0 k0 1 rfl rfl q388 dX0_readOfPerson_5 ?_
  refine z_aload_n K dX0_readOfPerson_8 rfl ?_
  refine z_aload_n K dX0_readOfPerson_9 rfl ?_
  obtain ⟨u1, T1, hc, h⟩ := bd2_e h
  refine z_callVI K (mX3_takePerson l hR k2 k1 hc) clX3 k2 ceX3_takePerson q1098 ⟨rfl, rfl, rfl, rfl⟩ rfl rfl rfl dX0_readOfPerson_10 ?_
  obtain ⟨hi, h⟩ := ix_e h
  refine z_iast K (hR.at (k := 3) (t := 20040) k0 rfl rfl) rfl rfl rfl hi dX0_readOfPerson_13 ?_
  refine z_aload_n K dX0_readOfPerson_14 rfl ?_
  obtain ⟨u3, hc, h⟩ := bd1_e h
  refine z_callVI K (mX10_keyword l hR k1 hc) clX10 k1 ceX10_keyword q1089 ⟨rfl, rfl, rfl, rfl⟩ rfl rfl rfl dX0_readOfPerson_15 ?_
  refine z_istore_n K dX0_readOfPerson_18 rfl rfl ?_
  refine z_iload_n K dX0_readOfPerson_19 rfl ?_
  refine z_iconst K 5 dX0_readOfPerson_20 rfl ?_
  refine z_icmp_eq K 36 dX0_readOfPerson_21 (by decide) (fun c => ?_) (fun c => ?_)
  · have h := ite_t h c
    refine Zj.mask [true, true, false, true] ?_
    exact wX0_readOfPerson_36 K hR k0 k1 k2 _ _ h
  · have h := ite_f h c
    refine z_iload_n K dX0_readOfPerson_24 rfl ?_
    refine z_bipush K 6 dX0_readOfPerson_25 rfl ?_
    refine z_icmp_eq K 36 dX0_readOfPerson_27 (by decide) (fun c => ?_) (fun c => ?_)
    · have h := ite_t h c
      refine Zj.mask [true, true, false, true] ?_
      exact wX0_readOfPerson_36 K hR k0 k1 k2 _ _ h
    · have h := ite_f h c
      refine z_aload_n K dX0_readOfPerson_30 rfl ?_
      refine z_iconst K 1 dX0_readOfPerson_31 rfl ?_
      obtain ⟨u6, T6, hc, h⟩ := bd2_e h
      refine z_callVI K (mX10_fail l hR k1 hc) clX10 k1 ceX10_fail q1091 ⟨rfl, rfl, rfl, rfl⟩ rfl rfl rfl dX0_readOfPerson_32 ?_
      obtain ⟨hz, hf, h⟩ := bz_e h
      obtain rfl := Option.some.inj h
      exact z_zret K hz dX0_readOfPerson_35
/-! GoingOver$Tape.atMark (I)Z -/
abbrev rmX10_atMark : Room := { frames := 0, cells := 0, slots := 0, locals := 0 }
def pX10_atMark (R : Rf) (T : Mm) (a0 : Nat) (x1 : Int32) : Option (Int32) :=
  ix (T.1 a0 6) 941 (if (T.1 (R a0 7) (T.1 a0 6).toNatClampNeg) = 5 then ix (T.1 a0 6) 941 (if (T.1 (R a0 9) (T.1 a0 6).toNatClampNeg) = x1 then some 1 else some 0) else some 0)
set_option maxRecDepth 100000 in
set_option maxHeartbeats 4000000 in
theorem mX10_atMark {g : Gl} {R : Rf} {T : Mm} {a0 : Nat} {x1 : Int32} (l : Launch) (hR : Ty g R) (k0 : kd g a0 = 10) {r : Int32} (h : pX10_atMark R T a0 x1 = some r) : MI l g yX10_atMark cX10_atMark 2 (some .boolean) rmX10_atMark [.ref (g.2.2.1 a0), .int x1] R T r R T := by
  refine z_metI (own := RX10) (lv := [some (.ref (g.2.2.1 a0)), some (.int x1)]) (by decide +kernel) rfl rfl rfl (fun X K => ?_)
  unfold pX10_atMark at h
  refine z_aload_n K dX10_atMark_0 rfl ?_
  refine z_getR K clX10 k0 7 rfl rfl q206 dX10_atMark_1 ?_
  refine z_aload_n K dX10_atMark_4 rfl ?_
  refine z_getI K clX10 k0 6 rfl rfl q205 dX10_atMark_5 ?_
  obtain ⟨hi, h⟩ := ix_e h
  refine z_iald K (hR.at (k := 7) (t := 20941) k0 rfl rfl) rfl rfl rfl hi dX10_atMark_8 ?_
  refine z_iconst K 5 dX10_atMark_9 rfl ?_
  refine z_icmp_ne K 30 dX10_atMark_10 (by decide) (fun c => ?_) (fun c => ?_)
  · have h := ite_f h c
    refine z_iconst K 0 dX10_atMark_30 rfl ?_
    obtain rfl := Option.some.inj h
    exact z_zret (v := 0) K rfl dX10_atMark_31
  · have h := ite_t h c
    refine z_aload_n K dX10_atMark_13 rfl ?_
    refine z_getR K clX10 k0 9 rfl rfl q208 dX10_atMark_14 ?_
    refine z_aload_n K dX10_atMark_17 rfl ?_
    refine z_getI K clX10 k0 6 rfl rfl q205 dX10_atMark_18 ?_
    obtain ⟨hi, h⟩ := ix_e h
    refine z_iald K (hR.at (k := 9) (t := 20941) k0 rfl rfl) rfl rfl rfl hi dX10_atMark_21 ?_
    refine z_iload_n K dX10_atMark_22 rfl ?_
    refine z_icmp_ne K 30 dX10_atMark_23 (by decide) (fun c => ?_) (fun c => ?_)
    · have h := ite_f h c
      refine z_iconst K 0 dX10_atMark_30 rfl ?_
      obtain rfl := Option.some.inj h
      exact z_zret (v := 0) K rfl dX10_atMark_31
    · have h := ite_t h c
      refine z_iconst K 1 dX10_atMark_26 rfl ?_
      refine z_goto K 31 dX10_atMark_27 (by decide) ?_
      obtain rfl := Option.some.inj h
      exact z_zret (v := 1) K rfl dX10_atMark_31
/-! GoingOver$Tape.takeMark (I)Z -/
abbrev rmX10_takeMark : Room := { frames := 1, cells := 0, slots := 0, locals := 21 }
def pX10_takeMark (R : Rf) (T : Mm) (a0 : Nat) (x1 : Int32) : Option (Int32 × Mm) :=
  bd1 (pX10_atMark R T a0 x1) (fun (u1 : Int32) => if u1 = 0 then bd2 (pX10_fail R T a0 1) (fun (u3 : Int32) (T3 : Mm) => bz u3 (some (u3, T3))) else bd1 (pX10_advance R T a0) (fun (T2 : Mm) => some (1, T2)))
set_option maxRecDepth 100000 in
set_option maxHeartbeats 4000000 in
theorem mX10_takeMark {g : Gl} {R : Rf} {T : Mm} {a0 : Nat} {x1 : Int32} (l : Launch) (hR : Ty g R) (k0 : kd g a0 = 10) {r : Int32 × Mm} (h : pX10_takeMark R T a0 x1 = some r) : MI l g yX10_takeMark cX10_takeMark 2 (some .boolean) rmX10_takeMark [.ref (g.2.2.1 a0), .int x1] R T r.1 R r.2 := by
  refine z_metI (own := RX10) (lv := [some (.ref (g.2.2.1 a0)), some (.int x1)]) (by decide +kernel) rfl rfl rfl (fun X K => ?_)
  unfold pX10_takeMark at h
  refine z_aload_n K dX10_takeMark_0 rfl ?_
  refine z_iload_n K dX10_takeMark_1 rfl ?_
  obtain ⟨u1, hc, h⟩ := bd1_e h
  refine z_callVI K (mX10_atMark l hR k0 hc) clX10 k0 ceX10_atMark q654 ⟨rfl, rfl, rfl, rfl⟩ rfl rfl rfl dX10_takeMark_2 ?_
  refine z_if_ne K 14 dX10_takeMark_5 (by decide) (fun c => ?_) (fun c => ?_)
  · have h := ite_f h c
    refine z_aload_n K dX10_takeMark_14 rfl ?_
    obtain ⟨T2, hc, h⟩ := bd1_e h
    refine z_callVV K (mX10_advance l hR k0 hc) clX10 k0 ceX10_advance q649 ⟨rfl, rfl, rfl, rfl⟩ rfl rfl rfl dX10_takeMark_15 ?_
    refine z_iconst K 1 dX10_takeMark_18 rfl ?_
    obtain rfl := Option.some.inj h
    exact z_zret (v := 1) K rfl dX10_takeMark_19
  · have h := ite_t h c
    refine z_aload_n K dX10_takeMark_8 rfl ?_
    refine z_iconst K 1 dX10_takeMark_9 rfl ?_
    obtain ⟨u3, T3, hc, h⟩ := bd2_e h
    refine z_callVI K (mX10_fail l hR k0 hc) clX10 k0 ceX10_fail q648 ⟨rfl, rfl, rfl, rfl⟩ rfl rfl rfl dX10_takeMark_10 ?_
    obtain ⟨hz, hf, h⟩ := bz_e h
    obtain rfl := Option.some.inj h
    exact z_zret K hz dX10_takeMark_13
/-! GoingOver$Tape.takeNumber (II)I -/
abbrev rmX10_takeNumber : Room := { frames := 1, cells := 0, slots := 0, locals := 21 }
def pX10_takeNumber_41 (R : Rf) (a0 : Nat) (x1 : Int32) (x2 : Int32) (T : Mm) : Option (Int32 × Mm) :=
  bd2 (pX10_fail R T a0 2) (fun (u2 : Int32) (T2 : Mm) => some ((-1), T2))
def pX10_takeNumber (R : Rf) (T : Mm) (a0 : Nat) (x1 : Int32) (x2 : Int32) : Option (Int32 × Mm) :=
  ix (T.1 a0 6) 941 (lt (T.1 (R a0 9) (T.1 a0 6).toNatClampNeg) (fun (v1 : Int32) => ix (T.1 a0 6) 941 (if (T.1 (R a0 7) (T.1 a0 6).toNatClampNeg) = 2 then if v1 < x1 then pX10_takeNumber_41 R a0 x1 x2 T else if v1 ≤ x2 then bd1 (pX10_advance R T a0) (fun (T3 : Mm) => some (v1, T3)) else pX10_takeNumber_41 R a0 x1 x2 T else bd2 (pX10_fail R T a0 1) (fun (u4 : Int32) (T4 : Mm) => some ((-1), T4)))))
set_option maxRecDepth 100000 in
set_option maxHeartbeats 4000000 in
theorem wX10_takeNumber_41 {X : Cx} {g : Gl} {l : Launch} {R : Rf} {a0 : Nat} {x1 : Int32} {x2 : Int32} (K : Ok X g l cX10_takeNumber RX10 4 (some .int) rmX10_takeNumber) (hR : Ty g R) (k0 : kd g a0 = 10) {r : Int32 × Mm} (T : Mm) (h : pX10_takeNumber_41 R a0 x1 x2 T = some r) : Zj X g 4 (QI X g r.1 R r.2) R T [some (.ref (g.2.2.1 a0)), none, none, none] [] 41 := by
  unfold pX10_takeNumber_41 at h
  refine z_aload_n K dX10_takeNumber_41 rfl ?_
  refine z_iconst K 2 dX10_takeNumber_42 rfl ?_
  obtain ⟨u2, T2, hc, h⟩ := bd2_e h
  refine z_callVI K (mX10_fail l hR k0 hc) clX10 k0 ceX10_fail q648 ⟨rfl, rfl, rfl, rfl⟩ rfl rfl rfl dX10_takeNumber_43 ?_
  refine z_pop K dX10_takeNumber_46 rfl ?_
  refine z_iconst K (-1) dX10_takeNumber_47 rfl ?_
  obtain rfl := Option.some.inj h
  exact z_iret K dX10_takeNumber_48
set_option maxRecDepth 100000 in
set_option maxHeartbeats 4000000 in
theorem mX10_takeNumber {g : Gl} {R : Rf} {T : Mm} {a0 : Nat} {x1 : Int32} {x2 : Int32} (l : Launch) (hR : Ty g R) (k0 : kd g a0 = 10) {r : Int32 × Mm} (h : pX10_takeNumber R T a0 x1 x2 = some r) : MI l g yX10_takeNumber cX10_takeNumber 4 (some .int) rmX10_takeNumber [.ref (g.2.2.1 a0), .int x1, .int x2] R T r.1 R r.2 := by
  refine z_metI (own := RX10) (lv := [some (.ref (g.2.2.1 a0)), some (.int x1), some (.int x2), none]) (by decide +kernel) rfl rfl rfl (fun X K => ?_)
  unfold pX10_takeNumber at h
  refine z_aload_n K dX10_takeNumber_0 rfl ?_
  refine z_getR K clX10 k0 9 rfl rfl q208 dX10_takeNumber_1 ?_
  refine z_aload_n K dX10_takeNumber_4 rfl ?_
  refine z_getI K clX10 k0 6 rfl rfl q205 dX10_takeNumber_5 ?_
  obtain ⟨hi, h⟩ := ix_e h
  refine z_iald K (hR.at (k := 9) (t := 20941) k0 rfl rfl) rfl rfl rfl hi dX10_takeNumber_8 ?_
  refine z_istore_n K dX10_takeNumber_9 rfl rfl ?_
  refine z_aload_n K dX10_takeNumber_10 rfl ?_
  refine z_getR K clX10 k0 7 rfl rfl q206 dX10_takeNumber_11 ?_
  refine z_aload_n K dX10_takeNumber_14 rfl ?_
  refine z_getI K clX10 k0 6 rfl rfl q205 dX10_takeNumber_15 ?_
  obtain ⟨hi, h⟩ := ix_e h
  refine z_iald K (hR.at (k := 7) (t := 20941) k0 rfl rfl) rfl rfl rfl hi dX10_takeNumber_18 ?_
  refine z_iconst K 2 dX10_takeNumber_19 rfl ?_
  refine z_icmp_eq K 31 dX10_takeNumber_20 (by decide) (fun c => ?_) (fun c => ?_)
  · have h := ite_t h c
    refine z_iload_n K dX10_takeNumber_31 rfl ?_
    refine z_iload_n K dX10_takeNumber_32 rfl ?_
    refine z_icmp_lt K 41 dX10_takeNumber_33 (by decide) (fun c => ?_) (fun c => ?_)
    · have h := ite_t h c
      refine Zj.mask [true, false, false, false] ?_
      exact wX10_takeNumber_41 K hR k0 _ h
    · have h := ite_f h c
      refine z_iload_n K dX10_takeNumber_36 rfl ?_
      refine z_iload_n K dX10_takeNumber_37 rfl ?_
      refine z_icmp_le K 49 dX10_takeNumber_38 (by decide) (fun c => ?_) (fun c => ?_)
      · have h := ite_t h c
        refine z_aload_n K dX10_takeNumber_49 rfl ?_
        obtain ⟨T3, hc, h⟩ := bd1_e h
        refine z_callVV K (mX10_advance l hR k0 hc) clX10 k0 ceX10_advance q649 ⟨rfl, rfl, rfl, rfl⟩ rfl rfl rfl dX10_takeNumber_50 ?_
        refine z_iload_n K dX10_takeNumber_53 rfl ?_
        obtain rfl := Option.some.inj h
        exact z_iret K dX10_takeNumber_54
      · have h := ite_f h c
        refine Zj.mask [true, false, false, false] ?_
        exact wX10_takeNumber_41 K hR k0 _ h
  · have h := ite_f h c
    refine z_aload_n K dX10_takeNumber_23 rfl ?_
    refine z_iconst K 1 dX10_takeNumber_24 rfl ?_
    obtain ⟨u4, T4, hc, h⟩ := bd2_e h
    refine z_callVI K (mX10_fail l hR k0 hc) clX10 k0 ceX10_fail q648 ⟨rfl, rfl, rfl, rfl⟩ rfl rfl rfl dX10_takeNumber_25 ?_
    refine z_pop K dX10_takeNumber_28 rfl ?_
    refine z_iconst K (-1) dX10_takeNumber_29 rfl ?_
    obtain rfl := Option.some.inj h
    exact z_iret K dX10_takeNumber_30
/-! GoingOver$Falls.itemNamed (J)I -/
abbrev rmX3_itemNamed : Room := { frames := 0, cells := 0, slots := 0, locals := 0 }
def pX3_itemNamed_2 (R : Rf) (T : Mm) (a0 : Nat) (j1 : Int64) (e21 : Int32 → Option (Int32)) (e29 : Option (Int32)) (r2 : Int32 → Option (Int32)) (x3 : Int32) : Option (Int32) :=
  if (T.1 a0 1) ≤ x3 then e29 else ix x3 10 (if (lg_cmp (T.2 (R a0 7) x3.toNatClampNeg) j1) = 0 then e21 x3 else lt (x3 + 1) (fun (v1 : Int32) => r2 v1))
def pX3_itemNamed_21 (R : Rf) (T : Mm) (a0 : Nat) (j1 : Int64) (x3 : Int32) : Option (Int32) :=
  some x3
def pX3_itemNamed_29 (R : Rf) (T : Mm) (a0 : Nat) (j1 : Int64) : Option (Int32) :=
  some (-1)
def pX3_itemNamed (R : Rf) (T : Mm) (a0 : Nat) (j1 : Int64) : Option (Int32) :=
  zl1 (pX3_itemNamed_2 R T a0 j1 (pX3_itemNamed_21 R T a0 j1) (pX3_itemNamed_29 R T a0 j1)) FU 0
set_option maxRecDepth 100000 in
set_option maxHeartbeats 4000000 in
theorem wX3_itemNamed_2 {X : Cx} {g : Gl} {l : Launch} {R : Rf} {T : Mm} {a0 : Nat} {j1 : Int64} (K : Ok X g l cX3_itemNamed RX3 4 (some .int) rmX3_itemNamed) (hR : Ty g R) (k0 : kd g a0 = 3) {r : Int32} {e21 : Int32 → Option (Int32)} (he21 : ∀ (x3 : Int32), e21 x3 = some r → Zj X g 4 (QI X g r R T) R T [none, none, none, some (.int x3)] [] 21) {e29 : Option (Int32)} (he29 : e29 = some r → Zj X g 4 (QI X g r R T) R T [none, none, none, none] [] 29) : ∀ (n : Nat) (x3 : Int32), zl1 (pX3_itemNamed_2 R T a0 j1 e21 e29) n x3 = some r → Zj X g 4 (QI X g r R T) R T [some (.ref (g.2.2.1 a0)), some (.long j1), none, some (.int x3)] [] 2 := by
  intro n
  induction n with
  | zero =>
    intro x3 h
    exact absurd h (by simp [zl1])
  | succ n hr2 =>
    intro x3 h
    rw [zl1_s] at h
    unfold pX3_itemNamed_2 at h
    refine z_iload_n K dX3_itemNamed_2 rfl ?_
    refine z_aload_n K dX3_itemNamed_3 rfl ?_
    refine z_getI K clX3 k0 1 rfl rfl q250 dX3_itemNamed_4 ?_
    refine z_icmp_ge K 29 dX3_itemNamed_7 (by decide) (fun c => ?_) (fun c => ?_)
    · have h := ite_t h c
      refine Zj.mask [false, false, false, false] ?_
      exact he29 h
    · have h := ite_f h c
      refine z_aload_n K dX3_itemNamed_10 rfl ?_
      refine z_getR K clX3 k0 7 rfl rfl q272 dX3_itemNamed_11 ?_
      refine z_iload_n K dX3_itemNamed_14 rfl ?_
      obtain ⟨hi, h⟩ := ix_e h
      refine z_lald K (hR.at (k := 7) (t := 30010) k0 rfl rfl) rfl rfl rfl hi dX3_itemNamed_15 ?_
      refine z_lload_n K dX3_itemNamed_16 rfl ?_
      refine z_lcmp K dX3_itemNamed_17 ?_
      refine z_if_ne K 23 dX3_itemNamed_18 (by decide) (fun c => ?_) (fun c => ?_)
      · have h := ite_f h c
        refine z_iinc K 1 dX3_itemNamed_23 rfl rfl rfl rfl ?_
        refine z_goto K 2 dX3_itemNamed_26 (by decide) ?_
        refine Zj.mask [true, true, false, true] ?_
        exact hr2 _ h
      · have h := ite_t h c
        refine Zj.mask [false, false, false, true] ?_
        exact he21 _ h
set_option maxRecDepth 100000 in
set_option maxHeartbeats 4000000 in
theorem wX3_itemNamed_21 {X : Cx} {g : Gl} {l : Launch} {R : Rf} {T : Mm} {a0 : Nat} {j1 : Int64} (K : Ok X g l cX3_itemNamed RX3 4 (some .int) rmX3_itemNamed) (hR : Ty g R) (k0 : kd g a0 = 3) {r : Int32} (x3 : Int32) (h : pX3_itemNamed_21 R T a0 j1 x3 = some r) : Zj X g 4 (QI X g r R T) R T [none, none, none, some (.int x3)] [] 21 := by
  unfold pX3_itemNamed_21 at h
  refine z_iload_n K dX3_itemNamed_21 rfl ?_
  obtain rfl := Option.some.inj h
  exact z_iret K dX3_itemNamed_22
set_option maxRecDepth 100000 in
set_option maxHeartbeats 4000000 in
theorem wX3_itemNamed_29 {X : Cx} {g : Gl} {l : Launch} {R : Rf} {T : Mm} {a0 : Nat} {j1 : Int64} (K : Ok X g l cX3_itemNamed RX3 4 (some .int) rmX3_itemNamed) (hR : Ty g R) (k0 : kd g a0 = 3) {r : Int32} (h : pX3_itemNamed_29 R T a0 j1 = some r) : Zj X g 4 (QI X g r R T) R T [none, none, none, none] [] 29 := by
  unfold pX3_itemNamed_29 at h
  refine z_iconst K (-1) dX3_itemNamed_29 rfl ?_
  obtain rfl := Option.some.inj h
  exact z_iret K dX3_itemNamed_30
set_option maxRecDepth 100000 in
set_option maxHeartbeats 4000000 in
theorem mX3_itemNamed {g : Gl} {R : Rf} {T : Mm} {a0 : Nat} {j1 : Int64} (l : Launch) (hR : Ty g R) (k0 : kd g a0 = 3) {r : Int32} (h : pX3_itemNamed R T a0 j1 = some r) : MI l g yX3_itemNamed cX3_itemNamed 4 (some .int) rmX3_itemNamed [.ref (g.2.2.1 a0), .long j1] R T r R T := by
  refine z_metI (own := RX3) (lv := [some (.ref (g.2.2.1 a0)), some (.long j1), none, none]) (by decide +kernel) rfl rfl rfl (fun X K => ?_)
  unfold pX3_itemNamed at h
  refine z_iconst K 0 dX3_itemNamed_0 rfl ?_
  refine z_istore_n K dX3_itemNamed_1 rfl rfl ?_
  refine Zj.mask [true, true, false, true] ?_
  exact wX3_itemNamed_2 K hR k0 (wX3_itemNamed_21 K hR k0) (wX3_itemNamed_29 K hR k0) FU _ h
/-! GoingOver$Falls.takeItem (LGoingOver$Tape;)I -/
abbrev rmX3_takeItem : Room := { frames := 2, cells := 0, slots := 0, locals := 42 }
def pX3_takeItem_20 (R : Rf) (a0 : Nat) (a1 : Nat) (T : Mm) (as0 : Nat) (xs1 : Int32) : Option (Int32 × Mm) :=
  bd2 (pX3_taken R T as0 xs1) (fun (u2 : Int32) (T2 : Mm) => some (u2, T2))
def pX3_takeItem (R : Rf) (T : Mm) (a0 : Nat) (a1 : Nat) : Option (Int32 × Mm) :=
  bd1 (pX10_atName R T a1) (fun (u1 : Int32) => if u1 = 0 then pX3_takeItem_20 R a0 a1 T a1 (-1) else bd1 (pX10_name R T a1) (fun (u3 : Int64) => bd1 (pX3_itemNamed R T a0 u3) (fun (u4 : Int32) => pX3_takeItem_20 R a0 a1 T a1 u4)))
set_option maxRecDepth 100000 in
set_option maxHeartbeats 4000000 in
theorem wX3_takeItem_20 {X : Cx} {g : Gl} {l : Launch} {R : Rf} {a0 : Nat} {a1 : Nat} (K : Ok X g l cX3_takeItem RX3 2 (some .int) rmX3_takeItem) (hR : Ty g R) (k0 : kd g a0 = 3) (k1 : kd g a1 = 10) {r : Int32 × Mm} (T : Mm) (as0 : Nat) (xs1 : Int32) (ks0 : kd g as0 = 10) (h : pX3_takeItem_20 R a0 a1 T as0 xs1 = some r) : Zj X g 2 (QI X g r.1 R r.2) R T [none, none] [.int xs1, .ref (g.2.2.1 as0)] 20 := by
  unfold pX3_takeItem_20 at h
  obtain ⟨u2, T2, hc, h⟩ := bd2_e h
  refine z_callSI K (mX3_taken l hR ks0 hc) ceX3_taken q694 ⟨rfl, rfl, rfl, rfl⟩ rfl rfl rfl dX3_takeItem_20 ?_
  obtain rfl := Option.some.inj h
  exact z_iret K dX3_takeItem_23
set_option maxRecDepth 100000 in
set_option maxHeartbeats 4000000 in
theorem mX3_takeItem {g : Gl} {R : Rf} {T : Mm} {a0 : Nat} {a1 : Nat} (l : Launch) (hR : Ty g R) (k0 : kd g a0 = 3) (k1 : kd g a1 = 10) {r : Int32 × Mm} (h : pX3_takeItem R T a0 a1 = some r) : MI l g yX3_takeItem cX3_takeItem 2 (some .int) rmX3_takeItem [.ref (g.2.2.1 a0), .ref (g.2.2.1 a1)] R T r.1 R r.2 := by
  refine z_metI (own := RX3) (lv := [some (.ref (g.2.2.1 a0)), some (.ref (g.2.2.1 a1))]) (by decide +kernel) rfl rfl rfl (fun X K => ?_)
  unfold pX3_takeItem at h
  refine z_aload_n K dX3_takeItem_0 rfl ?_
  refine z_aload_n K dX3_takeItem_1 rfl ?_
  obtain ⟨u1, hc, h⟩ := bd1_e h
  refine z_callVI K (mX10_atName l hR k1 hc) clX10 k1 ceX10_atName q670 ⟨rfl, rfl, rfl, rfl⟩ rfl rfl rfl dX3_takeItem_2 ?_
  refine z_if_eq K 19 dX3_takeItem_5 (by decide) (fun c => ?_) (fun c => ?_)
  · have h := ite_t h c
    refine z_iconst K (-1) dX3_takeItem_19 rfl ?_
    refine Zj.mask [false, false] ?_
    exact wX3_takeItem_20 K hR k0 k1 _ _ _ k1 h
  · have h := ite_f h c
    refine z_aload_n K dX3_takeItem_8 rfl ?_
    refine z_aload_n K dX3_takeItem_9 rfl ?_
    obtain ⟨u3, hc, h⟩ := bd1_e h
    refine z_callVL K (mX10_name l hR k1 hc) clX10 k1 ceX10_name q674 ⟨rfl, rfl, rfl, rfl⟩ rfl rfl rfl dX3_takeItem_10 ?_
    obtain ⟨u4, hc, h⟩ := bd1_e h
    refine z_callVI K (mX3_itemNamed l hR k0 hc) clX3 k0 ceX3_itemNamed q682 ⟨rfl, rfl, rfl, rfl⟩ rfl rfl rfl dX3_takeItem_13 ?_
    refine z_goto K 20 dX3_takeItem_16 (by decide) ?_
    refine Zj.mask [false, false] ?_
    exact wX3_takeItem_20 K hR k0 k1 _ _ _ k1 h
/-! GoingOver$Book.takeObject (LGoingOver$Tape;LGoingOver$Falls;I)I -/
abbrev rmX0_takeObject : Room := { frames := 3, cells := 0, slots := 0, locals := 63 }
def pX0_takeObject (R : Rf) (T : Mm) (a0 : Nat) (a1 : Nat) (x2 : Int32) : Option (Int32 × Mm) :=
  if x2 = 9 then bd2 (pX10_takeNumber R T a0 0 15) (fun (u3 : Int32) (T3 : Mm) => some (u3, T3)) else if x2 = 10 then bd2 (pX10_takeNumber R T a0 1 60) (fun (u2 : Int32) (T2 : Mm) => some (u2, T2)) else bd2 (pX3_takeItem R T a1 a0) (fun (u1 : Int32) (T1 : Mm) => some (u1, T1))
set_option maxRecDepth 100000 in
set_option maxHeartbeats 4000000 in
theorem mX0_takeObject {g : Gl} {R : Rf} {T : Mm} {a0 : Nat} {a1 : Nat} {x2 : Int32} (l : Launch) (hR : Ty g R) (k0 : kd g a0 = 10) (k1 : kd g a1 = 3) {r : Int32 × Mm} (h : pX0_takeObject R T a0 a1 x2 = some r) : MI l g yX0_takeObject cX0_takeObject 3 (some .int) rmX0_takeObject [.ref (g.2.2.1 a0), .ref (g.2.2.1 a1), .int x2] R T r.1 R r.2 := by
  refine z_metI (own := RX0) (lv := [some (.ref (g.2.2.1 a0)), some (.ref (g.2.2.1 a1)), some (.int x2)]) (by decide +kernel) rfl rfl rfl (fun X K => ?_)
  unfold pX0_takeObject at h
  refine z_iload_n K dX0_takeObject_0 rfl ?_
  refine z_bipush K 9 dX0_takeObject_1 rfl ?_
  refine z_icmp_ne K 14 dX0_takeObject_3 (by decide) (fun c => ?_) (fun c => ?_)
  · have h := ite_f h c
    refine z_iload_n K dX0_takeObject_14 rfl ?_
    refine z_bipush K 10 dX0_takeObject_15 rfl ?_
    refine z_icmp_ne K 30 dX0_takeObject_17 (by decide) (fun c => ?_) (fun c => ?_)
    · have h := ite_f h c
      refine z_aload_n K dX0_takeObject_30 rfl ?_
      refine z_aload_n K dX0_takeObject_31 rfl ?_
      obtain ⟨u1, T1, hc, h⟩ := bd2_e h
      refine z_callVI K (mX3_takeItem l hR k1 k0 hc) clX3 k1 ceX3_takeItem q1105 ⟨rfl, rfl, rfl, rfl⟩ rfl rfl rfl dX0_takeObject_32 ?_
      obtain rfl := Option.some.inj h
      exact z_iret K dX0_takeObject_35
    · have h := ite_t h c
      refine z_aload_n K dX0_takeObject_20 rfl ?_
      refine z_iconst K 1 dX0_takeObject_21 rfl ?_
      refine z_bipush K 60 dX0_takeObject_22 rfl ?_
      obtain ⟨u2, T2, hc, h⟩ := bd2_e h
      refine z_callVI K (mX10_takeNumber l hR k0 hc) clX10 k0 ceX10_takeNumber q1104 ⟨rfl, rfl, rfl, rfl⟩ rfl rfl rfl dX0_takeObject_24 ?_
      refine z_goto K 35 dX0_takeObject_27 (by decide) ?_
      obtain rfl := Option.some.inj h
      exact z_iret K dX0_takeObject_35
  · have h := ite_t h c
    refine z_aload_n K dX0_takeObject_6 rfl ?_
    refine z_iconst K 0 dX0_takeObject_7 rfl ?_
    refine z_bipush K 15 dX0_takeObject_8 rfl ?_
    obtain ⟨u3, T3, hc, h⟩ := bd2_e h
    refine z_callVI K (mX10_takeNumber l hR k0 hc) clX10 k0 ceX10_takeNumber q1104 ⟨rfl, rfl, rfl, rfl⟩ rfl rfl rfl dX0_takeObject_10 ?_
    obtain rfl := Option.some.inj h
    exact z_iret K dX0_takeObject_13
/-! GoingOver$Book.readLine (LGoingOver$Tape;LGoingOver$Falls;)Z -/
abbrev rmX0_readLine : Room := { frames := 4, cells := 0, slots := 0, locals := 86 }
def pX0_readLine_65 (R : Rf) (a0 : Nat) (a1 : Nat) (a2 : Nat) (T : Mm) (x3 : Int32) (x4 : Int32) : Option (Int32 × Mm) :=
  if (T.1 a0 1) < 40 then if x4 = 0 then bd2 (pX0_readOfPerson R T a0 a1 a2) (fun (u7 : Int32) (T7 : Mm) => if u7 = 0 then some (0, T7) else bd2 (pX10_takeMark R T7 a1 59) (fun (u8 : Int32) (T8 : Mm) => if u8 = 0 then some (0, T8) else some (1, T8))) else bd1 (pX10_advance R T a1) (fun (T2 : Mm) => ix (T2.1 a0 1) 40 (lt (wI T2 (R a0 2) (T2.1 a0 1).toNatClampNeg x3) (fun (T3 : Mm) => bd2 (pX0_takeObject R T3 a1 a2 x3) (fun (u4 : Int32) (T4 : Mm) => ix (T3.1 a0 1) 40 (lt (wI T4 (R a0 3) (T3.1 a0 1).toNatClampNeg u4) (fun (T5 : Mm) => ix (T5.1 a0 1) 40 (if (T5.1 (R a0 3) (T5.1 a0 1).toNatClampNeg) = (-1) then some (0, T5) else bd2 (pX10_takeMark R T5 a1 59) (fun (u6 : Int32) (T6 : Mm) => if u6 = 0 then some (0, T6) else some (1, T6))))))))) else bd2 (pX10_fail R T a1 4) (fun (u9 : Int32) (T9 : Mm) => bz u9 (some (u9, T9)))
def pX0_readLine_42 (R : Rf) (a0 : Nat) (a1 : Nat) (a2 : Nat) (T : Mm) (x3 : Int32) (x4 : Int32) : Option (Int32 × Mm) :=
  if x4 = 0 then bd1 (pX10_name R T a1) (fun (u10 : Int64) => bd1 (pX3_personNamed R T a2 u10) (fun (u11 : Int32) => if u11 = (-1) then bd2 (pX10_fail R T a1 3) (fun (u12 : Int32) (T12 : Mm) => bz u12 (some (u12, T12))) else pX0_readLine_65 R a0 a1 a2 T x3 x4)) else pX0_readLine_65 R a0 a1 a2 T x3 x4
def pX0_readLine_22 (R : Rf) (a0 : Nat) (a1 : Nat) (a2 : Nat) (T : Mm) (x3 : Int32) (xs0 : Int32) : Option (Int32 × Mm) :=
  if xs0 = 0 then bd1 (pX10_atName R T a1) (fun (u13 : Int32) => if u13 = 0 then bd2 (pX10_fail R T a1 1) (fun (u14 : Int32) (T14 : Mm) => bz u14 (some (u14, T14))) else pX0_readLine_42 R a0 a1 a2 T x3 xs0) else pX0_readLine_42 R a0 a1 a2 T x3 xs0
def pX0_readLine_21 (R : Rf) (a0 : Nat) (a1 : Nat) (a2 : Nat) (T : Mm) (x3 : Int32) : Option (Int32 × Mm) :=
  pX0_readLine_22 R a0 a1 a2 T x3 0
def pX0_readLine (R : Rf) (T : Mm) (a0 : Nat) (a1 : Nat) (a2 : Nat) : Option (Int32 × Mm) :=
  bd1 (pX10_keyword R T a1) (fun (u1 : Int32) => if u1 < 7 then pX0_readLine_21 R a0 a1 a2 T u1 else if 10 < u1 then pX0_readLine_21 R a0 a1 a2 T u1 else pX0_readLine_22 R a0 a1 a2 T u1 1)
set_option maxRecDepth 100000 in
set_option maxHeartbeats 4000000 in
theorem wX0_readLine_65 {X : Cx} {g : Gl} {l : Launch} {R : Rf} {a0 : Nat} {a1 : Nat} {a2 : Nat} (K : Ok X g l cX0_readLine RX0 5 (some .boolean) rmX0_readLine) (hR : Ty g R) (k0 : kd g a0 = 0) (k1 : kd g a1 = 10) (k2 : kd g a2 = 3) {r : Int32 × Mm} (T : Mm) (x3 : Int32) (x4 : Int32) (h : pX0_readLine_65 R a0 a1 a2 T x3 x4 = some r) : Zj X g 5 (QI X g r.1 R r.2) R T [some (.ref (g.2.2.1 a0)), some (.ref (g.2.2.1 a1)), some (.ref (g.2.2.1 a2)), some (.int x3), some (.int x4)] [] 65 := by
  unfold pX0_readLine_65 at h
  refine z_aload_n K dX0_readLine_65 rfl ?_
  refine z_getI K clX0 k0 1 rfl rfl q388 dX0_readLine_66 ?_
  refine z_bipush K 40 dX0_readLine_69 rfl ?_
  refine z_icmp_lt K 80 dX0_readLine_71 (by decide) (fun c => ?_) (fun c => ?_)
  · have h := ite_t h c
    refine z_iload K dX0_readLine_80 rfl ?_
    refine z_if_ne K 109 dX0_readLine_82 (by decide) (fun c => ?_) (fun c => ?_)
    · have h := ite_f h c
      refine z_aload_n K dX0_readLine_109 rfl ?_
      obtain ⟨T2, hc, h⟩ := bd1_e h
      refine z_callVV K (mX10_advance l hR k1 hc) clX10 k1 ceX10_advance q1099 ⟨rfl, rfl, rfl, rfl⟩ rfl rfl rfl dX0_readLine_110 ?_
      refine z_aload_n K dX0_readLine_113 rfl ?_
      refine z_getR K clX0 k0 2 rfl rfl q389 dX0_readLine_114 ?_
      refine z_aload_n K dX0_readLine_117 rfl ?_
      refine z_getI K clX0 k0 1 rfl rfl q388 dX0_readLine_118 ?_
      refine z_iload_n K dX0_readLine_121 rfl ?_
      obtain ⟨hi, h⟩ := ix_e h
      refine z_iast K (hR.at (k := 2) (t := 20040) k0 rfl rfl) rfl rfl rfl hi dX0_readLine_122 ?_
      refine z_aload_n K dX0_readLine_123 rfl ?_
      refine z_getR K clX0 k0 3 rfl rfl q390 dX0_readLine_124 ?_
      refine z_aload_n K dX0_readLine_127 rfl ?_
      refine z_getI K clX0 k0 1 rfl rfl q388 dX0_readLine_128 ?_
      refine z_aload_n K dX0_readLine_131 rfl ?_
      refine z_aload_n K dX0_readLine_132 rfl ?_
      refine z_iload_n K dX0_readLine_133 rfl ?_
      obtain ⟨u4, T4, hc, h⟩ := bd2_e h
      refine z_callSI K (mX0_takeObject l hR k1 k2 hc) ceX0_takeObject q1101 ⟨rfl, rfl, rfl, rfl⟩ rfl rfl rfl dX0_readLine_134 ?_
      obtain ⟨hi, h⟩ := ix_e h
      refine z_iast K (hR.at (k := 3) (t := 20040) k0 rfl rfl) rfl rfl rfl hi dX0_readLine_137 ?_
      refine z_aload_n K dX0_readLine_138 rfl ?_
      refine z_getR K clX0 k0 3 rfl rfl q390 dX0_readLine_139 ?_
      refine z_aload_n K dX0_readLine_142 rfl ?_
      refine z_getI K clX0 k0 1 rfl rfl q388 dX0_readLine_143 ?_
      obtain ⟨hi, h⟩ := ix_e h
      refine z_iald K (hR.at (k := 3) (t := 20040) k0 rfl rfl) rfl rfl rfl hi dX0_readLine_146 ?_
      refine z_iconst K (-1) dX0_readLine_147 rfl ?_
      refine z_icmp_eq K 164 dX0_readLine_148 (by decide) (fun c => ?_) (fun c => ?_)
      · have h := ite_t h c
        refine z_iconst K 0 dX0_readLine_164 rfl ?_
        obtain rfl := Option.some.inj h
        exact z_zret (v := 0) K rfl dX0_readLine_165
      · have h := ite_f h c
        refine z_aload_n K dX0_readLine_151 rfl ?_
        refine z_bipush K 59 dX0_readLine_152 rfl ?_
        obtain ⟨u6, T6, hc, h⟩ := bd2_e h
        refine z_callVI K (mX10_takeMark l hR k1 hc) clX10 k1 ceX10_takeMark q1100 ⟨rfl, rfl, rfl, rfl⟩ rfl rfl rfl dX0_readLine_154 ?_
        refine z_if_eq K 164 dX0_readLine_157 (by decide) (fun c => ?_) (fun c => ?_)
        · have h := ite_t h c
          refine z_iconst K 0 dX0_readLine_164 rfl ?_
          obtain rfl := Option.some.inj h
          exact z_zret (v := 0) K rfl dX0_readLine_165
        · have h := ite_f h c
          refine z_iconst K 1 dX0_readLine_160 rfl ?_
          refine z_goto K 165 dX0_readLine_161 (by decide) ?_
          obtain rfl := Option.some.inj h
          exact z_zret (v := 1) K rfl dX0_readLine_165
    · have h := ite_t h c
      refine z_aload_n K dX0_readLine_85 rfl ?_
      refine z_aload_n K dX0_readLine_86 rfl ?_
      refine z_aload_n K dX0_readLine_87 rfl ?_
      obtain ⟨u7, T7, hc, h⟩ := bd2_e h
      refine z_callVI K (mX0_readOfPerson l hR k0 k1 k2 hc) clX0 k0 ceX0_readOfPerson q1094 ⟨rfl, rfl, rfl, rfl⟩ rfl rfl rfl dX0_readLine_88 ?_
      refine z_if_eq K 107 dX0_readLine_91 (by decide) (fun c => ?_) (fun c => ?_)
      · have h := ite_t h c
        refine z_iconst K 0 dX0_readLine_107 rfl ?_
        obtain rfl := Option.some.inj h
        exact z_zret (v := 0) K rfl dX0_readLine_108
      · have h := ite_f h c
        refine z_aload_n K dX0_readLine_94 rfl ?_
        refine z_bipush K 59 dX0_readLine_95 rfl ?_
        obtain ⟨u8, T8, hc, h⟩ := bd2_e h
        refine z_callVI K (mX10_takeMark l hR k1 hc) clX10 k1 ceX10_takeMark q1100 ⟨rfl, rfl, rfl, rfl⟩ rfl rfl rfl dX0_readLine_97 ?_
        refine z_if_eq K 107 dX0_readLine_100 (by decide) (fun c => ?_) (fun c => ?_)
        · have h := ite_t h c
          refine z_iconst K 0 dX0_readLine_107 rfl ?_
          obtain rfl := Option.some.inj h
          exact z_zret (v := 0) K rfl dX0_readLine_108
        · have h := ite_f h c
          refine z_iconst K 1 dX0_readLine_103 rfl ?_
          refine z_goto K 108 dX0_readLine_104 (by decide) ?_
          obtain rfl := Option.some.inj h
          exact z_zret (v := 1) K rfl dX0_readLine_108
  · have h := ite_f h c
    refine z_aload_n K dX0_readLine_74 rfl ?_
    refine z_iconst K 4 dX0_readLine_75 rfl ?_
    obtain ⟨u9, T9, hc, h⟩ := bd2_e h
    refine z_callVI K (mX10_fail l hR k1 hc) clX10 k1 ceX10_fail q1091 ⟨rfl, rfl, rfl, rfl⟩ rfl rfl rfl dX0_readLine_76 ?_
    obtain ⟨hz, hf, h⟩ := bz_e h
    obtain rfl := Option.some.inj h
    exact z_zret K hz dX0_readLine_79
set_option maxRecDepth 100000 in
set_option maxHeartbeats 4000000 in
theorem wX0_readLine_42 {X : Cx} {g : Gl} {l : Launch} {R : Rf} {a0 : Nat} {a1 : Nat} {a2 : Nat} (K : Ok X g l cX0_readLine RX0 5 (some .boolean) rmX0_readLine) (hR : Ty g R) (k0 : kd g a0 = 0) (k1 : kd g a1 = 10) (k2 : kd g a2 = 3) {r : Int32 × Mm} (T : Mm) (x3 : Int32) (x4 : Int32) (h : pX0_readLine_42 R a0 a1 a2 T x3 x4 = some r) : Zj X g 5 (QI X g r.1 R r.2) R T [some (.ref (g.2.2.1 a0)), some (.ref (g.2.2.1 a1)), some (.ref (g.2.2.1 a2)), some (.int x3), some (.int x4)] [] 42 := by
  unfold pX0_readLine_42 at h
  refine z_iload K dX0_readLine_42 rfl ?_
  refine z_if_ne K 65 dX0_readLine_44 (by decide) (fun c => ?_) (fun c => ?_)
  · have h := ite_f h c
    refine Zj.mask [true, true, true, true, true] ?_
    exact wX0_readLine_65 K hR k0 k1 k2 _ _ _ h
  · have h := ite_t h c
    refine z_aload_n K dX0_readLine_47 rfl ?_
    refine z_aload_n K dX0_readLine_48 rfl ?_
    obtain ⟨u10, hc, h⟩ := bd1_e h
    refine z_callVL K (mX10_name l hR k1 hc) clX10 k1 ceX10_name q1092 ⟨rfl, rfl, rfl, rfl⟩ rfl rfl rfl dX0_readLine_49 ?_
    obtain ⟨u11, hc, h⟩ := bd1_e h
    refine z_callVI K (mX3_personNamed l hR k2 hc) clX3 k2 ceX3_personNamed q1093 ⟨rfl, rfl, rfl, rfl⟩ rfl rfl rfl dX0_readLine_52 ?_
    refine z_iconst K (-1) dX0_readLine_55 rfl ?_
    refine z_icmp_ne K 65 dX0_readLine_56 (by decide) (fun c => ?_) (fun c => ?_)
    · have h := ite_f h c
      refine Zj.mask [true, true, true, true, true] ?_
      exact wX0_readLine_65 K hR k0 k1 k2 _ _ _ h
    · have h := ite_t h c
      refine z_aload_n K dX0_readLine_59 rfl ?_
      refine z_iconst K 3 dX0_readLine_60 rfl ?_
      obtain ⟨u12, T12, hc, h⟩ := bd2_e h
      refine z_callVI K (mX10_fail l hR k1 hc) clX10 k1 ceX10_fail q1091 ⟨rfl, rfl, rfl, rfl⟩ rfl rfl rfl dX0_readLine_61 ?_
      obtain ⟨hz, hf, h⟩ := bz_e h
      obtain rfl := Option.some.inj h
      exact z_zret K hz dX0_readLine_64
set_option maxRecDepth 100000 in
set_option maxHeartbeats 4000000 in
theorem wX0_readLine_22 {X : Cx} {g : Gl} {l : Launch} {R : Rf} {a0 : Nat} {a1 : Nat} {a2 : Nat} (K : Ok X g l cX0_readLine RX0 5 (some .boolean) rmX0_readLine) (hR : Ty g R) (k0 : kd g a0 = 0) (k1 : kd g a1 = 10) (k2 : kd g a2 = 3) {r : Int32 × Mm} (T : Mm) (x3 : Int32) (xs0 : Int32) (h : pX0_readLine_22 R a0 a1 a2 T x3 xs0 = some r) : Zj X g 5 (QI X g r.1 R r.2) R T [some (.ref (g.2.2.1 a0)), some (.ref (g.2.2.1 a1)), some (.ref (g.2.2.1 a2)), some (.int x3), none] [.int xs0] 22 := by
  unfold pX0_readLine_22 at h
  refine z_istore K dX0_readLine_22 rfl rfl ?_
  refine z_iload K dX0_readLine_24 rfl ?_
  refine z_if_ne K 42 dX0_readLine_26 (by decide) (fun c => ?_) (fun c => ?_)
  · have h := ite_f h c
    refine Zj.mask [true, true, true, true, true] ?_
    exact wX0_readLine_42 K hR k0 k1 k2 _ _ _ h
  · have h := ite_t h c
    refine z_aload_n K dX0_readLine_29 rfl ?_
    obtain ⟨u13, hc, h⟩ := bd1_e h
    refine z_callVI K (mX10_atName l hR k1 hc) clX10 k1 ceX10_atName q1090 ⟨rfl, rfl, rfl, rfl⟩ rfl rfl rfl dX0_readLine_30 ?_
    refine z_if_ne K 42 dX0_readLine_33 (by decide) (fun c => ?_) (fun c => ?_)
    · have h := ite_f h c
      refine Zj.mask [true, true, true, true, true] ?_
      exact wX0_readLine_42 K hR k0 k1 k2 _ _ _ h
    · have h := ite_t h c
      refine z_aload_n K dX0_readLine_36 rfl ?_
      refine z_iconst K 1 dX0_readLine_37 rfl ?_
      obtain ⟨u14, T14, hc, h⟩ := bd2_e h
      refine z_callVI K (mX10_fail l hR k1 hc) clX10 k1 ceX10_fail q1091 ⟨rfl, rfl, rfl, rfl⟩ rfl rfl rfl dX0_readLine_38 ?_
      obtain ⟨hz, hf, h⟩ := bz_e h
      obtain rfl := Option.some.inj h
      exact z_zret K hz dX0_readLine_41
set_option maxRecDepth 100000 in
set_option maxHeartbeats 4000000 in
theorem wX0_readLine_21 {X : Cx} {g : Gl} {l : Launch} {R : Rf} {a0 : Nat} {a1 : Nat} {a2 : Nat} (K : Ok X g l cX0_readLine RX0 5 (some .boolean) rmX0_readLine) (hR : Ty g R) (k0 : kd g a0 = 0) (k1 : kd g a1 = 10) (k2 : kd g a2 = 3) {r : Int32 × Mm} (T : Mm) (x3 : Int32) (h : pX0_readLine_21 R a0 a1 a2 T x3 = some r) : Zj X g 5 (QI X g r.1 R r.2) R T [some (.ref (g.2.2.1 a0)), some (.ref (g.2.2.1 a1)), some (.ref (g.2.2.1 a2)), some (.int x3), none] [] 21 := by
  unfold pX0_readLine_21 at h
  refine z_iconst K 0 dX0_readLine_21 rfl ?_
  refine Zj.mask [true, true, true, true, false] ?_
  exact wX0_readLine_22 K hR k0 k1 k2 _ _ _ h
set_option maxRecDepth 100000 in
set_option maxHeartbeats 4000000 in
theorem mX0_readLine {g : Gl} {R : Rf} {T : Mm} {a0 : Nat} {a1 : Nat} {a2 : Nat} (l : Launch) (hR : Ty g R) (k0 : kd g a0 = 0) (k1 : kd g a1 = 10) (k2 : kd g a2 = 3) {r : Int32 × Mm} (h : pX0_readLine R T a0 a1 a2 = some r) : MI l g yX0_readLine cX0_readLine 5 (some .boolean) rmX0_readLine [.ref (g.2.2.1 a0), .ref (g.2.2.1 a1), .ref (g.2.2.1 a2)] R T r.1 R r.2 := by
  refine z_metI (own := RX0) (lv := [some (.ref (g.2.2.1 a0)), some (.ref (g.2.2.1 a1)), some (.ref (g.2.2.1 a2)), none, none]) (by decide +kernel) rfl rfl rfl (fun X K => ?_)
  unfold pX0_readLine at h
  refine z_aload_n K dX0_readLine_0 rfl ?_
  obtain ⟨u1, hc, h⟩ := bd1_e h
  refine z_callVI K (mX10_keyword l hR k1 hc) clX10 k1 ceX10_keyword q1089 ⟨rfl, rfl, rfl, rfl⟩ rfl rfl rfl dX0_readLine_1 ?_
  refine z_istore_n K dX0_readLine_4 rfl rfl ?_
  refine z_iload_n K dX0_readLine_5 rfl ?_
  refine z_bipush K 7 dX0_readLine_6 rfl ?_
  refine z_icmp_lt K 21 dX0_readLine_8 (by decide) (fun c => ?_) (fun c => ?_)
  · have h := ite_t h c
    refine Zj.mask [true, true, true, true, false] ?_
    exact wX0_readLine_21 K hR k0 k1 k2 _ _ h
  · have h := ite_f h c
    refine z_iload_n K dX0_readLine_11 rfl ?_
    refine z_bipush K 10 dX0_readLine_12 rfl ?_
    refine z_icmp_gt K 21 dX0_readLine_14 (by decide) (fun c => ?_) (fun c => ?_)
    · have h := ite_t h c
      refine Zj.mask [true, true, true, true, false] ?_
      exact wX0_readLine_21 K hR k0 k1 k2 _ _ h
    · have h := ite_f h c
      refine z_iconst K 1 dX0_readLine_17 rfl ?_
      refine z_goto K 22 dX0_readLine_18 (by decide) ?_
      refine Zj.mask [true, true, true, true, false] ?_
      exact wX0_readLine_22 K hR k0 k1 k2 _ _ _ h
/-! GoingOver$Tape.finish ()Z -/
abbrev rmX10_finish : Room := { frames := 1, cells := 0, slots := 0, locals := 21 }
def pX10_finish_14 (R : Rf) (a0 : Nat) (T : Mm) : Option (Int32 × Mm) :=
  bd2 (pX10_fail R T a0 1) (fun (u2 : Int32) (T2 : Mm) => if u2 = 0 then some (0, T2) else some (1, T2))
def pX10_finish (R : Rf) (T : Mm) (a0 : Nat) : Option (Int32 × Mm) :=
  bd1 (pX10_atEnd R T a0) (fun (u1 : Int32) => if u1 = 0 then pX10_finish_14 R a0 T else if (T.1 a0 4) = 0 then some (1, T) else pX10_finish_14 R a0 T)
set_option maxRecDepth 100000 in
set_option maxHeartbeats 4000000 in
theorem wX10_finish_14 {X : Cx} {g : Gl} {l : Launch} {R : Rf} {a0 : Nat} (K : Ok X g l cX10_finish RX10 1 (some .boolean) rmX10_finish) (hR : Ty g R) (k0 : kd g a0 = 10) {r : Int32 × Mm} (T : Mm) (h : pX10_finish_14 R a0 T = some r) : Zj X g 1 (QI X g r.1 R r.2) R T [some (.ref (g.2.2.1 a0))] [] 14 := by
  unfold pX10_finish_14 at h
  refine z_aload_n K dX10_finish_14 rfl ?_
  refine z_iconst K 1 dX10_finish_15 rfl ?_
  obtain ⟨u2, T2, hc, h⟩ := bd2_e h
  refine z_callVI K (mX10_fail l hR k0 hc) clX10 k0 ceX10_fail q648 ⟨rfl, rfl, rfl, rfl⟩ rfl rfl rfl dX10_finish_16 ?_
  refine z_if_eq K 26 dX10_finish_19 (by decide) (fun c => ?_) (fun c => ?_)
  · have h := ite_t h c
    refine z_iconst K 0 dX10_finish_26 rfl ?_
    obtain rfl := Option.some.inj h
    exact z_zret (v := 0) K rfl dX10_finish_27
  · have h := ite_f h c
    refine z_iconst K 1 dX10_finish_22 rfl ?_
    refine z_goto K 27 dX10_finish_23 (by decide) ?_
    obtain rfl := Option.some.inj h
    exact z_zret (v := 1) K rfl dX10_finish_27
set_option maxRecDepth 100000 in
set_option maxHeartbeats 4000000 in
theorem mX10_finish {g : Gl} {R : Rf} {T : Mm} {a0 : Nat} (l : Launch) (hR : Ty g R) (k0 : kd g a0 = 10) {r : Int32 × Mm} (h : pX10_finish R T a0 = some r) : MI l g yX10_finish cX10_finish 1 (some .boolean) rmX10_finish [.ref (g.2.2.1 a0)] R T r.1 R r.2 := by
  refine z_metI (own := RX10) (lv := [some (.ref (g.2.2.1 a0))]) (by decide +kernel) rfl rfl rfl (fun X K => ?_)
  unfold pX10_finish at h
  refine z_aload_n K dX10_finish_0 rfl ?_
  obtain ⟨u1, hc, h⟩ := bd1_e h
  refine z_callVI K (mX10_atEnd l hR k0 hc) clX10 k0 ceX10_atEnd q717 ⟨rfl, rfl, rfl, rfl⟩ rfl rfl rfl dX10_finish_1 ?_
  refine z_if_eq K 14 dX10_finish_4 (by decide) (fun c => ?_) (fun c => ?_)
  · have h := ite_t h c
    refine Zj.mask [true] ?_
    exact wX10_finish_14 K hR k0 _ h
  · have h := ite_f h c
    refine z_aload_n K dX10_finish_7 rfl ?_
    refine z_getI K clX10 k0 4 rfl rfl q203 dX10_finish_8 ?_
    refine z_if_eq K 22 dX10_finish_11 (by decide) (fun c => ?_) (fun c => ?_)
    · have h := ite_t h c
      refine z_iconst K 1 dX10_finish_22 rfl ?_
      refine z_goto K 27 dX10_finish_23 (by decide) ?_
      obtain rfl := Option.some.inj h
      exact z_zret (v := 1) K rfl dX10_finish_27
    · have h := ite_f h c
      refine Zj.mask [true] ?_
      exact wX10_finish_14 K hR k0 _ h
/-! GoingOver$Book.read (LGoingOver$Tape;LGoingOver$Falls;)V -/
abbrev rmX0_read : Room := { frames := 5, cells := 0, slots := 0, locals := 110 }
def pX0_read_12 (R : Rf) (a0 : Nat) (a1 : Nat) (a2 : Nat) (e37 : Mm → Option (Mm)) (e51 : Mm → Option (Mm)) (r12 : Mm → Option (Mm)) (T : Mm) : Option (Mm) :=
  if 40 < (T.1 a0 1) then e51 T else bd1 (pX10_atEnd R T a1) (fun (u3 : Int32) => if u3 = 0 then bd2 (pX0_readLine R T a0 a1 a2) (fun (u4 : Int32) (T4 : Mm) => if u4 = 0 then e37 T4 else lt (wI T4 a0 1 ((T4.1 a0 1) + 1)) (fun (T5 : Mm) => r12 T5)) else e51 T)
def pX0_read_37 (R : Rf) (a0 : Nat) (a1 : Nat) (a2 : Nat) (T : Mm) : Option (Mm) :=
  some T
def pX0_read_51 (R : Rf) (a0 : Nat) (a1 : Nat) (a2 : Nat) (T : Mm) : Option (Mm) :=
  bd2 (pX10_finish R T a1) (fun (u6 : Int32) (T6 : Mm) => some T6)
def pX0_read (R : Rf) (T : Mm) (a0 : Nat) (a1 : Nat) (a2 : Nat) : Option (Mm) :=
  lt (wI T a0 1 0) (fun (T1 : Mm) => bd1 (pX10_begin R T1 a1 400) (fun (T2 : Mm) => zl1 (pX0_read_12 R a0 a1 a2 (pX0_read_37 R a0 a1 a2) (pX0_read_51 R a0 a1 a2)) FU T2))
set_option maxRecDepth 100000 in
set_option maxHeartbeats 4000000 in
theorem wX0_read_12 {X : Cx} {g : Gl} {l : Launch} {R : Rf} {a0 : Nat} {a1 : Nat} {a2 : Nat} (K : Ok X g l cX0_read RX0 3 none rmX0_read) (hR : Ty g R) (k0 : kd g a0 = 0) (k1 : kd g a1 = 10) (k2 : kd g a2 = 3) {r : Mm} {e37 : Mm → Option (Mm)} (he37 : ∀ (T : Mm), e37 T = some r → Zj X g 3 (QV X g R r) R T [none, none, none] [] 37) {e51 : Mm → Option (Mm)} (he51 : ∀ (T : Mm), e51 T = some r → Zj X g 3 (QV X g R r) R T [none, some (.ref (g.2.2.1 a1)), none] [] 51) : ∀ (n : Nat) (T : Mm), zl1 (pX0_read_12 R a0 a1 a2 e37 e51) n T = some r → Zj X g 3 (QV X g R r) R T [some (.ref (g.2.2.1 a0)), some (.ref (g.2.2.1 a1)), some (.ref (g.2.2.1 a2))] [] 12 := by
  intro n
  induction n with
  | zero =>
    intro T h
    exact absurd h (by simp [zl1])
  | succ n hr12 =>
    intro T h
    rw [zl1_s] at h
    unfold pX0_read_12 at h
    refine z_aload_n K dX0_read_12 rfl ?_
    refine z_getI K clX0 k0 1 rfl rfl q388 dX0_read_13 ?_
    refine z_bipush K 40 dX0_read_16 rfl ?_
    refine z_icmp_gt K 51 dX0_read_18 (by decide) (fun c => ?_) (fun c => ?_)
    · have h := ite_t h c
      refine Zj.mask [false, true, false] ?_
      exact he51 _ h
    · have h := ite_f h c
      refine z_aload_n K dX0_read_21 rfl ?_
      obtain ⟨u3, hc, h⟩ := bd1_e h
      refine z_callVI K (mX10_atEnd l hR k1 hc) clX10 k1 ceX10_atEnd q1084 ⟨rfl, rfl, rfl, rfl⟩ rfl rfl rfl dX0_read_22 ?_
      refine z_if_ne K 51 dX0_read_25 (by decide) (fun c => ?_) (fun c => ?_)
      · have h := ite_f h c
        refine Zj.mask [false, true, false] ?_
        exact he51 _ h
      · have h := ite_t h c
        refine z_aload_n K dX0_read_28 rfl ?_
        refine z_aload_n K dX0_read_29 rfl ?_
        refine z_aload_n K dX0_read_30 rfl ?_
        obtain ⟨u4, T4, hc, h⟩ := bd2_e h
        refine z_callVI K (mX0_readLine l hR k0 k1 k2 hc) clX0 k0 ceX0_readLine q1085 ⟨rfl, rfl, rfl, rfl⟩ rfl rfl rfl dX0_read_31 ?_
        refine z_if_ne K 38 dX0_read_34 (by decide) (fun c => ?_) (fun c => ?_)
        · have h := ite_f h c
          refine z_aload_n K dX0_read_38 rfl ?_
          refine z_dup K dX0_read_39 rfl ?_
          refine z_getI K clX0 k0 1 rfl rfl q388 dX0_read_40 ?_
          refine z_iconst K 1 dX0_read_43 rfl ?_
          refine z_iadd K dX0_read_44 ?_
          refine z_putI K clX0 tyX0_ok nmX0 k0 1 rfl rfl q388 rfl rfl rfl dX0_read_45 ?_
          refine z_goto K 12 dX0_read_48 (by decide) ?_
          refine Zj.mask [true, true, true] ?_
          exact hr12 _ h
        · have h := ite_t h c
          refine Zj.mask [false, false, false] ?_
          exact he37 _ h
set_option maxRecDepth 100000 in
set_option maxHeartbeats 4000000 in
theorem wX0_read_37 {X : Cx} {g : Gl} {l : Launch} {R : Rf} {a0 : Nat} {a1 : Nat} {a2 : Nat} (K : Ok X g l cX0_read RX0 3 none rmX0_read) (hR : Ty g R) (k0 : kd g a0 = 0) (k1 : kd g a1 = 10) (k2 : kd g a2 = 3) {r : Mm} (T : Mm) (h : pX0_read_37 R a0 a1 a2 T = some r) : Zj X g 3 (QV X g R r) R T [none, none, none] [] 37 := by
  unfold pX0_read_37 at h
  obtain rfl := Option.some.inj h
  exact z_vret K dX0_read_37
set_option maxRecDepth 100000 in
set_option maxHeartbeats 4000000 in
theorem wX0_read_51 {X : Cx} {g : Gl} {l : Launch} {R : Rf} {a0 : Nat} {a1 : Nat} {a2 : Nat} (K : Ok X g l cX0_read RX0 3 none rmX0_read) (hR : Ty g R) (k0 : kd g a0 = 0) (k1 : kd g a1 = 10) (k2 : kd g a2 = 3) {r : Mm} (T : Mm) (h : pX0_read_51 R a0 a1 a2 T = some r) : Zj X g 3 (QV X g R r) R T [none, some (.ref (g.2.2.1 a1)), none] [] 51 := by
  unfold pX0_read_51 at h
  refine z_aload_n K dX0_read_51 rfl ?_
  obtain ⟨u6, T6, hc, h⟩ := bd2_e h
  refine z_callVI K (mX10_finish l hR k1 hc) clX10 k1 ceX10_finish q1106 ⟨rfl, rfl, rfl, rfl⟩ rfl rfl rfl dX0_read_52 ?_
  refine z_pop K dX0_read_55 rfl ?_
  obtain rfl := Option.some.inj h
  exact z_vret K dX0_read_56
set_option maxRecDepth 100000 in
set_option maxHeartbeats 4000000 in
theorem mX0_read {g : Gl} {R : Rf} {T : Mm} {a0 : Nat} {a1 : Nat} {a2 : Nat} (l : Launch) (hR : Ty g R) (k0 : kd g a0 = 0) (k1 : kd g a1 = 10) (k2 : kd g a2 = 3) {r : Mm} (h : pX0_read R T a0 a1 a2 = some r) : MV l g yX0_read cX0_read 3 none rmX0_read [.ref (g.2.2.1 a0), .ref (g.2.2.1 a1), .ref (g.2.2.1 a2)] R T R r := by
  refine z_metV (own := RX0) (lv := [some (.ref (g.2.2.1 a0)), some (.ref (g.2.2.1 a1)), some (.ref (g.2.2.1 a2))]) (by decide +kernel) rfl rfl rfl (fun X K => ?_)
  unfold pX0_read at h
  refine z_aload_n K dX0_read_0 rfl ?_
  refine z_iconst K 0 dX0_read_1 rfl ?_
  refine z_putI K clX0 tyX0_ok nmX0 k0 1 rfl rfl q388 rfl rfl rfl dX0_read_2 ?_
  refine z_aload_n K dX0_read_5 rfl ?_
  refine z_sipush K 400 dX0_read_6 rfl ?_
  obtain ⟨T2, hc, h⟩ := bd1_e h
  refine z_callVV K (mX10_begin l hR k1 hc) clX10 k1 ceX10_begin q1083 ⟨rfl, rfl, rfl, rfl⟩ rfl rfl rfl dX0_read_9 ?_
  refine Zj.mask [true, true, true] ?_
  exact wX0_read_12 K hR k0 k1 k2 (wX0_read_37 K hR k0 k1 k2) (wX0_read_51 K hR k0 k1 k2) FU _ h
/-! GoingOver$Course.weight (LGoingOver$Falls;I)I -/
abbrev rmX1_weight : Room := { frames := 0, cells := 0, slots := 0, locals := 0 }
def pX1_weight_5 (R : Rf) (T : Mm) (a0 : Nat) (a1 : Nat) (x2 : Int32) (e53 : Int32 → Option (Int32)) (r5 : Int32 → Int32 → Option (Int32)) (x3 : Int32) (x4 : Int32) : Option (Int32) :=
  if (T.1 a1 1) ≤ x4 then e53 x3 else ix x4 10 (if (T.1 (R a1 8) x4.toNatClampNeg) = x2 then if (((T.1 a0 1) >>> (x4 &&& 31)) &&& 1) = 0 then lt (x4 + 1) (fun (v2 : Int32) => r5 x3 v2) else ix x4 10 (lt (x3 + (T.1 (R a1 9) x4.toNatClampNeg)) (fun (v3 : Int32) => lt (x4 + 1) (fun (v4 : Int32) => r5 v3 v4))) else lt (x4 + 1) (fun (v1 : Int32) => r5 x3 v1))
def pX1_weight_53 (R : Rf) (T : Mm) (a0 : Nat) (a1 : Nat) (x2 : Int32) (x3 : Int32) : Option (Int32) :=
  some x3
def pX1_weight (R : Rf) (T : Mm) (a0 : Nat) (a1 : Nat) (x2 : Int32) : Option (Int32) :=
  zl2 (pX1_weight_5 R T a0 a1 x2 (pX1_weight_53 R T a0 a1 x2)) FU 0 0
set_option maxRecDepth 100000 in
set_option maxHeartbeats 4000000 in
theorem wX1_weight_5 {X : Cx} {g : Gl} {l : Launch} {R : Rf} {T : Mm} {a0 : Nat} {a1 : Nat} {x2 : Int32} (K : Ok X g l cX1_weight RX1 5 (some .int) rmX1_weight) (hR : Ty g R) (k0 : kd g a0 = 1) (k1 : kd g a1 = 3) {r : Int32} {e53 : Int32 → Option (Int32)} (he53 : ∀ (x3 : Int32), e53 x3 = some r → Zj X g 5 (QI X g r R T) R T [none, none, none, some (.int x3), none] [] 53) : ∀ (n : Nat) (x3 : Int32) (x4 : Int32), zl2 (pX1_weight_5 R T a0 a1 x2 e53) n x3 x4 = some r → Zj X g 5 (QI X g r R T) R T [some (.ref (g.2.2.1 a0)), some (.ref (g.2.2.1 a1)), some (.int x2), some (.int x3), some (.int x4)] [] 5 := by
  intro n
  induction n with
  | zero =>
    intro x3 x4 h
    exact absurd h (by simp [zl2])
  | succ n hr5 =>
    intro x3 x4 h
    rw [zl2_s] at h
    unfold pX1_weight_5 at h
    refine z_iload K dX1_weight_5 rfl ?_
    refine z_aload_n K dX1_weight_7 rfl ?_
    refine z_getI K clX3 k1 1 rfl rfl q251 dX1_weight_8 ?_
    refine z_icmp_ge K 53 dX1_weight_11 (by decide) (fun c => ?_) (fun c => ?_)
    · have h := ite_t h c
      refine Zj.mask [false, false, false, true, false] ?_
      exact he53 _ h
    · have h := ite_f h c
      refine z_aload_n K dX1_weight_14 rfl ?_
      refine z_getR K clX3 k1 8 rfl rfl q274 dX1_weight_15 ?_
      refine z_iload K dX1_weight_18 rfl ?_
      obtain ⟨hi, h⟩ := ix_e h
      refine z_iald K (hR.at (k := 8) (t := 20010) k1 rfl rfl) rfl rfl rfl hi dX1_weight_20 ?_
      refine z_iload_n K dX1_weight_21 rfl ?_
      refine z_icmp_ne K 47 dX1_weight_22 (by decide) (fun c => ?_) (fun c => ?_)
      · have h := ite_f h c
        refine z_iinc K 1 dX1_weight_47 rfl rfl rfl rfl ?_
        refine z_goto K 5 dX1_weight_50 (by decide) ?_
        refine Zj.mask [true, true, true, true, true] ?_
        exact hr5 _ _ h
      · have h := ite_t h c
        refine z_aload_n K dX1_weight_25 rfl ?_
        refine z_getI K clX1 k0 1 rfl rfl q337 dX1_weight_26 ?_
        refine z_iload K dX1_weight_29 rfl ?_
        refine z_ishr K dX1_weight_31 ?_
        refine z_iconst K 1 dX1_weight_32 rfl ?_
        refine z_iand K dX1_weight_33 ?_
        refine z_if_eq K 47 dX1_weight_34 (by decide) (fun c => ?_) (fun c => ?_)
        · have h := ite_t h c
          refine z_iinc K 1 dX1_weight_47 rfl rfl rfl rfl ?_
          refine z_goto K 5 dX1_weight_50 (by decide) ?_
          refine Zj.mask [true, true, true, true, true] ?_
          exact hr5 _ _ h
        · have h := ite_f h c
          refine z_iload_n K dX1_weight_37 rfl ?_
          refine z_aload_n K dX1_weight_38 rfl ?_
          refine z_getR K clX3 k1 9 rfl rfl q277 dX1_weight_39 ?_
          refine z_iload K dX1_weight_42 rfl ?_
          obtain ⟨hi, h⟩ := ix_e h
          refine z_iald K (hR.at (k := 9) (t := 20010) k1 rfl rfl) rfl rfl rfl hi dX1_weight_44 ?_
          refine z_iadd K dX1_weight_45 ?_
          refine z_istore_n K dX1_weight_46 rfl rfl ?_
          refine z_iinc K 1 dX1_weight_47 rfl rfl rfl rfl ?_
          refine z_goto K 5 dX1_weight_50 (by decide) ?_
          refine Zj.mask [true, true, true, true, true] ?_
          exact hr5 _ _ h
set_option maxRecDepth 100000 in
set_option maxHeartbeats 4000000 in
theorem wX1_weight_53 {X : Cx} {g : Gl} {l : Launch} {R : Rf} {T : Mm} {a0 : Nat} {a1 : Nat} {x2 : Int32} (K : Ok X g l cX1_weight RX1 5 (some .int) rmX1_weight) (hR : Ty g R) (k0 : kd g a0 = 1) (k1 : kd g a1 = 3) {r : Int32} (x3 : Int32) (h : pX1_weight_53 R T a0 a1 x2 x3 = some r) : Zj X g 5 (QI X g r R T) R T [none, none, none, some (.int x3), none] [] 53 := by
  unfold pX1_weight_53 at h
  refine z_iload_n K dX1_weight_53 rfl ?_
  obtain rfl := Option.some.inj h
  exact z_iret K dX1_weight_54
set_option maxRecDepth 100000 in
set_option maxHeartbeats 4000000 in
theorem mX1_weight {g : Gl} {R : Rf} {T : Mm} {a0 : Nat} {a1 : Nat} {x2 : Int32} (l : Launch) (hR : Ty g R) (k0 : kd g a0 = 1) (k1 : kd g a1 = 3) {r : Int32} (h : pX1_weight R T a0 a1 x2 = some r) : MI l g yX1_weight cX1_weight 5 (some .int) rmX1_weight [.ref (g.2.2.1 a0), .ref (g.2.2.1 a1), .int x2] R T r R T := by
  refine z_metI (own := RX1) (lv := [some (.ref (g.2.2.1 a0)), some (.ref (g.2.2.1 a1)), some (.int x2), none, none]) (by decide +kernel) rfl rfl rfl (fun X K => ?_)
  unfold pX1_weight at h
  refine z_iconst K 0 dX1_weight_0 rfl ?_
  refine z_istore_n K dX1_weight_1 rfl rfl ?_
  refine z_iconst K 0 dX1_weight_2 rfl ?_
  refine z_istore K dX1_weight_3 rfl rfl ?_
  refine Zj.mask [true, true, true, true, true] ?_
  exact wX1_weight_5 K hR k0 k1 (wX1_weight_53 K hR k0 k1) FU _ _ h
/-! GoingOver$Falls.flowOn (I)I -/
abbrev rmX3_flowOn : Room := { frames := 0, cells := 0, slots := 0, locals := 0 }
def pX3_flowOn (R : Rf) (T : Mm) (a0 : Nat) (x1 : Int32) : Option (Int32) :=
  if (T.1 a0 14) ≤ 0 then some (T.1 a0 4) else nz (T.1 a0 14) (if (x1 - x1 / (T.1 a0 14) * (T.1 a0 14)) = 0 then some ((T.1 a0 4) + (T.1 a0 15)) else some (T.1 a0 4))
set_option maxRecDepth 100000 in
set_option maxHeartbeats 4000000 in
theorem mX3_flowOn {g : Gl} {R : Rf} {T : Mm} {a0 : Nat} {x1 : Int32} (l : Launch) (hR : Ty g R) (k0 : kd g a0 = 3) {r : Int32} (h : pX3_flowOn R T a0 x1 = some r) : MI l g yX3_flowOn cX3_flowOn 2 (some .int) rmX3_flowOn [.ref (g.2.2.1 a0), .int x1] R T r R T := by
  refine z_metI (own := RX3) (lv := [some (.ref (g.2.2.1 a0)), some (.int x1)]) (by decide +kernel) rfl rfl rfl (fun X K => ?_)
  unfold pX3_flowOn at h
  refine z_aload_n K dX3_flowOn_0 rfl ?_
  refine z_getI K clX3 k0 14 rfl rfl q291 dX3_flowOn_1 ?_
  refine z_if_le K 28 dX3_flowOn_4 (by decide) (fun c => ?_) (fun c => ?_)
  · have h := ite_t h c
    refine z_aload_n K dX3_flowOn_28 rfl ?_
    refine z_getI K clX3 k0 4 rfl rfl q264 dX3_flowOn_29 ?_
    obtain rfl := Option.some.inj h
    exact z_iret K dX3_flowOn_32
  · have h := ite_f h c
    refine z_iload_n K dX3_flowOn_7 rfl ?_
    refine z_aload_n K dX3_flowOn_8 rfl ?_
    refine z_getI K clX3 k0 14 rfl rfl q291 dX3_flowOn_9 ?_
    obtain ⟨hz, h⟩ := nz_e h
    refine z_irem K dX3_flowOn_12 hz ?_
    refine z_if_ne K 28 dX3_flowOn_13 (by decide) (fun c => ?_) (fun c => ?_)
    · have h := ite_f h c
      refine z_aload_n K dX3_flowOn_28 rfl ?_
      refine z_getI K clX3 k0 4 rfl rfl q264 dX3_flowOn_29 ?_
      obtain rfl := Option.some.inj h
      exact z_iret K dX3_flowOn_32
    · have h := ite_t h c
      refine z_aload_n K dX3_flowOn_16 rfl ?_
      refine z_getI K clX3 k0 4 rfl rfl q264 dX3_flowOn_17 ?_
      refine z_aload_n K dX3_flowOn_20 rfl ?_
      refine z_getI K clX3 k0 15 rfl rfl q292 dX3_flowOn_21 ?_
      refine z_iadd K dX3_flowOn_24 ?_
      refine z_goto K 32 dX3_flowOn_25 (by decide) ?_
      obtain rfl := Option.some.inj h
      exact z_iret K dX3_flowOn_32
/-! GoingOver$Falls.ownerOfJoin (I)I -/
abbrev rmX3_ownerOfJoin : Room := { frames := 0, cells := 0, slots := 0, locals := 0 }
def pX3_ownerOfJoin (R : Rf) (T : Mm) (a0 : Nat) (x1 : Int32) : Option (Int32) :=
  ix x1 16 (ix (T.1 (R a0 10) x1.toNatClampNeg) 10 (some (T.1 (R a0 8) (T.1 (R a0 10) x1.toNatClampNeg).toNatClampNeg)))
set_option maxRecDepth 100000 in
set_option maxHeartbeats 4000000 in
theorem mX3_ownerOfJoin {g : Gl} {R : Rf} {T : Mm} {a0 : Nat} {x1 : Int32} (l : Launch) (hR : Ty g R) (k0 : kd g a0 = 3) {r : Int32} (h : pX3_ownerOfJoin R T a0 x1 = some r) : MI l g yX3_ownerOfJoin cX3_ownerOfJoin 2 (some .int) rmX3_ownerOfJoin [.ref (g.2.2.1 a0), .int x1] R T r R T := by
  refine z_metI (own := RX3) (lv := [some (.ref (g.2.2.1 a0)), some (.int x1)]) (by decide +kernel) rfl rfl rfl (fun X K => ?_)
  unfold pX3_ownerOfJoin at h
  refine z_aload_n K dX3_ownerOfJoin_0 rfl ?_
  refine z_getR K clX3 k0 8 rfl rfl q273 dX3_ownerOfJoin_1 ?_
  refine z_aload_n K dX3_ownerOfJoin_4 rfl ?_
  refine z_getR K clX3 k0 10 rfl rfl q279 dX3_ownerOfJoin_5 ?_
  refine z_iload_n K dX3_ownerOfJoin_8 rfl ?_
  obtain ⟨hi, h⟩ := ix_e h
  refine z_iald K (hR.at (k := 10) (t := 20016) k0 rfl rfl) rfl rfl rfl hi dX3_ownerOfJoin_9 ?_
  obtain ⟨hi, h⟩ := ix_e h
  refine z_iald K (hR.at (k := 8) (t := 20010) k0 rfl rfl) rfl rfl rfl hi dX3_ownerOfJoin_10 ?_
  obtain rfl := Option.some.inj h
  exact z_iret K dX3_ownerOfJoin_11
/-! GoingOver$Course.dropIfLight (LGoingOver$Falls;I)V -/
abbrev rmX1_dropIfLight : Room := { frames := 1, cells := 0, slots := 0, locals := 24 }
def pX1_dropIfLight_30 (R : Rf) (a0 : Nat) (a1 : Nat) (x2 : Int32) (e85 : Mm → Option (Mm)) (r30 : Mm → Int32 → Option (Mm)) (T : Mm) (x3 : Int32) : Option (Mm) :=
  if (T.1 a1 2) ≤ x3 then e85 T else bd1 (pX3_ownerOfJoin R T a1 x3) (fun (u3 : Int32) => if u3 = x2 then ix x3 16 (ix x2 5 (if ((T.1 a1 3) - (T.1 (R a1 5) x2.toNatClampNeg)) ≤ (T.1 (R a1 12) x3.toNatClampNeg) then lt (x3 + 1) (fun (v5 : Int32) => r30 T v5) else lt (wI T a0 2 ((T.1 a0 2) ||| (1 <<< (x3 &&& 31)))) (fun (T6 : Mm) => lt (x3 + 1) (fun (v7 : Int32) => r30 T6 v7)))) else lt (x3 + 1) (fun (v4 : Int32) => r30 T v4))
def pX1_dropIfLight_85 (R : Rf) (a0 : Nat) (a1 : Nat) (x2 : Int32) (T : Mm) : Option (Mm) :=
  ix x2 5 (lt (wI T (R a0 4) x2.toNatClampNeg 2) (fun (T8 : Mm) => lt (wI T8 a0 3 ((T8.1 a0 3) + 1)) (fun (T9 : Mm) => some T9)))
def pX1_dropIfLight (R : Rf) (T : Mm) (a0 : Nat) (a1 : Nat) (x2 : Int32) : Option (Mm) :=
  ix x2 5 (if (T.1 (R a0 4) x2.toNatClampNeg) = 1 then bd1 (pX1_weight R T a0 a1 x2) (fun (u1 : Int32) => bd1 (pX3_flowOn R T a1 (T.1 a0 0)) (fun (u2 : Int32) => if u1 ≤ u2 then zl2 (pX1_dropIfLight_30 R a0 a1 x2 (pX1_dropIfLight_85 R a0 a1 x2)) FU T 0 else some T)) else some T)
set_option maxRecDepth 100000 in
set_option maxHeartbeats 4000000 in
theorem wX1_dropIfLight_30 {X : Cx} {g : Gl} {l : Launch} {R : Rf} {a0 : Nat} {a1 : Nat} {x2 : Int32} (K : Ok X g l cX1_dropIfLight RX1 4 none rmX1_dropIfLight) (hR : Ty g R) (k0 : kd g a0 = 1) (k1 : kd g a1 = 3) {r : Mm} {e85 : Mm → Option (Mm)} (he85 : ∀ (T : Mm), e85 T = some r → Zj X g 4 (QV X g R r) R T [some (.ref (g.2.2.1 a0)), none, some (.int x2), none] [] 85) : ∀ (n : Nat) (T : Mm) (x3 : Int32), zl2 (pX1_dropIfLight_30 R a0 a1 x2 e85) n T x3 = some r → Zj X g 4 (QV X g R r) R T [some (.ref (g.2.2.1 a0)), some (.ref (g.2.2.1 a1)), some (.int x2), some (.int x3)] [] 30 := by
  intro n
  induction n with
  | zero =>
    intro T x3 h
    exact absurd h (by simp [zl2])
  | succ n hr30 =>
    intro T x3 h
    rw [zl2_s] at h
    unfold pX1_dropIfLight_30 at h
    refine z_iload_n K dX1_dropIfLight_30 rfl ?_
    refine z_aload_n K dX1_dropIfLight_31 rfl ?_
    refine z_getI K clX3 k1 2 rfl rfl q258 dX1_dropIfLight_32 ?_
    refine z_icmp_ge K 85 dX1_dropIfLight_35 (by decide) (fun c => ?_) (fun c => ?_)
    · have h := ite_t h c
      refine Zj.mask [true, false, true, false] ?_
      exact he85 _ h
    · have h := ite_f h c
      refine z_aload_n K dX1_dropIfLight_38 rfl ?_
      refine z_iload_n K dX1_dropIfLight_39 rfl ?_
      obtain ⟨u3, hc, h⟩ := bd1_e h
      refine z_callVI K (mX3_ownerOfJoin l hR k1 hc) clX3 k1 ceX3_ownerOfJoin q818 ⟨rfl, rfl, rfl, rfl⟩ rfl rfl rfl dX1_dropIfLight_40 ?_
      refine z_iload_n K dX1_dropIfLight_43 rfl ?_
      refine z_icmp_ne K 79 dX1_dropIfLight_44 (by decide) (fun c => ?_) (fun c => ?_)
      · have h := ite_f h c
        refine z_iinc K 1 dX1_dropIfLight_79 rfl rfl rfl rfl ?_
        refine z_goto K 30 dX1_dropIfLight_82 (by decide) ?_
        refine Zj.mask [true, true, true, true] ?_
        exact hr30 _ _ h
      · have h := ite_t h c
        refine z_aload_n K dX1_dropIfLight_47 rfl ?_
        refine z_getR K clX3 k1 12 rfl rfl q289 dX1_dropIfLight_48 ?_
        refine z_iload_n K dX1_dropIfLight_51 rfl ?_
        obtain ⟨hi, h⟩ := ix_e h
        refine z_iald K (hR.at (k := 12) (t := 20016) k1 rfl rfl) rfl rfl rfl hi dX1_dropIfLight_52 ?_
        refine z_aload_n K dX1_dropIfLight_53 rfl ?_
        refine z_getI K clX3 k1 3 rfl rfl q262 dX1_dropIfLight_54 ?_
        refine z_aload_n K dX1_dropIfLight_57 rfl ?_
        refine z_getR K clX3 k1 5 rfl rfl q269 dX1_dropIfLight_58 ?_
        refine z_iload_n K dX1_dropIfLight_61 rfl ?_
        obtain ⟨hi, h⟩ := ix_e h
        refine z_iald K (hR.at (k := 5) (t := 20005) k1 rfl rfl) rfl rfl rfl hi dX1_dropIfLight_62 ?_
        refine z_isub K dX1_dropIfLight_63 ?_
        refine z_icmp_ge K 79 dX1_dropIfLight_64 (by decide) (fun c => ?_) (fun c => ?_)
        · have h := ite_t h c
          refine z_iinc K 1 dX1_dropIfLight_79 rfl rfl rfl rfl ?_
          refine z_goto K 30 dX1_dropIfLight_82 (by decide) ?_
          refine Zj.mask [true, true, true, true] ?_
          exact hr30 _ _ h
        · have h := ite_f h c
          refine z_aload_n K dX1_dropIfLight_67 rfl ?_
          refine z_dup K dX1_dropIfLight_68 rfl ?_
          refine z_getI K clX1 k0 2 rfl rfl q341 dX1_dropIfLight_69 ?_
          refine z_iconst K 1 dX1_dropIfLight_72 rfl ?_
          refine z_iload_n K dX1_dropIfLight_73 rfl ?_
          refine z_ishl K dX1_dropIfLight_74 ?_
          refine z_ior K dX1_dropIfLight_75 ?_
          refine z_putI K clX1 tyX1_ok nmX1 k0 2 rfl rfl q341 rfl rfl rfl dX1_dropIfLight_76 ?_
          refine z_iinc K 1 dX1_dropIfLight_79 rfl rfl rfl rfl ?_
          refine z_goto K 30 dX1_dropIfLight_82 (by decide) ?_
          refine Zj.mask [true, true, true, true] ?_
          exact hr30 _ _ h
set_option maxRecDepth 100000 in
set_option maxHeartbeats 4000000 in
theorem wX1_dropIfLight_85 {X : Cx} {g : Gl} {l : Launch} {R : Rf} {a0 : Nat} {a1 : Nat} {x2 : Int32} (K : Ok X g l cX1_dropIfLight RX1 4 none rmX1_dropIfLight) (hR : Ty g R) (k0 : kd g a0 = 1) (k1 : kd g a1 = 3) {r : Mm} (T : Mm) (h : pX1_dropIfLight_85 R a0 a1 x2 T = some r) : Zj X g 4 (QV X g R r) R T [some (.ref (g.2.2.1 a0)), none, some (.int x2), none] [] 85 := by
  unfold pX1_dropIfLight_85 at h
  refine z_aload_n K dX1_dropIfLight_85 rfl ?_
  refine z_getR K clX1 k0 4 rfl rfl q346 dX1_dropIfLight_86 ?_
  refine z_iload_n K dX1_dropIfLight_89 rfl ?_
  refine z_iconst K 2 dX1_dropIfLight_90 rfl ?_
  obtain ⟨hi, h⟩ := ix_e h
  refine z_iast K (hR.at (k := 4) (t := 20005) k0 rfl rfl) rfl rfl rfl hi dX1_dropIfLight_91 ?_
  refine z_aload_n K dX1_dropIfLight_92 rfl ?_
  refine z_dup K dX1_dropIfLight_93 rfl ?_
  refine z_getI K clX1 k0 3 rfl rfl q344 dX1_dropIfLight_94 ?_
  refine z_iconst K 1 dX1_dropIfLight_97 rfl ?_
  refine z_iadd K dX1_dropIfLight_98 ?_
  refine z_putI K clX1 tyX1_ok nmX1 k0 3 rfl rfl q344 rfl rfl rfl dX1_dropIfLight_99 ?_
  obtain rfl := Option.some.inj h
  exact z_vret K dX1_dropIfLight_102
set_option maxRecDepth 100000 in
set_option maxHeartbeats 4000000 in
theorem mX1_dropIfLight {g : Gl} {R : Rf} {T : Mm} {a0 : Nat} {a1 : Nat} {x2 : Int32} (l : Launch) (hR : Ty g R) (k0 : kd g a0 = 1) (k1 : kd g a1 = 3) {r : Mm} (h : pX1_dropIfLight R T a0 a1 x2 = some r) : MV l g yX1_dropIfLight cX1_dropIfLight 4 none rmX1_dropIfLight [.ref (g.2.2.1 a0), .ref (g.2.2.1 a1), .int x2] R T R r := by
  refine z_metV (own := RX1) (lv := [some (.ref (g.2.2.1 a0)), some (.ref (g.2.2.1 a1)), some (.int x2), none]) (by decide +kernel) rfl rfl rfl (fun X K => ?_)
  unfold pX1_dropIfLight at h
  refine z_aload_n K dX1_dropIfLight_0 rfl ?_
  refine z_getR K clX1 k0 4 rfl rfl q346 dX1_dropIfLight_1 ?_
  refine z_iload_n K dX1_dropIfLight_4 rfl ?_
  obtain ⟨hi, h⟩ := ix_e h
  refine z_iald K (hR.at (k := 4) (t := 20005) k0 rfl rfl) rfl rfl rfl hi dX1_dropIfLight_5 ?_
  refine z_iconst K 1 dX1_dropIfLight_6 rfl ?_
  refine z_icmp_ne K 27 dX1_dropIfLight_7 (by decide) (fun c => ?_) (fun c => ?_)
  · have h := ite_f h c
    obtain rfl := Option.some.inj h
    exact z_vret K dX1_dropIfLight_27
  · have h := ite_t h c
    refine z_aload_n K dX1_dropIfLight_10 rfl ?_
    refine z_aload_n K dX1_dropIfLight_11 rfl ?_
    refine z_iload_n K dX1_dropIfLight_12 rfl ?_
    obtain ⟨u1, hc, h⟩ := bd1_e h
    refine z_callVI K (mX1_weight l hR k0 k1 hc) clX1 k0 ceX1_weight q813 ⟨rfl, rfl, rfl, rfl⟩ rfl rfl rfl dX1_dropIfLight_13 ?_
    refine z_aload_n K dX1_dropIfLight_16 rfl ?_
    refine z_aload_n K dX1_dropIfLight_17 rfl ?_
    refine z_getI K clX1 k0 0 rfl rfl q332 dX1_dropIfLight_18 ?_
    obtain ⟨u2, hc, h⟩ := bd1_e h
    refine z_callVI K (mX3_flowOn l hR k1 hc) clX3 k1 ceX3_flowOn q817 ⟨rfl, rfl, rfl, rfl⟩ rfl rfl rfl dX1_dropIfLight_21 ?_
    refine z_icmp_le K 28 dX1_dropIfLight_24 (by decide) (fun c => ?_) (fun c => ?_)
    · have h := ite_t h c
      refine z_iconst K 0 dX1_dropIfLight_28 rfl ?_
      refine z_istore_n K dX1_dropIfLight_29 rfl rfl ?_
      refine Zj.mask [true, true, true, true] ?_
      exact wX1_dropIfLight_30 K hR k0 k1 (wX1_dropIfLight_85 K hR k0 k1) FU _ _ h
    · have h := ite_f h c
      obtain rfl := Option.some.inj h
      exact z_vret K dX1_dropIfLight_27
/-! GoingOver$Course.passDay (LGoingOver$Falls;)V -/
abbrev rmX1_passDay : Room := { frames := 2, cells := 0, slots := 0, locals := 47 }
def pX1_passDay_12 (R : Rf) (a0 : Nat) (a1 : Nat) (e32 : Mm → Option (Mm)) (r12 : Mm → Int32 → Option (Mm)) (T : Mm) (x2 : Int32) : Option (Mm) :=
  if (T.1 a1 0) ≤ x2 then e32 T else bd1 (pX1_dropIfLight R T a0 a1 x2) (fun (T2 : Mm) => lt (x2 + 1) (fun (v3 : Int32) => r12 T2 v3))
def pX1_passDay_32 (R : Rf) (a0 : Nat) (a1 : Nat) (T : Mm) : Option (Mm) :=
  some T
def pX1_passDay (R : Rf) (T : Mm) (a0 : Nat) (a1 : Nat) : Option (Mm) :=
  lt (wI T a0 0 ((T.1 a0 0) + 1)) (fun (T1 : Mm) => zl2 (pX1_passDay_12 R a0 a1 (pX1_passDay_32 R a0 a1)) FU T1 0)
set_option maxRecDepth 100000 in
set_option maxHeartbeats 4000000 in
theorem wX1_passDay_12 {X : Cx} {g : Gl} {l : Launch} {R : Rf} {a0 : Nat} {a1 : Nat} (K : Ok X g l cX1_passDay RX1 3 none rmX1_passDay) (hR : Ty g R) (k0 : kd g a0 = 1) (k1 : kd g a1 = 3) {r : Mm} {e32 : Mm → Option (Mm)} (he32 : ∀ (T : Mm), e32 T = some r → Zj X g 3 (QV X g R r) R T [none, none, none] [] 32) : ∀ (n : Nat) (T : Mm) (x2 : Int32), zl2 (pX1_passDay_12 R a0 a1 e32) n T x2 = some r → Zj X g 3 (QV X g R r) R T [some (.ref (g.2.2.1 a0)), some (.ref (g.2.2.1 a1)), some (.int x2)] [] 12 := by
  intro n
  induction n with
  | zero =>
    intro T x2 h
    exact absurd h (by simp [zl2])
  | succ n hr12 =>
    intro T x2 h
    rw [zl2_s] at h
    unfold pX1_passDay_12 at h
    refine z_iload_n K dX1_passDay_12 rfl ?_
    refine z_aload_n K dX1_passDay_13 rfl ?_
    refine z_getI K clX3 k1 0 rfl rfl q248 dX1_passDay_14 ?_
    refine z_icmp_ge K 32 dX1_passDay_17 (by decide) (fun c => ?_) (fun c => ?_)
    · have h := ite_t h c
      refine Zj.mask [false, false, false] ?_
      exact he32 _ h
    · have h := ite_f h c
      refine z_aload_n K dX1_passDay_20 rfl ?_
      refine z_aload_n K dX1_passDay_21 rfl ?_
      refine z_iload_n K dX1_passDay_22 rfl ?_
      obtain ⟨T2, hc, h⟩ := bd1_e h
      refine z_callVV K (mX1_dropIfLight l hR k0 k1 hc) clX1 k0 ceX1_dropIfLight q809 ⟨rfl, rfl, rfl, rfl⟩ rfl rfl rfl dX1_passDay_23 ?_
      refine z_iinc K 1 dX1_passDay_26 rfl rfl rfl rfl ?_
      refine z_goto K 12 dX1_passDay_29 (by decide) ?_
      refine Zj.mask [true, true, true] ?_
      exact hr12 _ _ h
set_option maxRecDepth 100000 in
set_option maxHeartbeats 4000000 in
theorem wX1_passDay_32 {X : Cx} {g : Gl} {l : Launch} {R : Rf} {a0 : Nat} {a1 : Nat} (K : Ok X g l cX1_passDay RX1 3 none rmX1_passDay) (hR : Ty g R) (k0 : kd g a0 = 1) (k1 : kd g a1 = 3) {r : Mm} (T : Mm) (h : pX1_passDay_32 R a0 a1 T = some r) : Zj X g 3 (QV X g R r) R T [none, none, none] [] 32 := by
  unfold pX1_passDay_32 at h
  obtain rfl := Option.some.inj h
  exact z_vret K dX1_passDay_32
set_option maxRecDepth 100000 in
set_option maxHeartbeats 4000000 in
theorem mX1_passDay {g : Gl} {R : Rf} {T : Mm} {a0 : Nat} {a1 : Nat} (l : Launch) (hR : Ty g R) (k0 : kd g a0 = 1) (k1 : kd g a1 = 3) {r : Mm} (h : pX1_passDay R T a0 a1 = some r) : MV l g yX1_passDay cX1_passDay 3 none rmX1_passDay [.ref (g.2.2.1 a0), .ref (g.2.2.1 a1)] R T R r := by
  refine z_metV (own := RX1) (lv := [some (.ref (g.2.2.1 a0)), some (.ref (g.2.2.1 a1)), none]) (by decide +kernel) rfl rfl rfl (fun X K => ?_)
  unfold pX1_passDay at h
  refine z_aload_n K dX1_passDay_0 rfl ?_
  refine z_dup K dX1_passDay_1 rfl ?_
  refine z_getI K clX1 k0 0 rfl rfl q332 dX1_passDay_2 ?_
  refine z_iconst K 1 dX1_passDay_5 rfl ?_
  refine z_iadd K dX1_passDay_6 ?_
  refine z_putI K clX1 tyX1_ok nmX1 k0 0 rfl rfl q332 rfl rfl rfl dX1_passDay_7 ?_
  refine z_iconst K 0 dX1_passDay_10 rfl ?_
  refine z_istore_n K dX1_passDay_11 rfl rfl ?_
  refine Zj.mask [true, true, true] ?_
  exact wX1_passDay_12 K hR k0 k1 (wX1_passDay_32 K hR k0 k1) FU _ _ h
/-! GoingOver$Book.liveDays (LGoingOver$Falls;LGoingOver$Course;I)I -/
abbrev rmX0_liveDays : Room := { frames := 3, cells := 0, slots := 0, locals := 69 }
def pX0_liveDays_17 (R : Rf) (a0 : Nat) (a1 : Nat) (x2 : Int32) (e33 : Mm → Option (Int32 × Mm)) (r17 : Mm → Int32 → Option (Int32 × Mm)) (T : Mm) (x3 : Int32) : Option (Int32 × Mm) :=
  if x2 ≤ x3 then e33 T else bd1 (pX1_passDay R T a1 a0) (fun (T1 : Mm) => lt (x3 + 1) (fun (v2 : Int32) => r17 T1 v2))
def pX0_liveDays_33 (R : Rf) (a0 : Nat) (a1 : Nat) (x2 : Int32) (T : Mm) : Option (Int32 × Mm) :=
  some (0, T)
def pX0_liveDays (R : Rf) (T : Mm) (a0 : Nat) (a1 : Nat) (x2 : Int32) : Option (Int32 × Mm) :=
  if x2 ≤ (400 - (T.1 a1 0)) then zl2 (pX0_liveDays_17 R a0 a1 x2 (pX0_liveDays_33 R a0 a1 x2)) FU T 0 else some (51, T)
set_option maxRecDepth 100000 in
set_option maxHeartbeats 4000000 in
theorem wX0_liveDays_17 {X : Cx} {g : Gl} {l : Launch} {R : Rf} {a0 : Nat} {a1 : Nat} {x2 : Int32} (K : Ok X g l cX0_liveDays RX0 4 (some .int) rmX0_liveDays) (hR : Ty g R) (k0 : kd g a0 = 3) (k1 : kd g a1 = 1) {r : Int32 × Mm} {e33 : Mm → Option (Int32 × Mm)} (he33 : ∀ (T : Mm), e33 T = some r → Zj X g 4 (QI X g r.1 R r.2) R T [none, none, none, none] [] 33) : ∀ (n : Nat) (T : Mm) (x3 : Int32), zl2 (pX0_liveDays_17 R a0 a1 x2 e33) n T x3 = some r → Zj X g 4 (QI X g r.1 R r.2) R T [some (.ref (g.2.2.1 a0)), some (.ref (g.2.2.1 a1)), some (.int x2), some (.int x3)] [] 17 := by
  intro n
  induction n with
  | zero =>
    intro T x3 h
    exact absurd h (by simp [zl2])
  | succ n hr17 =>
    intro T x3 h
    rw [zl2_s] at h
    unfold pX0_liveDays_17 at h
    refine z_iload_n K dX0_liveDays_17 rfl ?_
    refine z_iload_n K dX0_liveDays_18 rfl ?_
    refine z_icmp_ge K 33 dX0_liveDays_19 (by decide) (fun c => ?_) (fun c => ?_)
    · have h := ite_t h c
      refine Zj.mask [false, false, false, false] ?_
      exact he33 _ h
    · have h := ite_f h c
      refine z_aload_n K dX0_liveDays_22 rfl ?_
      refine z_aload_n K dX0_liveDays_23 rfl ?_
      obtain ⟨T1, hc, h⟩ := bd1_e h
      refine z_callVV K (mX1_passDay l hR k1 k0 hc) clX1 k1 ceX1_passDay q1117 ⟨rfl, rfl, rfl, rfl⟩ rfl rfl rfl dX0_liveDays_24 ?_
      refine z_iinc K 1 dX0_liveDays_27 rfl rfl rfl rfl ?_
      refine z_goto K 17 dX0_liveDays_30 (by decide) ?_
      refine Zj.mask [true, true, true, true] ?_
      exact hr17 _ _ h
set_option maxRecDepth 100000 in
set_option maxHeartbeats 4000000 in
theorem wX0_liveDays_33 {X : Cx} {g : Gl} {l : Launch} {R : Rf} {a0 : Nat} {a1 : Nat} {x2 : Int32} (K : Ok X g l cX0_liveDays RX0 4 (some .int) rmX0_liveDays) (hR : Ty g R) (k0 : kd g a0 = 3) (k1 : kd g a1 = 1) {r : Int32 × Mm} (T : Mm) (h : pX0_liveDays_33 R a0 a1 x2 T = some r) : Zj X g 4 (QI X g r.1 R r.2) R T [none, none, none, none] [] 33 := by
  unfold pX0_liveDays_33 at h
  refine z_iconst K 0 dX0_liveDays_33 rfl ?_
  obtain rfl := Option.some.inj h
  exact z_iret K dX0_liveDays_34
set_option maxRecDepth 100000 in
set_option maxHeartbeats 4000000 in
theorem mX0_liveDays {g : Gl} {R : Rf} {T : Mm} {a0 : Nat} {a1 : Nat} {x2 : Int32} (l : Launch) (hR : Ty g R) (k0 : kd g a0 = 3) (k1 : kd g a1 = 1) {r : Int32 × Mm} (h : pX0_liveDays R T a0 a1 x2 = some r) : MI l g yX0_liveDays cX0_liveDays 4 (some .int) rmX0_liveDays [.ref (g.2.2.1 a0), .ref (g.2.2.1 a1), .int x2] R T r.1 R r.2 := by
  refine z_metI (own := RX0) (lv := [some (.ref (g.2.2.1 a0)), some (.ref (g.2.2.1 a1)), some (.int x2), none]) (by decide +kernel) rfl rfl rfl (fun X K => ?_)
  unfold pX0_liveDays at h
  refine z_iload_n K dX0_liveDays_0 rfl ?_
  refine z_sipush K 400 dX0_liveDays_1 rfl ?_
  refine z_aload_n K dX0_liveDays_4 rfl ?_
  refine z_getI K clX1 k1 0 rfl rfl q334 dX0_liveDays_5 ?_
  refine z_isub K dX0_liveDays_8 ?_
  refine z_icmp_le K 15 dX0_liveDays_9 (by decide) (fun c => ?_) (fun c => ?_)
  · have h := ite_t h c
    refine z_iconst K 0 dX0_liveDays_15 rfl ?_
    refine z_istore_n K dX0_liveDays_16 rfl rfl ?_
    refine Zj.mask [true, true, true, true] ?_
    exact wX0_liveDays_17 K hR k0 k1 (wX0_liveDays_33 K hR k0 k1) FU _ _ h
  · have h := ite_f h c
    refine z_bipush K 51 dX0_liveDays_12 rfl ?_
    obtain rfl := Option.some.inj h
    exact z_iret K dX0_liveDays_14
/-! GoingOver$Falls.hasJoin (I)Z -/
abbrev rmX3_hasJoin : Room := { frames := 0, cells := 0, slots := 0, locals := 0 }
def pX3_hasJoin (R : Rf) (T : Mm) (a0 : Nat) (x1 : Int32) : Option (Int32) :=
  if x1 < 0 then some 0 else if (T.1 a0 2) ≤ x1 then some 0 else some 1
set_option maxRecDepth 100000 in
set_option maxHeartbeats 4000000 in
theorem mX3_hasJoin {g : Gl} {R : Rf} {T : Mm} {a0 : Nat} {x1 : Int32} (l : Launch) (hR : Ty g R) (k0 : kd g a0 = 3) {r : Int32} (h : pX3_hasJoin R T a0 x1 = some r) : MI l g yX3_hasJoin cX3_hasJoin 2 (some .boolean) rmX3_hasJoin [.ref (g.2.2.1 a0), .int x1] R T r R T := by
  refine z_metI (own := RX3) (lv := [some (.ref (g.2.2.1 a0)), some (.int x1)]) (by decide +kernel) rfl rfl rfl (fun X K => ?_)
  unfold pX3_hasJoin at h
  refine z_iload_n K dX3_hasJoin_0 rfl ?_
  refine z_if_lt K 16 dX3_hasJoin_1 (by decide) (fun c => ?_) (fun c => ?_)
  · have h := ite_t h c
    refine z_iconst K 0 dX3_hasJoin_16 rfl ?_
    obtain rfl := Option.some.inj h
    exact z_zret (v := 0) K rfl dX3_hasJoin_17
  · have h := ite_f h c
    refine z_iload_n K dX3_hasJoin_4 rfl ?_
    refine z_aload_n K dX3_hasJoin_5 rfl ?_
    refine z_getI K clX3 k0 2 rfl rfl q255 dX3_hasJoin_6 ?_
    refine z_icmp_ge K 16 dX3_hasJoin_9 (by decide) (fun c => ?_) (fun c => ?_)
    · have h := ite_t h c
      refine z_iconst K 0 dX3_hasJoin_16 rfl ?_
      obtain rfl := Option.some.inj h
      exact z_zret (v := 0) K rfl dX3_hasJoin_17
    · have h := ite_f h c
      refine z_iconst K 1 dX3_hasJoin_12 rfl ?_
      refine z_goto K 17 dX3_hasJoin_13 (by decide) ?_
      obtain rfl := Option.some.inj h
      exact z_zret (v := 1) K rfl dX3_hasJoin_17
/-! GoingOver$Course.letGo (LGoingOver$Falls;I)I -/
abbrev rmX1_letGo : Room := { frames := 2, cells := 0, slots := 0, locals := 47 }
def pX1_letGo (R : Rf) (T : Mm) (a0 : Nat) (a1 : Nat) (x2 : Int32) : Option (Int32 × Mm) :=
  ix x2 5 (if (T.1 (R a0 4) x2.toNatClampNeg) = 0 then ix x2 5 (lt (wI T (R a0 4) x2.toNatClampNeg 1) (fun (T1 : Mm) => bd1 (pX1_dropIfLight R T1 a0 a1 x2) (fun (T2 : Mm) => some (0, T2)))) else some (1, T))
set_option maxRecDepth 100000 in
set_option maxHeartbeats 4000000 in
theorem mX1_letGo {g : Gl} {R : Rf} {T : Mm} {a0 : Nat} {a1 : Nat} {x2 : Int32} (l : Launch) (hR : Ty g R) (k0 : kd g a0 = 1) (k1 : kd g a1 = 3) {r : Int32 × Mm} (h : pX1_letGo R T a0 a1 x2 = some r) : MI l g yX1_letGo cX1_letGo 3 (some .int) rmX1_letGo [.ref (g.2.2.1 a0), .ref (g.2.2.1 a1), .int x2] R T r.1 R r.2 := by
  refine z_metI (own := RX1) (lv := [some (.ref (g.2.2.1 a0)), some (.ref (g.2.2.1 a1)), some (.int x2)]) (by decide +kernel) rfl rfl rfl (fun X K => ?_)
  unfold pX1_letGo at h
  refine z_aload_n K dX1_letGo_0 rfl ?_
  refine z_getR K clX1 k0 4 rfl rfl q346 dX1_letGo_1 ?_
  refine z_iload_n K dX1_letGo_4 rfl ?_
  obtain ⟨hi, h⟩ := ix_e h
  refine z_iald K (hR.at (k := 4) (t := 20005) k0 rfl rfl) rfl rfl rfl hi dX1_letGo_5 ?_
  refine z_if_eq K 11 dX1_letGo_6 (by decide) (fun c => ?_) (fun c => ?_)
  · have h := ite_t h c
    refine z_aload_n K dX1_letGo_11 rfl ?_
    refine z_getR K clX1 k0 4 rfl rfl q346 dX1_letGo_12 ?_
    refine z_iload_n K dX1_letGo_15 rfl ?_
    refine z_iconst K 1 dX1_letGo_16 rfl ?_
    obtain ⟨hi, h⟩ := ix_e h
    refine z_iast K (hR.at (k := 4) (t := 20005) k0 rfl rfl) rfl rfl rfl hi dX1_letGo_17 ?_
    refine z_aload_n K dX1_letGo_18 rfl ?_
    refine z_aload_n K dX1_letGo_19 rfl ?_
    refine z_iload_n K dX1_letGo_20 rfl ?_
    obtain ⟨T2, hc, h⟩ := bd1_e h
    refine z_callVV K (mX1_dropIfLight l hR k0 k1 hc) clX1 k0 ceX1_dropIfLight q809 ⟨rfl, rfl, rfl, rfl⟩ rfl rfl rfl dX1_letGo_21 ?_
    refine z_iconst K 0 dX1_letGo_24 rfl ?_
    obtain rfl := Option.some.inj h
    exact z_iret K dX1_letGo_25
  · have h := ite_f h c
    refine z_iconst K 1 dX1_letGo_9 rfl ?_
    obtain rfl := Option.some.inj h
    exact z_iret K dX1_letGo_10
/-! GoingOver$Course.letOut (I)I -/
abbrev rmX1_letOut : Room := { frames := 0, cells := 0, slots := 0, locals := 0 }
def pX1_letOut (R : Rf) (T : Mm) (a0 : Nat) (x1 : Int32) : Option (Int32 × Mm) :=
  ix x1 5 (if (T.1 (R a0 4) x1.toNatClampNeg) = 2 then ix x1 5 (lt (wI T (R a0 4) x1.toNatClampNeg 3) (fun (T1 : Mm) => some (0, T1))) else some (1, T))
set_option maxRecDepth 100000 in
set_option maxHeartbeats 4000000 in
theorem mX1_letOut {g : Gl} {R : Rf} {T : Mm} {a0 : Nat} {x1 : Int32} (l : Launch) (hR : Ty g R) (k0 : kd g a0 = 1) {r : Int32 × Mm} (h : pX1_letOut R T a0 x1 = some r) : MI l g yX1_letOut cX1_letOut 2 (some .int) rmX1_letOut [.ref (g.2.2.1 a0), .int x1] R T r.1 R r.2 := by
  refine z_metI (own := RX1) (lv := [some (.ref (g.2.2.1 a0)), some (.int x1)]) (by decide +kernel) rfl rfl rfl (fun X K => ?_)
  unfold pX1_letOut at h
  refine z_aload_n K dX1_letOut_0 rfl ?_
  refine z_getR K clX1 k0 4 rfl rfl q346 dX1_letOut_1 ?_
  refine z_iload_n K dX1_letOut_4 rfl ?_
  obtain ⟨hi, h⟩ := ix_e h
  refine z_iald K (hR.at (k := 4) (t := 20005) k0 rfl rfl) rfl rfl rfl hi dX1_letOut_5 ?_
  refine z_iconst K 2 dX1_letOut_6 rfl ?_
  refine z_icmp_eq K 12 dX1_letOut_7 (by decide) (fun c => ?_) (fun c => ?_)
  · have h := ite_t h c
    refine z_aload_n K dX1_letOut_12 rfl ?_
    refine z_getR K clX1 k0 4 rfl rfl q346 dX1_letOut_13 ?_
    refine z_iload_n K dX1_letOut_16 rfl ?_
    refine z_iconst K 3 dX1_letOut_17 rfl ?_
    obtain ⟨hi, h⟩ := ix_e h
    refine z_iast K (hR.at (k := 4) (t := 20005) k0 rfl rfl) rfl rfl rfl hi dX1_letOut_18 ?_
    refine z_iconst K 0 dX1_letOut_19 rfl ?_
    obtain rfl := Option.some.inj h
    exact z_iret K dX1_letOut_20
  · have h := ite_f h c
    refine z_iconst K 1 dX1_letOut_10 rfl ?_
    obtain rfl := Option.some.inj h
    exact z_iret K dX1_letOut_11
/-! GoingOver$Course.hasInside (I)Z -/
abbrev rmX1_hasInside : Room := { frames := 0, cells := 0, slots := 0, locals := 0 }
def pX1_hasInside (R : Rf) (T : Mm) (a0 : Nat) (x1 : Int32) : Option (Int32) :=
  if (((T.1 a0 1) >>> (x1 &&& 31)) &&& 1) = 0 then some 0 else some 1
set_option maxRecDepth 100000 in
set_option maxHeartbeats 4000000 in
theorem mX1_hasInside {g : Gl} {R : Rf} {T : Mm} {a0 : Nat} {x1 : Int32} (l : Launch) (hR : Ty g R) (k0 : kd g a0 = 1) {r : Int32} (h : pX1_hasInside R T a0 x1 = some r) : MI l g yX1_hasInside cX1_hasInside 2 (some .boolean) rmX1_hasInside [.ref (g.2.2.1 a0), .int x1] R T r R T := by
  refine z_metI (own := RX1) (lv := [some (.ref (g.2.2.1 a0)), some (.int x1)]) (by decide +kernel) rfl rfl rfl (fun X K => ?_)
  unfold pX1_hasInside at h
  refine z_aload_n K dX1_hasInside_0 rfl ?_
  refine z_getI K clX1 k0 1 rfl rfl q337 dX1_hasInside_1 ?_
  refine z_iload_n K dX1_hasInside_4 rfl ?_
  refine z_ishr K dX1_hasInside_5 ?_
  refine z_iconst K 1 dX1_hasInside_6 rfl ?_
  refine z_iand K dX1_hasInside_7 ?_
  refine z_if_eq K 15 dX1_hasInside_8 (by decide) (fun c => ?_) (fun c => ?_)
  · have h := ite_t h c
    refine z_iconst K 0 dX1_hasInside_15 rfl ?_
    obtain rfl := Option.some.inj h
    exact z_zret (v := 0) K rfl dX1_hasInside_16
  · have h := ite_f h c
    refine z_iconst K 1 dX1_hasInside_11 rfl ?_
    refine z_goto K 16 dX1_hasInside_12 (by decide) ?_
    obtain rfl := Option.some.inj h
    exact z_zret (v := 1) K rfl dX1_hasInside_16
/-! GoingOver$Falls.joinsAt (I)I -/
abbrev rmX3_joinsAt : Room := { frames := 0, cells := 0, slots := 0, locals := 0 }
def pX3_joinsAt_32 (R : Rf) (T : Mm) (a0 : Nat) (x1 : Int32) (r4 : Int32 → Int32 → Option (Int32)) (e44 : Int32 → Option (Int32)) (x2 : Int32) (x3 : Int32) : Option (Int32) :=
  lt (x2 ||| (1 <<< (x3 &&& 31))) (fun (v1 : Int32) => lt (x3 + 1) (fun (v2 : Int32) => r4 v1 v2))
def pX3_joinsAt_4 (R : Rf) (T : Mm) (a0 : Nat) (x1 : Int32) (e44 : Int32 → Option (Int32)) (r4 : Int32 → Int32 → Option (Int32)) (x2 : Int32) (x3 : Int32) : Option (Int32) :=
  if (T.1 a0 2) ≤ x3 then e44 x2 else ix x3 16 (if (T.1 (R a0 10) x3.toNatClampNeg) = x1 then pX3_joinsAt_32 R T a0 x1 r4 e44 x2 x3 else ix x3 16 (if (T.1 (R a0 11) x3.toNatClampNeg) = x1 then pX3_joinsAt_32 R T a0 x1 r4 e44 x2 x3 else lt (x3 + 1) (fun (v3 : Int32) => r4 x2 v3)))
def pX3_joinsAt_44 (R : Rf) (T : Mm) (a0 : Nat) (x1 : Int32) (x2 : Int32) : Option (Int32) :=
  some x2
def pX3_joinsAt (R : Rf) (T : Mm) (a0 : Nat) (x1 : Int32) : Option (Int32) :=
  zl2 (pX3_joinsAt_4 R T a0 x1 (pX3_joinsAt_44 R T a0 x1)) FU 0 0
set_option maxRecDepth 100000 in
set_option maxHeartbeats 4000000 in
theorem wX3_joinsAt_32 {X : Cx} {g : Gl} {l : Launch} {R : Rf} {T : Mm} {a0 : Nat} {x1 : Int32} (K : Ok X g l cX3_joinsAt RX3 4 (some .int) rmX3_joinsAt) (hR : Ty g R) (k0 : kd g a0 = 3) {r : Int32} {r4 : Int32 → Int32 → Option (Int32)} (hr4 : ∀ (x2 : Int32) (x3 : Int32), r4 x2 x3 = some r → Zj X g 4 (QI X g r R T) R T [some (.ref (g.2.2.1 a0)), some (.int x1), some (.int x2), some (.int x3)] [] 4) {e44 : Int32 → Option (Int32)} (he44 : ∀ (x2 : Int32), e44 x2 = some r → Zj X g 4 (QI X g r R T) R T [none, none, some (.int x2), none] [] 44) (x2 : Int32) (x3 : Int32) (h : pX3_joinsAt_32 R T a0 x1 r4 e44 x2 x3 = some r) : Zj X g 4 (QI X g r R T) R T [some (.ref (g.2.2.1 a0)), some (.int x1), some (.int x2), some (.int x3)] [] 32 := by
  unfold pX3_joinsAt_32 at h
  refine z_iload_n K dX3_joinsAt_32 rfl ?_
  refine z_iconst K 1 dX3_joinsAt_33 rfl ?_
  refine z_iload_n K dX3_joinsAt_34 rfl ?_
  refine z_ishl K dX3_joinsAt_35 ?_
  refine z_ior K dX3_joinsAt_36 ?_
  refine z_istore_n K dX3_joinsAt_37 rfl rfl ?_
  refine z_iinc K 1 dX3_joinsAt_38 rfl rfl rfl rfl ?_
  refine z_goto K 4 dX3_joinsAt_41 (by decide) ?_
  refine Zj.mask [true, true, true, true] ?_
  exact hr4 _ _ h
set_option maxRecDepth 100000 in
set_option maxHeartbeats 4000000 in
theorem wX3_joinsAt_4 {X : Cx} {g : Gl} {l : Launch} {R : Rf} {T : Mm} {a0 : Nat} {x1 : Int32} (K : Ok X g l cX3_joinsAt RX3 4 (some .int) rmX3_joinsAt) (hR : Ty g R) (k0 : kd g a0 = 3) {r : Int32} {e44 : Int32 → Option (Int32)} (he44 : ∀ (x2 : Int32), e44 x2 = some r → Zj X g 4 (QI X g r R T) R T [none, none, some (.int x2), none] [] 44) : ∀ (n : Nat) (x2 : Int32) (x3 : Int32), zl2 (pX3_joinsAt_4 R T a0 x1 e44) n x2 x3 = some r → Zj X g 4 (QI X g r R T) R T [some (.ref (g.2.2.1 a0)), some (.int x1), some (.int x2), some (.int x3)] [] 4 := by
  intro n
  induction n with
  | zero =>
    intro x2 x3 h
    exact absurd h (by simp [zl2])
  | succ n hr4 =>
    intro x2 x3 h
    rw [zl2_s] at h
    unfold pX3_joinsAt_4 at h
    refine z_iload_n K dX3_joinsAt_4 rfl ?_
    refine z_aload_n K dX3_joinsAt_5 rfl ?_
    refine z_getI K clX3 k0 2 rfl rfl q255 dX3_joinsAt_6 ?_
    refine z_icmp_ge K 44 dX3_joinsAt_9 (by decide) (fun c => ?_) (fun c => ?_)
    · have h := ite_t h c
      refine Zj.mask [false, false, true, false] ?_
      exact he44 _ h
    · have h := ite_f h c
      refine z_aload_n K dX3_joinsAt_12 rfl ?_
      refine z_getR K clX3 k0 10 rfl rfl q279 dX3_joinsAt_13 ?_
      refine z_iload_n K dX3_joinsAt_16 rfl ?_
      obtain ⟨hi, h⟩ := ix_e h
      refine z_iald K (hR.at (k := 10) (t := 20016) k0 rfl rfl) rfl rfl rfl hi dX3_joinsAt_17 ?_
      refine z_iload_n K dX3_joinsAt_18 rfl ?_
      refine z_icmp_eq K 32 dX3_joinsAt_19 (by decide) (fun c => ?_) (fun c => ?_)
      · have h := ite_t h c
        refine Zj.mask [true, true, true, true] ?_
        exact wX3_joinsAt_32 K hR k0 hr4 he44 _ _ h
      · have h := ite_f h c
        refine z_aload_n K dX3_joinsAt_22 rfl ?_
        refine z_getR K clX3 k0 11 rfl rfl q283 dX3_joinsAt_23 ?_
        refine z_iload_n K dX3_joinsAt_26 rfl ?_
        obtain ⟨hi, h⟩ := ix_e h
        refine z_iald K (hR.at (k := 11) (t := 20016) k0 rfl rfl) rfl rfl rfl hi dX3_joinsAt_27 ?_
        refine z_iload_n K dX3_joinsAt_28 rfl ?_
        refine z_icmp_ne K 38 dX3_joinsAt_29 (by decide) (fun c => ?_) (fun c => ?_)
        · have h := ite_f h c
          refine z_iinc K 1 dX3_joinsAt_38 rfl rfl rfl rfl ?_
          refine z_goto K 4 dX3_joinsAt_41 (by decide) ?_
          refine Zj.mask [true, true, true, true] ?_
          exact hr4 _ _ h
        · have h := ite_t h c
          refine Zj.mask [true, true, true, true] ?_
          exact wX3_joinsAt_32 K hR k0 hr4 he44 _ _ h
set_option maxRecDepth 100000 in
set_option maxHeartbeats 4000000 in
theorem wX3_joinsAt_44 {X : Cx} {g : Gl} {l : Launch} {R : Rf} {T : Mm} {a0 : Nat} {x1 : Int32} (K : Ok X g l cX3_joinsAt RX3 4 (some .int) rmX3_joinsAt) (hR : Ty g R) (k0 : kd g a0 = 3) {r : Int32} (x2 : Int32) (h : pX3_joinsAt_44 R T a0 x1 x2 = some r) : Zj X g 4 (QI X g r R T) R T [none, none, some (.int x2), none] [] 44 := by
  unfold pX3_joinsAt_44 at h
  refine z_iload_n K dX3_joinsAt_44 rfl ?_
  obtain rfl := Option.some.inj h
  exact z_iret K dX3_joinsAt_45
set_option maxRecDepth 100000 in
set_option maxHeartbeats 4000000 in
theorem mX3_joinsAt {g : Gl} {R : Rf} {T : Mm} {a0 : Nat} {x1 : Int32} (l : Launch) (hR : Ty g R) (k0 : kd g a0 = 3) {r : Int32} (h : pX3_joinsAt R T a0 x1 = some r) : MI l g yX3_joinsAt cX3_joinsAt 4 (some .int) rmX3_joinsAt [.ref (g.2.2.1 a0), .int x1] R T r R T := by
  refine z_metI (own := RX3) (lv := [some (.ref (g.2.2.1 a0)), some (.int x1), none, none]) (by decide +kernel) rfl rfl rfl (fun X K => ?_)
  unfold pX3_joinsAt at h
  refine z_iconst K 0 dX3_joinsAt_0 rfl ?_
  refine z_istore_n K dX3_joinsAt_1 rfl rfl ?_
  refine z_iconst K 0 dX3_joinsAt_2 rfl ?_
  refine z_istore_n K dX3_joinsAt_3 rfl rfl ?_
  refine Zj.mask [true, true, true, true] ?_
  exact wX3_joinsAt_4 K hR k0 (wX3_joinsAt_44 K hR k0) FU _ _ h
/-! GoingOver$Course.takeOut (LGoingOver$Falls;I)I -/
abbrev rmX1_takeOut : Room := { frames := 2, cells := 0, slots := 0, locals := 47 }
def pX1_takeOut (R : Rf) (T : Mm) (a0 : Nat) (a1 : Nat) (x2 : Int32) : Option (Int32 × Mm) :=
  ix x2 10 (lt (T.1 (R a1 8) x2.toNatClampNeg) (fun (v1 : Int32) => bd1 (pX1_hasInside R T a0 x2) (fun (u2 : Int32) => if u2 = 0 then some (1, T) else ix v1 5 (if (T.1 (R a0 4) v1.toNatClampNeg) < 2 then lt (wI T a0 1 ((T.1 a0 1) &&& ((1 <<< (x2 &&& 31)) ^^^ (-1)))) (fun (T3 : Mm) => bd1 (pX3_joinsAt R T3 a1 x2) (fun (u4 : Int32) => lt (wI T3 a0 2 ((T3.1 a0 2) ||| u4)) (fun (T5 : Mm) => bd1 (pX1_dropIfLight R T5 a0 a1 v1) (fun (T6 : Mm) => some (0, T6))))) else some (2, T)))))
set_option maxRecDepth 100000 in
set_option maxHeartbeats 4000000 in
theorem mX1_takeOut {g : Gl} {R : Rf} {T : Mm} {a0 : Nat} {a1 : Nat} {x2 : Int32} (l : Launch) (hR : Ty g R) (k0 : kd g a0 = 1) (k1 : kd g a1 = 3) {r : Int32 × Mm} (h : pX1_takeOut R T a0 a1 x2 = some r) : MI l g yX1_takeOut cX1_takeOut 4 (some .int) rmX1_takeOut [.ref (g.2.2.1 a0), .ref (g.2.2.1 a1), .int x2] R T r.1 R r.2 := by
  refine z_metI (own := RX1) (lv := [some (.ref (g.2.2.1 a0)), some (.ref (g.2.2.1 a1)), some (.int x2), none]) (by decide +kernel) rfl rfl rfl (fun X K => ?_)
  unfold pX1_takeOut at h
  refine z_aload_n K dX1_takeOut_0 rfl ?_
  refine z_getR K clX3 k1 8 rfl rfl q274 dX1_takeOut_1 ?_
  refine z_iload_n K dX1_takeOut_4 rfl ?_
  obtain ⟨hi, h⟩ := ix_e h
  refine z_iald K (hR.at (k := 8) (t := 20010) k1 rfl rfl) rfl rfl rfl hi dX1_takeOut_5 ?_
  refine z_istore_n K dX1_takeOut_6 rfl rfl ?_
  refine z_aload_n K dX1_takeOut_7 rfl ?_
  refine z_iload_n K dX1_takeOut_8 rfl ?_
  obtain ⟨u2, hc, h⟩ := bd1_e h
  refine z_callVI K (mX1_hasInside l hR k0 hc) clX1 k0 ceX1_hasInside q827 ⟨rfl, rfl, rfl, rfl⟩ rfl rfl rfl dX1_takeOut_9 ?_
  refine z_if_ne K 17 dX1_takeOut_12 (by decide) (fun c => ?_) (fun c => ?_)
  · have h := ite_f h c
    refine z_aload_n K dX1_takeOut_17 rfl ?_
    refine z_getR K clX1 k0 4 rfl rfl q346 dX1_takeOut_18 ?_
    refine z_iload_n K dX1_takeOut_21 rfl ?_
    obtain ⟨hi, h⟩ := ix_e h
    refine z_iald K (hR.at (k := 4) (t := 20005) k0 rfl rfl) rfl rfl rfl hi dX1_takeOut_22 ?_
    refine z_iconst K 2 dX1_takeOut_23 rfl ?_
    refine z_icmp_lt K 29 dX1_takeOut_24 (by decide) (fun c => ?_) (fun c => ?_)
    · have h := ite_t h c
      refine z_aload_n K dX1_takeOut_29 rfl ?_
      refine z_dup K dX1_takeOut_30 rfl ?_
      refine z_getI K clX1 k0 1 rfl rfl q337 dX1_takeOut_31 ?_
      refine z_iconst K 1 dX1_takeOut_34 rfl ?_
      refine z_iload_n K dX1_takeOut_35 rfl ?_
      refine z_ishl K dX1_takeOut_36 ?_
      refine z_iconst K (-1) dX1_takeOut_37 rfl ?_
      refine z_ixor K dX1_takeOut_38 ?_
      refine z_iand K dX1_takeOut_39 ?_
      refine z_putI K clX1 tyX1_ok nmX1 k0 1 rfl rfl q337 rfl rfl rfl dX1_takeOut_40 ?_
      refine z_aload_n K dX1_takeOut_43 rfl ?_
      refine z_dup K dX1_takeOut_44 rfl ?_
      refine z_getI K clX1 k0 2 rfl rfl q341 dX1_takeOut_45 ?_
      refine z_aload_n K dX1_takeOut_48 rfl ?_
      refine z_iload_n K dX1_takeOut_49 rfl ?_
      obtain ⟨u4, hc, h⟩ := bd1_e h
      refine z_callVI K (mX3_joinsAt l hR k1 hc) clX3 k1 ceX3_joinsAt q828 ⟨rfl, rfl, rfl, rfl⟩ rfl rfl rfl dX1_takeOut_50 ?_
      refine z_ior K dX1_takeOut_53 ?_
      refine z_putI K clX1 tyX1_ok nmX1 k0 2 rfl rfl q341 rfl rfl rfl dX1_takeOut_54 ?_
      refine z_aload_n K dX1_takeOut_57 rfl ?_
      refine z_aload_n K dX1_takeOut_58 rfl ?_
      refine z_iload_n K dX1_takeOut_59 rfl ?_
      obtain ⟨T6, hc, h⟩ := bd1_e h
      refine z_callVV K (mX1_dropIfLight l hR k0 k1 hc) clX1 k0 ceX1_dropIfLight q809 ⟨rfl, rfl, rfl, rfl⟩ rfl rfl rfl dX1_takeOut_60 ?_
      refine z_iconst K 0 dX1_takeOut_63 rfl ?_
      obtain rfl := Option.some.inj h
      exact z_iret K dX1_takeOut_64
    · have h := ite_f h c
      refine z_iconst K 2 dX1_takeOut_27 rfl ?_
      obtain rfl := Option.some.inj h
      exact z_iret K dX1_takeOut_28
  · have h := ite_t h c
    refine z_iconst K 1 dX1_takeOut_15 rfl ?_
    obtain rfl := Option.some.inj h
    exact z_iret K dX1_takeOut_16
/-! GoingOver$Course.putIn (LGoingOver$Falls;I)I -/
abbrev rmX1_putIn : Room := { frames := 1, cells := 0, slots := 0, locals := 21 }
def pX1_putIn (R : Rf) (T : Mm) (a0 : Nat) (a1 : Nat) (x2 : Int32) : Option (Int32 × Mm) :=
  bd1 (pX1_hasInside R T a0 x2) (fun (u1 : Int32) => if u1 = 0 then ix x2 10 (ix (T.1 (R a1 8) x2.toNatClampNeg) 5 (if (T.1 (R a0 4) (T.1 (R a1 8) x2.toNatClampNeg).toNatClampNeg) = 0 then lt (wI T a0 1 ((T.1 a0 1) ||| (1 <<< (x2 &&& 31)))) (fun (T2 : Mm) => some (0, T2)) else some (2, T))) else some (1, T))
set_option maxRecDepth 100000 in
set_option maxHeartbeats 4000000 in
theorem mX1_putIn {g : Gl} {R : Rf} {T : Mm} {a0 : Nat} {a1 : Nat} {x2 : Int32} (l : Launch) (hR : Ty g R) (k0 : kd g a0 = 1) (k1 : kd g a1 = 3) {r : Int32 × Mm} (h : pX1_putIn R T a0 a1 x2 = some r) : MI l g yX1_putIn cX1_putIn 3 (some .int) rmX1_putIn [.ref (g.2.2.1 a0), .ref (g.2.2.1 a1), .int x2] R T r.1 R r.2 := by
  refine z_metI (own := RX1) (lv := [some (.ref (g.2.2.1 a0)), some (.ref (g.2.2.1 a1)), some (.int x2)]) (by decide +kernel) rfl rfl rfl (fun X K => ?_)
  unfold pX1_putIn at h
  refine z_aload_n K dX1_putIn_0 rfl ?_
  refine z_iload_n K dX1_putIn_1 rfl ?_
  obtain ⟨u1, hc, h⟩ := bd1_e h
  refine z_callVI K (mX1_hasInside l hR k0 hc) clX1 k0 ceX1_hasInside q827 ⟨rfl, rfl, rfl, rfl⟩ rfl rfl rfl dX1_putIn_2 ?_
  refine z_if_eq K 10 dX1_putIn_5 (by decide) (fun c => ?_) (fun c => ?_)
  · have h := ite_t h c
    refine z_aload_n K dX1_putIn_10 rfl ?_
    refine z_getR K clX1 k0 4 rfl rfl q346 dX1_putIn_11 ?_
    refine z_aload_n K dX1_putIn_14 rfl ?_
    refine z_getR K clX3 k1 8 rfl rfl q274 dX1_putIn_15 ?_
    refine z_iload_n K dX1_putIn_18 rfl ?_
    obtain ⟨hi, h⟩ := ix_e h
    refine z_iald K (hR.at (k := 8) (t := 20010) k1 rfl rfl) rfl rfl rfl hi dX1_putIn_19 ?_
    obtain ⟨hi, h⟩ := ix_e h
    refine z_iald K (hR.at (k := 4) (t := 20005) k0 rfl rfl) rfl rfl rfl hi dX1_putIn_20 ?_
    refine z_if_eq K 26 dX1_putIn_21 (by decide) (fun c => ?_) (fun c => ?_)
    · have h := ite_t h c
      refine z_aload_n K dX1_putIn_26 rfl ?_
      refine z_dup K dX1_putIn_27 rfl ?_
      refine z_getI K clX1 k0 1 rfl rfl q337 dX1_putIn_28 ?_
      refine z_iconst K 1 dX1_putIn_31 rfl ?_
      refine z_iload_n K dX1_putIn_32 rfl ?_
      refine z_ishl K dX1_putIn_33 ?_
      refine z_ior K dX1_putIn_34 ?_
      refine z_putI K clX1 tyX1_ok nmX1 k0 1 rfl rfl q337 rfl rfl rfl dX1_putIn_35 ?_
      refine z_iconst K 0 dX1_putIn_38 rfl ?_
      obtain rfl := Option.some.inj h
      exact z_iret K dX1_putIn_39
    · have h := ite_f h c
      refine z_iconst K 2 dX1_putIn_24 rfl ?_
      obtain rfl := Option.some.inj h
      exact z_iret K dX1_putIn_25
  · have h := ite_f h c
    refine z_iconst K 1 dX1_putIn_8 rfl ?_
    obtain rfl := Option.some.inj h
    exact z_iret K dX1_putIn_9
/-! GoingOver$Course.isWhole (I)Z -/
abbrev rmX1_isWhole : Room := { frames := 0, cells := 0, slots := 0, locals := 0 }
def pX1_isWhole (R : Rf) (T : Mm) (a0 : Nat) (x1 : Int32) : Option (Int32) :=
  if (((T.1 a0 2) >>> (x1 &&& 31)) &&& 1) = 0 then some 1 else some 0
set_option maxRecDepth 100000 in
set_option maxHeartbeats 4000000 in
theorem mX1_isWhole {g : Gl} {R : Rf} {T : Mm} {a0 : Nat} {x1 : Int32} (l : Launch) (hR : Ty g R) (k0 : kd g a0 = 1) {r : Int32} (h : pX1_isWhole R T a0 x1 = some r) : MI l g yX1_isWhole cX1_isWhole 2 (some .boolean) rmX1_isWhole [.ref (g.2.2.1 a0), .int x1] R T r R T := by
  refine z_metI (own := RX1) (lv := [some (.ref (g.2.2.1 a0)), some (.int x1)]) (by decide +kernel) rfl rfl rfl (fun X K => ?_)
  unfold pX1_isWhole at h
  refine z_aload_n K dX1_isWhole_0 rfl ?_
  refine z_getI K clX1 k0 2 rfl rfl q341 dX1_isWhole_1 ?_
  refine z_iload_n K dX1_isWhole_4 rfl ?_
  refine z_ishr K dX1_isWhole_5 ?_
  refine z_iconst K 1 dX1_isWhole_6 rfl ?_
  refine z_iand K dX1_isWhole_7 ?_
  refine z_if_ne K 15 dX1_isWhole_8 (by decide) (fun c => ?_) (fun c => ?_)
  · have h := ite_f h c
    refine z_iconst K 0 dX1_isWhole_15 rfl ?_
    obtain rfl := Option.some.inj h
    exact z_zret (v := 0) K rfl dX1_isWhole_16
  · have h := ite_t h c
    refine z_iconst K 1 dX1_isWhole_11 rfl ?_
    refine z_goto K 16 dX1_isWhole_12 (by decide) ?_
    obtain rfl := Option.some.inj h
    exact z_zret (v := 1) K rfl dX1_isWhole_16
/-! GoingOver$Course.makeWhole (LGoingOver$Falls;I)I -/
abbrev rmX1_makeWhole : Room := { frames := 1, cells := 0, slots := 0, locals := 21 }
def pX1_makeWhole (R : Rf) (T : Mm) (a0 : Nat) (a1 : Nat) (x2 : Int32) : Option (Int32 × Mm) :=
  bd1 (pX1_isWhole R T a0 x2) (fun (u1 : Int32) => if u1 = 0 then ix x2 16 (bd1 (pX1_hasInside R T a0 (T.1 (R a1 10) x2.toNatClampNeg)) (fun (u2 : Int32) => if u2 = 0 then some (2, T) else ix x2 16 (bd1 (pX1_hasInside R T a0 (T.1 (R a1 11) x2.toNatClampNeg)) (fun (u3 : Int32) => if u3 = 0 then some (2, T) else bd1 (pX3_ownerOfJoin R T a1 x2) (fun (u4 : Int32) => ix u4 5 (if (T.1 (R a0 4) u4.toNatClampNeg) = 0 then lt (wI T a0 2 ((T.1 a0 2) &&& ((1 <<< (x2 &&& 31)) ^^^ (-1)))) (fun (T5 : Mm) => some (0, T5)) else some (3, T))))))) else some (1, T))
set_option maxRecDepth 100000 in
set_option maxHeartbeats 4000000 in
theorem mX1_makeWhole {g : Gl} {R : Rf} {T : Mm} {a0 : Nat} {a1 : Nat} {x2 : Int32} (l : Launch) (hR : Ty g R) (k0 : kd g a0 = 1) (k1 : kd g a1 = 3) {r : Int32 × Mm} (h : pX1_makeWhole R T a0 a1 x2 = some r) : MI l g yX1_makeWhole cX1_makeWhole 3 (some .int) rmX1_makeWhole [.ref (g.2.2.1 a0), .ref (g.2.2.1 a1), .int x2] R T r.1 R r.2 := by
  refine z_metI (own := RX1) (lv := [some (.ref (g.2.2.1 a0)), some (.ref (g.2.2.1 a1)), some (.int x2)]) (by decide +kernel) rfl rfl rfl (fun X K => ?_)
  unfold pX1_makeWhole at h
  refine z_aload_n K dX1_makeWhole_0 rfl ?_
  refine z_iload_n K dX1_makeWhole_1 rfl ?_
  obtain ⟨u1, hc, h⟩ := bd1_e h
  refine z_callVI K (mX1_isWhole l hR k0 hc) clX1 k0 ceX1_isWhole q837 ⟨rfl, rfl, rfl, rfl⟩ rfl rfl rfl dX1_makeWhole_2 ?_
  refine z_if_eq K 10 dX1_makeWhole_5 (by decide) (fun c => ?_) (fun c => ?_)
  · have h := ite_t h c
    refine z_aload_n K dX1_makeWhole_10 rfl ?_
    refine z_aload_n K dX1_makeWhole_11 rfl ?_
    refine z_getR K clX3 k1 10 rfl rfl q282 dX1_makeWhole_12 ?_
    refine z_iload_n K dX1_makeWhole_15 rfl ?_
    obtain ⟨hi, h⟩ := ix_e h
    refine z_iald K (hR.at (k := 10) (t := 20016) k1 rfl rfl) rfl rfl rfl hi dX1_makeWhole_16 ?_
    obtain ⟨u2, hc, h⟩ := bd1_e h
    refine z_callVI K (mX1_hasInside l hR k0 hc) clX1 k0 ceX1_hasInside q827 ⟨rfl, rfl, rfl, rfl⟩ rfl rfl rfl dX1_makeWhole_17 ?_
    refine z_if_eq K 36 dX1_makeWhole_20 (by decide) (fun c => ?_) (fun c => ?_)
    · have h := ite_t h c
      refine z_iconst K 2 dX1_makeWhole_36 rfl ?_
      obtain rfl := Option.some.inj h
      exact z_iret K dX1_makeWhole_37
    · have h := ite_f h c
      refine z_aload_n K dX1_makeWhole_23 rfl ?_
      refine z_aload_n K dX1_makeWhole_24 rfl ?_
      refine z_getR K clX3 k1 11 rfl rfl q286 dX1_makeWhole_25 ?_
      refine z_iload_n K dX1_makeWhole_28 rfl ?_
      obtain ⟨hi, h⟩ := ix_e h
      refine z_iald K (hR.at (k := 11) (t := 20016) k1 rfl rfl) rfl rfl rfl hi dX1_makeWhole_29 ?_
      obtain ⟨u3, hc, h⟩ := bd1_e h
      refine z_callVI K (mX1_hasInside l hR k0 hc) clX1 k0 ceX1_hasInside q827 ⟨rfl, rfl, rfl, rfl⟩ rfl rfl rfl dX1_makeWhole_30 ?_
      refine z_if_ne K 38 dX1_makeWhole_33 (by decide) (fun c => ?_) (fun c => ?_)
      · have h := ite_f h c
        refine z_aload_n K dX1_makeWhole_38 rfl ?_
        refine z_getR K clX1 k0 4 rfl rfl q346 dX1_makeWhole_39 ?_
        refine z_aload_n K dX1_makeWhole_42 rfl ?_
        refine z_iload_n K dX1_makeWhole_43 rfl ?_
        obtain ⟨u4, hc, h⟩ := bd1_e h
        refine z_callVI K (mX3_ownerOfJoin l hR k1 hc) clX3 k1 ceX3_ownerOfJoin q818 ⟨rfl, rfl, rfl, rfl⟩ rfl rfl rfl dX1_makeWhole_44 ?_
        obtain ⟨hi, h⟩ := ix_e h
        refine z_iald K (hR.at (k := 4) (t := 20005) k0 rfl rfl) rfl rfl rfl hi dX1_makeWhole_47 ?_
        refine z_if_eq K 53 dX1_makeWhole_48 (by decide) (fun c => ?_) (fun c => ?_)
        · have h := ite_t h c
          refine z_aload_n K dX1_makeWhole_53 rfl ?_
          refine z_dup K dX1_makeWhole_54 rfl ?_
          refine z_getI K clX1 k0 2 rfl rfl q341 dX1_makeWhole_55 ?_
          refine z_iconst K 1 dX1_makeWhole_58 rfl ?_
          refine z_iload_n K dX1_makeWhole_59 rfl ?_
          refine z_ishl K dX1_makeWhole_60 ?_
          refine z_iconst K (-1) dX1_makeWhole_61 rfl ?_
          refine z_ixor K dX1_makeWhole_62 ?_
          refine z_iand K dX1_makeWhole_63 ?_
          refine z_putI K clX1 tyX1_ok nmX1 k0 2 rfl rfl q341 rfl rfl rfl dX1_makeWhole_64 ?_
          refine z_iconst K 0 dX1_makeWhole_67 rfl ?_
          obtain rfl := Option.some.inj h
          exact z_iret K dX1_makeWhole_68
        · have h := ite_f h c
          refine z_iconst K 3 dX1_makeWhole_51 rfl ?_
          obtain rfl := Option.some.inj h
          exact z_iret K dX1_makeWhole_52
      · have h := ite_t h c
        refine z_iconst K 2 dX1_makeWhole_36 rfl ?_
        obtain rfl := Option.some.inj h
        exact z_iret K dX1_makeWhole_37
  · have h := ite_f h c
    refine z_iconst K 1 dX1_makeWhole_8 rfl ?_
    obtain rfl := Option.some.inj h
    exact z_iret K dX1_makeWhole_9
/-! GoingOver$Course.attempt (LGoingOver$Falls;II)I -/
abbrev rmX1_attempt : Room := { frames := 3, cells := 0, slots := 0, locals := 70 }
def pX1_attempt (R : Rf) (T : Mm) (a0 : Nat) (a1 : Nat) (x2 : Int32) (x3 : Int32) : Option (Int32 × Mm) :=
  if x2 = 0 then bd2 (pX1_makeWhole R T a0 a1 x3) (fun (u1 : Int32) (T1 : Mm) => some (u1, T1)) else if x2 = 1 then bd2 (pX1_makeWhole R T a0 a1 x3) (fun (u1 : Int32) (T1 : Mm) => some (u1, T1)) else if x2 = 2 then bd2 (pX1_makeWhole R T a0 a1 x3) (fun (u1 : Int32) (T1 : Mm) => some (u1, T1)) else if x2 = 3 then bd2 (pX1_makeWhole R T a0 a1 x3) (fun (u1 : Int32) (T1 : Mm) => some (u1, T1)) else if x2 = 4 then bd2 (pX1_makeWhole R T a0 a1 x3) (fun (u1 : Int32) (T1 : Mm) => some (u1, T1)) else if x2 = 5 then bd2 (pX1_letGo R T a0 a1 x3) (fun (u2 : Int32) (T2 : Mm) => some (u2, T2)) else if x2 = 6 then bd2 (pX1_letOut R T a0 x3) (fun (u3 : Int32) (T3 : Mm) => some (u3, T3)) else if x2 = 7 then bd2 (pX1_takeOut R T a0 a1 x3) (fun (u4 : Int32) (T4 : Mm) => some (u4, T4)) else if x2 = 8 then bd2 (pX1_putIn R T a0 a1 x3) (fun (u5 : Int32) (T5 : Mm) => some (u5, T5)) else bd2 (pX1_makeWhole R T a0 a1 x3) (fun (u1 : Int32) (T1 : Mm) => some (u1, T1))
set_option maxRecDepth 100000 in
set_option maxHeartbeats 4000000 in
theorem mX1_attempt {g : Gl} {R : Rf} {T : Mm} {a0 : Nat} {a1 : Nat} {x2 : Int32} {x3 : Int32} (l : Launch) (hR : Ty g R) (k0 : kd g a0 = 1) (k1 : kd g a1 = 3) {r : Int32 × Mm} (h : pX1_attempt R T a0 a1 x2 x3 = some r) : MI l g yX1_attempt cX1_attempt 4 (some .int) rmX1_attempt [.ref (g.2.2.1 a0), .ref (g.2.2.1 a1), .int x2, .int x3] R T r.1 R r.2 := by
  refine z_metI (own := RX1) (lv := [some (.ref (g.2.2.1 a0)), some (.ref (g.2.2.1 a1)), some (.int x2), some (.int x3)]) (by decide +kernel) rfl rfl rfl (fun X K => ?_)
  unfold pX1_attempt at h
  refine z_iload_n K dX1_attempt_0 rfl ?_
  rcases ite_or h with ⟨c0, h⟩ | ⟨c0, h⟩
  · refine z_tlow K 59 0 c0 dX1_attempt_1 (by decide) (by decide) ?_
    refine z_aload_n K dX1_attempt_59 rfl ?_
    refine z_aload_n K dX1_attempt_60 rfl ?_
    refine z_iload_n K dX1_attempt_61 rfl ?_
    obtain ⟨u1, T1, hc, h⟩ := bd2_e h
    refine z_callVI K (mX1_makeWhole l hR k0 k1 hc) clX1 k0 ceX1_makeWhole q833 ⟨rfl, rfl, rfl, rfl⟩ rfl rfl rfl dX1_attempt_62 ?_
    obtain rfl := Option.some.inj h
    exact z_iret K dX1_attempt_65
  rcases ite_or h with ⟨c1, h⟩ | ⟨c1, h⟩
  · refine z_tlow K 59 1 c1 dX1_attempt_1 (by decide) (by decide) ?_
    refine z_aload_n K dX1_attempt_59 rfl ?_
    refine z_aload_n K dX1_attempt_60 rfl ?_
    refine z_iload_n K dX1_attempt_61 rfl ?_
    obtain ⟨u1, T1, hc, h⟩ := bd2_e h
    refine z_callVI K (mX1_makeWhole l hR k0 k1 hc) clX1 k0 ceX1_makeWhole q833 ⟨rfl, rfl, rfl, rfl⟩ rfl rfl rfl dX1_attempt_62 ?_
    obtain rfl := Option.some.inj h
    exact z_iret K dX1_attempt_65
  rcases ite_or h with ⟨c2, h⟩ | ⟨c2, h⟩
  · refine z_tlow K 59 2 c2 dX1_attempt_1 (by decide) (by decide) ?_
    refine z_aload_n K dX1_attempt_59 rfl ?_
    refine z_aload_n K dX1_attempt_60 rfl ?_
    refine z_iload_n K dX1_attempt_61 rfl ?_
    obtain ⟨u1, T1, hc, h⟩ := bd2_e h
    refine z_callVI K (mX1_makeWhole l hR k0 k1 hc) clX1 k0 ceX1_makeWhole q833 ⟨rfl, rfl, rfl, rfl⟩ rfl rfl rfl dX1_attempt_62 ?_
    obtain rfl := Option.some.inj h
    exact z_iret K dX1_attempt_65
  rcases ite_or h with ⟨c3, h⟩ | ⟨c3, h⟩
  · refine z_tlow K 59 3 c3 dX1_attempt_1 (by decide) (by decide) ?_
    refine z_aload_n K dX1_attempt_59 rfl ?_
    refine z_aload_n K dX1_attempt_60 rfl ?_
    refine z_iload_n K dX1_attempt_61 rfl ?_
    obtain ⟨u1, T1, hc, h⟩ := bd2_e h
    refine z_callVI K (mX1_makeWhole l hR k0 k1 hc) clX1 k0 ceX1_makeWhole q833 ⟨rfl, rfl, rfl, rfl⟩ rfl rfl rfl dX1_attempt_62 ?_
    obtain rfl := Option.some.inj h
    exact z_iret K dX1_attempt_65
  rcases ite_or h with ⟨c4, h⟩ | ⟨c4, h⟩
  · refine z_tlow K 59 4 c4 dX1_attempt_1 (by decide) (by decide) ?_
    refine z_aload_n K dX1_attempt_59 rfl ?_
    refine z_aload_n K dX1_attempt_60 rfl ?_
    refine z_iload_n K dX1_attempt_61 rfl ?_
    obtain ⟨u1, T1, hc, h⟩ := bd2_e h
    refine z_callVI K (mX1_makeWhole l hR k0 k1 hc) clX1 k0 ceX1_makeWhole q833 ⟨rfl, rfl, rfl, rfl⟩ rfl rfl rfl dX1_attempt_62 ?_
    obtain rfl := Option.some.inj h
    exact z_iret K dX1_attempt_65
  rcases ite_or h with ⟨c5, h⟩ | ⟨c5, h⟩
  · refine z_tin K 32 5 c5 dX1_attempt_1 (by decide) (by decide) rfl (by decide) ?_
    refine z_aload_n K dX1_attempt_32 rfl ?_
    refine z_aload_n K dX1_attempt_33 rfl ?_
    refine z_iload_n K dX1_attempt_34 rfl ?_
    obtain ⟨u2, T2, hc, h⟩ := bd2_e h
    refine z_callVI K (mX1_letGo l hR k0 k1 hc) clX1 k0 ceX1_letGo q805 ⟨rfl, rfl, rfl, rfl⟩ rfl rfl rfl dX1_attempt_35 ?_
    obtain rfl := Option.some.inj h
    exact z_iret K dX1_attempt_38
  rcases ite_or h with ⟨c6, h⟩ | ⟨c6, h⟩
  · refine z_tin K 39 6 c6 dX1_attempt_1 (by decide) (by decide) rfl (by decide) ?_
    refine z_aload_n K dX1_attempt_39 rfl ?_
    refine z_iload_n K dX1_attempt_40 rfl ?_
    obtain ⟨u3, T3, hc, h⟩ := bd2_e h
    refine z_callVI K (mX1_letOut l hR k0 hc) clX1 k0 ceX1_letOut q819 ⟨rfl, rfl, rfl, rfl⟩ rfl rfl rfl dX1_attempt_41 ?_
    obtain rfl := Option.some.inj h
    exact z_iret K dX1_attempt_44
  rcases ite_or h with ⟨c7, h⟩ | ⟨c7, h⟩
  · refine z_tin K 45 7 c7 dX1_attempt_1 (by decide) (by decide) rfl (by decide) ?_
    refine z_aload_n K dX1_attempt_45 rfl ?_
    refine z_aload_n K dX1_attempt_46 rfl ?_
    refine z_iload_n K dX1_attempt_47 rfl ?_
    obtain ⟨u4, T4, hc, h⟩ := bd2_e h
    refine z_callVI K (mX1_takeOut l hR k0 k1 hc) clX1 k0 ceX1_takeOut q823 ⟨rfl, rfl, rfl, rfl⟩ rfl rfl rfl dX1_attempt_48 ?_
    obtain rfl := Option.some.inj h
    exact z_iret K dX1_attempt_51
  rcases ite_or h with ⟨c8, h⟩ | ⟨c8, h⟩
  · refine z_tin K 52 8 c8 dX1_attempt_1 (by decide) (by decide) rfl (by decide) ?_
    refine z_aload_n K dX1_attempt_52 rfl ?_
    refine z_aload_n K dX1_attempt_53 rfl ?_
    refine z_iload_n K dX1_attempt_54 rfl ?_
    obtain ⟨u5, T5, hc, h⟩ := bd2_e h
    refine z_callVI K (mX1_putIn l hR k0 k1 hc) clX1 k0 ceX1_putIn q829 ⟨rfl, rfl, rfl, rfl⟩ rfl rfl rfl dX1_attempt_55 ?_
    obtain rfl := Option.some.inj h
    exact z_iret K dX1_attempt_58
  refine z_tout K 59 9 (lt_p (lt_s (lt_s (lt_s (lt_s (lt_s (lt_s (lt_s (lt_s (lt_s lt_0 c0) c1) c2) c3) c4) c5) c6) c7) c8)) dX1_attempt_1 (by decide) (by decide) (by decide) ?_
  refine z_aload_n K dX1_attempt_59 rfl ?_
  refine z_aload_n K dX1_attempt_60 rfl ?_
  refine z_iload_n K dX1_attempt_61 rfl ?_
  obtain ⟨u1, T1, hc, h⟩ := bd2_e h
  refine z_callVI K (mX1_makeWhole l hR k0 k1 hc) clX1 k0 ceX1_makeWhole q833 ⟨rfl, rfl, rfl, rfl⟩ rfl rfl rfl dX1_attempt_62 ?_
  obtain rfl := Option.some.inj h
  exact z_iret K dX1_attempt_65
/-! GoingOver$Book.liveLine (LGoingOver$Falls;LGoingOver$Course;II)I -/
abbrev rmX0_liveLine : Room := { frames := 4, cells := 0, slots := 0, locals := 93 }
def pX0_liveLine_30 (R : Rf) (a0 : Nat) (a1 : Nat) (x2 : Int32) (x3 : Int32) (T : Mm) : Option (Int32 × Mm) :=
  bd2 (pX1_attempt R T a1 a0 x2 x3) (fun (u1 : Int32) (T1 : Mm) => if u1 = 0 then some (0, T1) else some (((x2 - 5) * 10) + u1, T1))
def pX0_liveLine (R : Rf) (T : Mm) (a0 : Nat) (a1 : Nat) (x2 : Int32) (x3 : Int32) : Option (Int32 × Mm) :=
  if x2 = 10 then bd2 (pX0_liveDays R T a0 a1 x3) (fun (u3 : Int32) (T3 : Mm) => some (u3, T3)) else if x2 = 9 then bd1 (pX3_hasJoin R T a0 x3) (fun (u2 : Int32) => if u2 = 0 then some (49, T) else pX0_liveLine_30 R a0 a1 x2 x3 T) else pX0_liveLine_30 R a0 a1 x2 x3 T
set_option maxRecDepth 100000 in
set_option maxHeartbeats 4000000 in
theorem wX0_liveLine_30 {X : Cx} {g : Gl} {l : Launch} {R : Rf} {a0 : Nat} {a1 : Nat} {x2 : Int32} {x3 : Int32} (K : Ok X g l cX0_liveLine RX0 5 (some .int) rmX0_liveLine) (hR : Ty g R) (k0 : kd g a0 = 3) (k1 : kd g a1 = 1) {r : Int32 × Mm} (T : Mm) (h : pX0_liveLine_30 R a0 a1 x2 x3 T = some r) : Zj X g 5 (QI X g r.1 R r.2) R T [some (.ref (g.2.2.1 a0)), some (.ref (g.2.2.1 a1)), some (.int x2), some (.int x3), none] [] 30 := by
  unfold pX0_liveLine_30 at h
  refine z_aload_n K dX0_liveLine_30 rfl ?_
  refine z_aload_n K dX0_liveLine_31 rfl ?_
  refine z_iload_n K dX0_liveLine_32 rfl ?_
  refine z_iload_n K dX0_liveLine_33 rfl ?_
  obtain ⟨u1, T1, hc, h⟩ := bd2_e h
  refine z_callVI K (mX1_attempt l hR k1 k0 hc) clX1 k1 ceX1_attempt q1119 ⟨rfl, rfl, rfl, rfl⟩ rfl rfl rfl dX0_liveLine_34 ?_
  refine z_istore K dX0_liveLine_37 rfl rfl ?_
  refine z_iload K dX0_liveLine_39 rfl ?_
  refine z_if_ne K 48 dX0_liveLine_41 (by decide) (fun c => ?_) (fun c => ?_)
  · have h := ite_f h c
    refine z_iload_n K dX0_liveLine_48 rfl ?_
    refine z_iconst K 5 dX0_liveLine_49 rfl ?_
    refine z_isub K dX0_liveLine_50 ?_
    refine z_bipush K 10 dX0_liveLine_51 rfl ?_
    refine z_imul K dX0_liveLine_53 ?_
    refine z_iload K dX0_liveLine_54 rfl ?_
    refine z_iadd K dX0_liveLine_56 ?_
    obtain rfl := Option.some.inj h
    exact z_iret K dX0_liveLine_57
  · have h := ite_t h c
    refine z_iconst K 0 dX0_liveLine_44 rfl ?_
    refine z_goto K 57 dX0_liveLine_45 (by decide) ?_
    obtain rfl := Option.some.inj h
    exact z_iret K dX0_liveLine_57
set_option maxRecDepth 100000 in
set_option maxHeartbeats 4000000 in
theorem mX0_liveLine {g : Gl} {R : Rf} {T : Mm} {a0 : Nat} {a1 : Nat} {x2 : Int32} {x3 : Int32} (l : Launch) (hR : Ty g R) (k0 : kd g a0 = 3) (k1 : kd g a1 = 1) {r : Int32 × Mm} (h : pX0_liveLine R T a0 a1 x2 x3 = some r) : MI l g yX0_liveLine cX0_liveLine 5 (some .int) rmX0_liveLine [.ref (g.2.2.1 a0), .ref (g.2.2.1 a1), .int x2, .int x3] R T r.1 R r.2 := by
  refine z_metI (own := RX0) (lv := [some (.ref (g.2.2.1 a0)), some (.ref (g.2.2.1 a1)), some (.int x2), some (.int x3), none]) (by decide +kernel) rfl rfl rfl (fun X K => ?_)
  unfold pX0_liveLine at h
  refine z_iload_n K dX0_liveLine_0 rfl ?_
  refine z_bipush K 10 dX0_liveLine_1 rfl ?_
  refine z_icmp_ne K 13 dX0_liveLine_3 (by decide) (fun c => ?_) (fun c => ?_)
  · have h := ite_f h c
    refine z_iload_n K dX0_liveLine_13 rfl ?_
    refine z_bipush K 9 dX0_liveLine_14 rfl ?_
    refine z_icmp_ne K 30 dX0_liveLine_16 (by decide) (fun c => ?_) (fun c => ?_)
    · have h := ite_f h c
      refine Zj.mask [true, true, true, true, false] ?_
      exact wX0_liveLine_30 K hR k0 k1 _ h
    · have h := ite_t h c
      refine z_aload_n K dX0_liveLine_19 rfl ?_
      refine z_iload_n K dX0_liveLine_20 rfl ?_
      obtain ⟨u2, hc, h⟩ := bd1_e h
      refine z_callVI K (mX3_hasJoin l hR k0 hc) clX3 k0 ceX3_hasJoin q1118 ⟨rfl, rfl, rfl, rfl⟩ rfl rfl rfl dX0_liveLine_21 ?_
      refine z_if_ne K 30 dX0_liveLine_24 (by decide) (fun c => ?_) (fun c => ?_)
      · have h := ite_f h c
        refine Zj.mask [true, true, true, true, false] ?_
        exact wX0_liveLine_30 K hR k0 k1 _ h
      · have h := ite_t h c
        refine z_bipush K 49 dX0_liveLine_27 rfl ?_
        obtain rfl := Option.some.inj h
        exact z_iret K dX0_liveLine_29
  · have h := ite_t h c
    refine z_aload_n K dX0_liveLine_6 rfl ?_
    refine z_aload_n K dX0_liveLine_7 rfl ?_
    refine z_iload_n K dX0_liveLine_8 rfl ?_
    obtain ⟨u3, T3, hc, h⟩ := bd2_e h
    refine z_callSI K (mX0_liveDays l hR k0 k1 hc) ceX0_liveDays q1114 ⟨rfl, rfl, rfl, rfl⟩ rfl rfl rfl dX0_liveLine_9 ?_
    obtain rfl := Option.some.inj h
    exact z_iret K dX0_liveLine_12
/-! GoingOver$Book.live (LGoingOver$Falls;LGoingOver$Course;)I -/
abbrev rmX0_live : Room := { frames := 5, cells := 0, slots := 0, locals := 117 }
def pX0_live_2 (R : Rf) (a0 : Nat) (a1 : Nat) (a2 : Nat) (e38 : Mm → Int32 → Option (Int32 × Mm)) (e46 : Mm → Option (Int32 × Mm)) (r2 : Mm → Int32 → Option (Int32 × Mm)) (T : Mm) (x3 : Int32) : Option (Int32 × Mm) :=
  if (T.1 a0 1) ≤ x3 then e46 T else ix x3 40 (ix x3 40 (bd2 (pX0_liveLine R T a1 a2 (T.1 (R a0 2) x3.toNatClampNeg) (T.1 (R a0 3) x3.toNatClampNeg)) (fun (u1 : Int32) (T1 : Mm) => lt (wI T1 a0 0 u1) (fun (T2 : Mm) => if (T2.1 a0 0) = 0 then lt (x3 + 1) (fun (v3 : Int32) => r2 T2 v3) else e38 T2 x3))))
def pX0_live_38 (R : Rf) (a0 : Nat) (a1 : Nat) (a2 : Nat) (T : Mm) (x3 : Int32) : Option (Int32 × Mm) :=
  some (x3, T)
def pX0_live_46 (R : Rf) (a0 : Nat) (a1 : Nat) (a2 : Nat) (T : Mm) : Option (Int32 × Mm) :=
  lt (wI T a0 0 0) (fun (T4 : Mm) => some (T4.1 a0 1, T4))
def pX0_live (R : Rf) (T : Mm) (a0 : Nat) (a1 : Nat) (a2 : Nat) : Option (Int32 × Mm) :=
  zl2 (pX0_live_2 R a0 a1 a2 (pX0_live_38 R a0 a1 a2) (pX0_live_46 R a0 a1 a2)) FU T 0
set_option maxRecDepth 100000 in
set_option maxHeartbeats 4000000 in
theorem wX0_live_2 {X : Cx} {g : Gl} {l : Launch} {R : Rf} {a0 : Nat} {a1 : Nat} {a2 : Nat} (K : Ok X g l cX0_live RX0 4 (some .int) rmX0_live) (hR : Ty g R) (k0 : kd g a0 = 0) (k1 : kd g a1 = 3) (k2 : kd g a2 = 1) {r : Int32 × Mm} {e38 : Mm → Int32 → Option (Int32 × Mm)} (he38 : ∀ (T : Mm) (x3 : Int32), e38 T x3 = some r → Zj X g 4 (QI X g r.1 R r.2) R T [none, none, none, some (.int x3)] [] 38) {e46 : Mm → Option (Int32 × Mm)} (he46 : ∀ (T : Mm), e46 T = some r → Zj X g 4 (QI X g r.1 R r.2) R T [some (.ref (g.2.2.1 a0)), none, none, none] [] 46) : ∀ (n : Nat) (T : Mm) (x3 : Int32), zl2 (pX0_live_2 R a0 a1 a2 e38 e46) n T x3 = some r → Zj X g 4 (QI X g r.1 R r.2) R T [some (.ref (g.2.2.1 a0)), some (.ref (g.2.2.1 a1)), some (.ref (g.2.2.1 a2)), some (.int x3)] [] 2 := by
  intro n
  induction n with
  | zero =>
    intro T x3 h
    exact absurd h (by simp [zl2])
  | succ n hr2 =>
    intro T x3 h
    rw [zl2_s] at h
    unfold pX0_live_2 at h
    refine z_iload_n K dX0_live_2 rfl ?_
    refine z_aload_n K dX0_live_3 rfl ?_
    refine z_getI K clX0 k0 1 rfl rfl q388 dX0_live_4 ?_
    refine z_icmp_ge K 46 dX0_live_7 (by decide) (fun c => ?_) (fun c => ?_)
    · have h := ite_t h c
      refine Zj.mask [true, false, false, false] ?_
      exact he46 _ h
    · have h := ite_f h c
      refine z_aload_n K dX0_live_10 rfl ?_
      refine z_aload_n K dX0_live_11 rfl ?_
      refine z_aload_n K dX0_live_12 rfl ?_
      refine z_aload_n K dX0_live_13 rfl ?_
      refine z_getR K clX0 k0 2 rfl rfl q389 dX0_live_14 ?_
      refine z_iload_n K dX0_live_17 rfl ?_
      obtain ⟨hi, h⟩ := ix_e h
      refine z_iald K (hR.at (k := 2) (t := 20040) k0 rfl rfl) rfl rfl rfl hi dX0_live_18 ?_
      refine z_aload_n K dX0_live_19 rfl ?_
      refine z_getR K clX0 k0 3 rfl rfl q390 dX0_live_20 ?_
      refine z_iload_n K dX0_live_23 rfl ?_
      obtain ⟨hi, h⟩ := ix_e h
      refine z_iald K (hR.at (k := 3) (t := 20040) k0 rfl rfl) rfl rfl rfl hi dX0_live_24 ?_
      obtain ⟨u1, T1, hc, h⟩ := bd2_e h
      refine z_callSI K (mX0_liveLine l hR k1 k2 hc) ceX0_liveLine q1111 ⟨rfl, rfl, rfl, rfl⟩ rfl rfl rfl dX0_live_25 ?_
      refine z_putI K clX0 tyX0_ok nmX0 k0 0 rfl rfl q386 rfl rfl rfl dX0_live_28 ?_
      refine z_aload_n K dX0_live_31 rfl ?_
      refine z_getI K clX0 k0 0 rfl rfl q386 dX0_live_32 ?_
      refine z_if_eq K 40 dX0_live_35 (by decide) (fun c => ?_) (fun c => ?_)
      · have h := ite_t h c
        refine z_iinc K 1 dX0_live_40 rfl rfl rfl rfl ?_
        refine z_goto K 2 dX0_live_43 (by decide) ?_
        refine Zj.mask [true, true, true, true] ?_
        exact hr2 _ _ h
      · have h := ite_f h c
        refine Zj.mask [false, false, false, true] ?_
        exact he38 _ _ h
set_option maxRecDepth 100000 in
set_option maxHeartbeats 4000000 in
theorem wX0_live_38 {X : Cx} {g : Gl} {l : Launch} {R : Rf} {a0 : Nat} {a1 : Nat} {a2 : Nat} (K : Ok X g l cX0_live RX0 4 (some .int) rmX0_live) (hR : Ty g R) (k0 : kd g a0 = 0) (k1 : kd g a1 = 3) (k2 : kd g a2 = 1) {r : Int32 × Mm} (T : Mm) (x3 : Int32) (h : pX0_live_38 R a0 a1 a2 T x3 = some r) : Zj X g 4 (QI X g r.1 R r.2) R T [none, none, none, some (.int x3)] [] 38 := by
  unfold pX0_live_38 at h
  refine z_iload_n K dX0_live_38 rfl ?_
  obtain rfl := Option.some.inj h
  exact z_iret K dX0_live_39
set_option maxRecDepth 100000 in
set_option maxHeartbeats 4000000 in
theorem wX0_live_46 {X : Cx} {g : Gl} {l : Launch} {R : Rf} {a0 : Nat} {a1 : Nat} {a2 : Nat} (K : Ok X g l cX0_live RX0 4 (some .int) rmX0_live) (hR : Ty g R) (k0 : kd g a0 = 0) (k1 : kd g a1 = 3) (k2 : kd g a2 = 1) {r : Int32 × Mm} (T : Mm) (h : pX0_live_46 R a0 a1 a2 T = some r) : Zj X g 4 (QI X g r.1 R r.2) R T [some (.ref (g.2.2.1 a0)), none, none, none] [] 46 := by
  unfold pX0_live_46 at h
  refine z_aload_n K dX0_live_46 rfl ?_
  refine z_iconst K 0 dX0_live_47 rfl ?_
  refine z_putI K clX0 tyX0_ok nmX0 k0 0 rfl rfl q386 rfl rfl rfl dX0_live_48 ?_
  refine z_aload_n K dX0_live_51 rfl ?_
  refine z_getI K clX0 k0 1 rfl rfl q388 dX0_live_52 ?_
  obtain rfl := Option.some.inj h
  exact z_iret K dX0_live_55
set_option maxRecDepth 100000 in
set_option maxHeartbeats 4000000 in
theorem mX0_live {g : Gl} {R : Rf} {T : Mm} {a0 : Nat} {a1 : Nat} {a2 : Nat} (l : Launch) (hR : Ty g R) (k0 : kd g a0 = 0) (k1 : kd g a1 = 3) (k2 : kd g a2 = 1) {r : Int32 × Mm} (h : pX0_live R T a0 a1 a2 = some r) : MI l g yX0_live cX0_live 4 (some .int) rmX0_live [.ref (g.2.2.1 a0), .ref (g.2.2.1 a1), .ref (g.2.2.1 a2)] R T r.1 R r.2 := by
  refine z_metI (own := RX0) (lv := [some (.ref (g.2.2.1 a0)), some (.ref (g.2.2.1 a1)), some (.ref (g.2.2.1 a2)), none]) (by decide +kernel) rfl rfl rfl (fun X K => ?_)
  unfold pX0_live at h
  refine z_iconst K 0 dX0_live_0 rfl ?_
  refine z_istore_n K dX0_live_1 rfl rfl ?_
  refine Zj.mask [true, true, true, true] ?_
  exact wX0_live_2 K hR k0 k1 k2 (wX0_live_38 K hR k0 k1 k2) (wX0_live_46 K hR k0 k1 k2) FU _ _ h
/-! GoingOver$Course.begin (LGoingOver$Falls;)V -/
abbrev rmX1_begin : Room := { frames := 0, cells := 0, slots := 0, locals := 0 }
def pX1_begin_29 (R : Rf) (a0 : Nat) (a1 : Nat) (e47 : Mm → Option (Mm)) (r29 : Mm → Int32 → Option (Mm)) (T : Mm) (x2 : Int32) : Option (Mm) :=
  if 5 ≤ x2 then e47 T else ix x2 5 (lt (wI T (R a0 4) x2.toNatClampNeg 0) (fun (T5 : Mm) => lt (x2 + 1) (fun (v6 : Int32) => r29 T5 v6)))
def pX1_begin_47 (R : Rf) (a0 : Nat) (a1 : Nat) (T : Mm) : Option (Mm) :=
  some T
def pX1_begin (R : Rf) (T : Mm) (a0 : Nat) (a1 : Nat) : Option (Mm) :=
  lt (wI T a0 0 0) (fun (T1 : Mm) => lt (wI T1 a0 1 ((1 <<< ((T1.1 a1 1) &&& 31)) - 1)) (fun (T2 : Mm) => lt (wI T2 a0 2 0) (fun (T3 : Mm) => lt (wI T3 a0 3 0) (fun (T4 : Mm) => zl2 (pX1_begin_29 R a0 a1 (pX1_begin_47 R a0 a1)) FU T4 0))))
set_option maxRecDepth 100000 in
set_option maxHeartbeats 4000000 in
theorem wX1_begin_29 {X : Cx} {g : Gl} {l : Launch} {R : Rf} {a0 : Nat} {a1 : Nat} (K : Ok X g l cX1_begin RX1 3 none rmX1_begin) (hR : Ty g R) (k0 : kd g a0 = 1) (k1 : kd g a1 = 3) {r : Mm} {e47 : Mm → Option (Mm)} (he47 : ∀ (T : Mm), e47 T = some r → Zj X g 3 (QV X g R r) R T [none, none, none] [] 47) : ∀ (n : Nat) (T : Mm) (x2 : Int32), zl2 (pX1_begin_29 R a0 a1 e47) n T x2 = some r → Zj X g 3 (QV X g R r) R T [some (.ref (g.2.2.1 a0)), none, some (.int x2)] [] 29 := by
  intro n
  induction n with
  | zero =>
    intro T x2 h
    exact absurd h (by simp [zl2])
  | succ n hr29 =>
    intro T x2 h
    rw [zl2_s] at h
    unfold pX1_begin_29 at h
    refine z_iload_n K dX1_begin_29 rfl ?_
    refine z_iconst K 5 dX1_begin_30 rfl ?_
    refine z_icmp_ge K 47 dX1_begin_31 (by decide) (fun c => ?_) (fun c => ?_)
    · have h := ite_t h c
      refine Zj.mask [false, false, false] ?_
      exact he47 _ h
    · have h := ite_f h c
      refine z_aload_n K dX1_begin_34 rfl ?_
      refine z_getR K clX1 k0 4 rfl rfl q346 dX1_begin_35 ?_
      refine z_iload_n K dX1_begin_38 rfl ?_
      refine z_iconst K 0 dX1_begin_39 rfl ?_
      obtain ⟨hi, h⟩ := ix_e h
      refine z_iast K (hR.at (k := 4) (t := 20005) k0 rfl rfl) rfl rfl rfl hi dX1_begin_40 ?_
      refine z_iinc K 1 dX1_begin_41 rfl rfl rfl rfl ?_
      refine z_goto K 29 dX1_begin_44 (by decide) ?_
      refine Zj.mask [true, false, true] ?_
      exact hr29 _ _ h
set_option maxRecDepth 100000 in
set_option maxHeartbeats 4000000 in
theorem wX1_begin_47 {X : Cx} {g : Gl} {l : Launch} {R : Rf} {a0 : Nat} {a1 : Nat} (K : Ok X g l cX1_begin RX1 3 none rmX1_begin) (hR : Ty g R) (k0 : kd g a0 = 1) (k1 : kd g a1 = 3) {r : Mm} (T : Mm) (h : pX1_begin_47 R a0 a1 T = some r) : Zj X g 3 (QV X g R r) R T [none, none, none] [] 47 := by
  unfold pX1_begin_47 at h
  obtain rfl := Option.some.inj h
  exact z_vret K dX1_begin_47
set_option maxRecDepth 100000 in
set_option maxHeartbeats 4000000 in
theorem mX1_begin {g : Gl} {R : Rf} {T : Mm} {a0 : Nat} {a1 : Nat} (l : Launch) (hR : Ty g R) (k0 : kd g a0 = 1) (k1 : kd g a1 = 3) {r : Mm} (h : pX1_begin R T a0 a1 = some r) : MV l g yX1_begin cX1_begin 3 none rmX1_begin [.ref (g.2.2.1 a0), .ref (g.2.2.1 a1)] R T R r := by
  refine z_metV (own := RX1) (lv := [some (.ref (g.2.2.1 a0)), some (.ref (g.2.2.1 a1)), none]) (by decide +kernel) rfl rfl rfl (fun X K => ?_)
  unfold pX1_begin at h
  refine z_aload_n K dX1_begin_0 rfl ?_
  refine z_iconst K 0 dX1_begin_1 rfl ?_
  refine z_putI K clX1 tyX1_ok nmX1 k0 0 rfl rfl q332 rfl rfl rfl dX1_begin_2 ?_
  refine z_aload_n K dX1_begin_5 rfl ?_
  refine z_iconst K 1 dX1_begin_6 rfl ?_
  refine z_aload_n K dX1_begin_7 rfl ?_
  refine z_getI K clX3 k1 1 rfl rfl q251 dX1_begin_8 ?_
  refine z_ishl K dX1_begin_11 ?_
  refine z_iconst K 1 dX1_begin_12 rfl ?_
  refine z_isub K dX1_begin_13 ?_
  refine z_putI K clX1 tyX1_ok nmX1 k0 1 rfl rfl q337 rfl rfl rfl dX1_begin_14 ?_
  refine z_aload_n K dX1_begin_17 rfl ?_
  refine z_iconst K 0 dX1_begin_18 rfl ?_
  refine z_putI K clX1 tyX1_ok nmX1 k0 2 rfl rfl q341 rfl rfl rfl dX1_begin_19 ?_
  refine z_aload_n K dX1_begin_22 rfl ?_
  refine z_iconst K 0 dX1_begin_23 rfl ?_
  refine z_putI K clX1 tyX1_ok nmX1 k0 3 rfl rfl q344 rfl rfl rfl dX1_begin_24 ?_
  refine z_iconst K 0 dX1_begin_27 rfl ?_
  refine z_istore_n K dX1_begin_28 rfl rfl ?_
  refine Zj.mask [true, false, true] ?_
  exact wX1_begin_29 K hR k0 k1 (wX1_begin_47 K hR k0 k1) FU _ _ h
/-! GoingOver$Course.copy (LGoingOver$Course;)V -/
abbrev rmX1_copy : Room := { frames := 1, cells := 0, slots := 0, locals := 60 }
def pX1_copy (R : Rf) (T : Mm) (a0 : Nat) (a1 : Nat) : Option (Mm) :=
  lt (wI T a0 0 (T.1 a1 0)) (fun (T1 : Mm) => lt (wI T1 a0 1 (T1.1 a1 1)) (fun (T2 : Mm) => lt (wI T2 a0 2 (T2.1 a1 2)) (fun (T3 : Mm) => lt (wI T3 a0 3 (T3.1 a1 3)) (fun (T4 : Mm) => lt (cpI T4 (R a1 4) (R a0 4) 5) (fun (T5 : Mm) => some T5)))))
set_option maxRecDepth 100000 in
set_option maxHeartbeats 4000000 in
theorem mX1_copy {g : Gl} {R : Rf} {T : Mm} {a0 : Nat} {a1 : Nat} (l : Launch) (hR : Ty g R) (k0 : kd g a0 = 1) (k1 : kd g a1 = 1) {r : Mm} (h : pX1_copy R T a0 a1 = some r) : MV l g yX1_copy cX1_copy 2 none rmX1_copy [.ref (g.2.2.1 a0), .ref (g.2.2.1 a1)] R T R r := by
  refine z_metV (own := RX1) (lv := [some (.ref (g.2.2.1 a0)), some (.ref (g.2.2.1 a1))]) (by decide +kernel) rfl rfl rfl (fun X K => ?_)
  unfold pX1_copy at h
  refine z_aload_n K dX1_copy_0 rfl ?_
  refine z_aload_n K dX1_copy_1 rfl ?_
  refine z_getI K clX1 k1 0 rfl rfl q332 dX1_copy_2 ?_
  refine z_putI K clX1 tyX1_ok nmX1 k0 0 rfl rfl q332 rfl rfl rfl dX1_copy_5 ?_
  refine z_aload_n K dX1_copy_8 rfl ?_
  refine z_aload_n K dX1_copy_9 rfl ?_
  refine z_getI K clX1 k1 1 rfl rfl q337 dX1_copy_10 ?_
  refine z_putI K clX1 tyX1_ok nmX1 k0 1 rfl rfl q337 rfl rfl rfl dX1_copy_13 ?_
  refine z_aload_n K dX1_copy_16 rfl ?_
  refine z_aload_n K dX1_copy_17 rfl ?_
  refine z_getI K clX1 k1 2 rfl rfl q341 dX1_copy_18 ?_
  refine z_putI K clX1 tyX1_ok nmX1 k0 2 rfl rfl q341 rfl rfl rfl dX1_copy_21 ?_
  refine z_aload_n K dX1_copy_24 rfl ?_
  refine z_aload_n K dX1_copy_25 rfl ?_
  refine z_getI K clX1 k1 3 rfl rfl q344 dX1_copy_26 ?_
  refine z_putI K clX1 tyX1_ok nmX1 k0 3 rfl rfl q344 rfl rfl rfl dX1_copy_29 ?_
  refine z_aload_n K dX1_copy_32 rfl ?_
  refine z_getR K clX1 k1 4 rfl rfl q346 dX1_copy_33 ?_
  refine z_iconst K 0 dX1_copy_36 rfl ?_
  refine z_aload_n K dX1_copy_37 rfl ?_
  refine z_getR K clX1 k0 4 rfl rfl q346 dX1_copy_38 ?_
  refine z_iconst K 0 dX1_copy_41 rfl ?_
  refine z_iconst K 5 dX1_copy_42 rfl ?_
  refine z_cpI K q798 q800 q799 q127 (hR.at (k := 4) (t := 20005) k1 rfl rfl) (hR.at (k := 4) (t := 20005) k0 rfl rfl) rfl rfl rfl rfl (by decide) (Nat.le_of_ble_eq_true rfl) (Nat.le_of_ble_eq_true rfl) dX1_copy_43 ?_
  obtain rfl := Option.some.inj h
  exact z_vret K dX1_copy_46
