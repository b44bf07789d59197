/-! GoingOverModel.isHeight (I)Z -/
abbrev rmX12_isHeight : Room := { frames := 4, cells := 0, slots := 0, locals := 96 }
def pX12_isHeight_4 (R : Rf) (T : Mm) (a0 : Nat) (x1 : Int32) (e48 : Int32 → Option (Int32)) (r4 : Int32 → Int32 → Option (Int32)) (x2 : Int32) (x3 : Int32) : Option (Int32) :=
  if (T.1 a0 3) ≤ x3 then e48 x2 else if x2 = 0 then lt (x3 + 2) (fun (v1 : Int32) => r4 0 v1) else bd1 (pX12_octet R T a0 x3) (fun (u2 : Int32) => bd1 (pX12_partsBy R T a0 u2 x1) (fun (u3 : Int32) => bd1 (pX12_octet R T a0 (x3 + 1)) (fun (u4 : Int32) => if u3 = u4 then lt (x3 + 2) (fun (v6 : Int32) => r4 1 v6) else lt (x3 + 2) (fun (v5 : Int32) => r4 0 v5))))
def pX12_isHeight_48 (R : Rf) (T : Mm) (a0 : Nat) (x1 : Int32) (x2 : Int32) : Option (Int32) :=
  bz x2 (some x2)
def pX12_isHeight (R : Rf) (T : Mm) (a0 : Nat) (x1 : Int32) : Option (Int32) :=
  zl2 (pX12_isHeight_4 R T a0 x1 (pX12_isHeight_48 R T a0 x1)) FU 1 0
set_option maxRecDepth 100000 in
set_option maxHeartbeats 4000000 in
theorem wX12_isHeight_4 {X : Cx} {g : Gl} {l : Launch} {R : Rf} {T : Mm} {a0 : Nat} {x1 : Int32} (K : Ok X g l cX12_isHeight RX12 4 (some .boolean) rmX12_isHeight) (hR : Ty g R) (k0 : kd g a0 = 12) {r : Int32} {e48 : Int32 → Option (Int32)} (he48 : ∀ (x2 : Int32), e48 x2 = some r → Zj X g 4 (QI X g r R T) R T [none, none, some (.int x2), none] [] 48) : ∀ (n : Nat) (x2 : Int32) (x3 : Int32), zl2 (pX12_isHeight_4 R T a0 x1 e48) n x2 x3 = some r → Zj X g 4 (QI X g r R T) R T [some (.ref (g.2.2.1 a0)), some (.int x1), some (.int x2), some (.int x3)] [] 4 := by
  intro n
  induction n with
  | zero =>
    intro x2 x3 h
    exact absurd h (by simp [zl2])
  | succ n hr4 =>
    intro x2 x3 h
    rw [zl2_s] at h
    unfold pX12_isHeight_4 at h
    refine z_iload_n K dX12_isHeight_4 rfl ?_
    refine z_aload_n K dX12_isHeight_5 rfl ?_
    refine z_getI K clX12 k0 3 rfl rfl q1341 dX12_isHeight_6 ?_
    refine z_icmp_ge K 48 dX12_isHeight_9 (by decide) (fun c => ?_) (fun c => ?_)
    · have h := ite_t h c
      refine Zj.mask [false, false, true, false] ?_
      exact he48 _ h
    · have h := ite_f h c
      refine z_iload_n K dX12_isHeight_12 rfl ?_
      refine z_if_eq K 40 dX12_isHeight_13 (by decide) (fun c => ?_) (fun c => ?_)
      · have h := ite_t h c
        refine z_iconst K 0 dX12_isHeight_40 rfl ?_
        refine z_istore_n K dX12_isHeight_41 rfl rfl ?_
        refine z_iinc K 2 dX12_isHeight_42 rfl rfl rfl rfl ?_
        refine z_goto K 4 dX12_isHeight_45 (by decide) ?_
        refine Zj.mask [true, true, true, true] ?_
        exact hr4 _ _ h
      · have h := ite_f h c
        refine z_aload_n K dX12_isHeight_16 rfl ?_
        refine z_aload_n K dX12_isHeight_17 rfl ?_
        refine z_iload_n K dX12_isHeight_18 rfl ?_
        obtain ⟨u2, hc, h⟩ := bd1_e h
        refine z_callVI K (mX12_octet l hR k0 hc) clX12 k0 ceX12_octet q1789 ⟨rfl, rfl, rfl, rfl⟩ rfl rfl rfl dX12_isHeight_19 ?_
        refine z_iload_n K dX12_isHeight_22 rfl ?_
        obtain ⟨u3, hc, h⟩ := bd1_e h
        refine z_callVI K (mX12_partsBy l hR k0 hc) clX12 k0 ceX12_partsBy q1802 ⟨rfl, rfl, rfl, rfl⟩ rfl rfl rfl dX12_isHeight_23 ?_
        refine z_aload_n K dX12_isHeight_26 rfl ?_
        refine z_iload_n K dX12_isHeight_27 rfl ?_
        refine z_iconst K 1 dX12_isHeight_28 rfl ?_
        refine z_iadd K dX12_isHeight_29 ?_
        obtain ⟨u4, hc, h⟩ := bd1_e h
        refine z_callVI K (mX12_octet l hR k0 hc) clX12 k0 ceX12_octet q1789 ⟨rfl, rfl, rfl, rfl⟩ rfl rfl rfl dX12_isHeight_30 ?_
        refine z_icmp_ne K 40 dX12_isHeight_33 (by decide) (fun c => ?_) (fun c => ?_)
        · have h := ite_f h c
          refine z_iconst K 0 dX12_isHeight_40 rfl ?_
          refine z_istore_n K dX12_isHeight_41 rfl rfl ?_
          refine z_iinc K 2 dX12_isHeight_42 rfl rfl rfl rfl ?_
          refine z_goto K 4 dX12_isHeight_45 (by decide) ?_
          refine Zj.mask [true, true, true, true] ?_
          exact hr4 _ _ h
        · have h := ite_t h c
          refine z_iconst K 1 dX12_isHeight_36 rfl ?_
          refine z_goto K 41 dX12_isHeight_37 (by decide) ?_
          refine z_istore_n K dX12_isHeight_41 rfl rfl ?_
          refine z_iinc K 2 dX12_isHeight_42 rfl rfl rfl rfl ?_
          refine z_goto K 4 dX12_isHeight_45 (by decide) ?_
          refine Zj.mask [true, true, true, true] ?_
          exact hr4 _ _ h
set_option maxRecDepth 100000 in
set_option maxHeartbeats 4000000 in
theorem wX12_isHeight_48 {X : Cx} {g : Gl} {l : Launch} {R : Rf} {T : Mm} {a0 : Nat} {x1 : Int32} (K : Ok X g l cX12_isHeight RX12 4 (some .boolean) rmX12_isHeight) (hR : Ty g R) (k0 : kd g a0 = 12) {r : Int32} (x2 : Int32) (h : pX12_isHeight_48 R T a0 x1 x2 = some r) : Zj X g 4 (QI X g r R T) R T [none, none, some (.int x2), none] [] 48 := by
  unfold pX12_isHeight_48 at h
  refine z_iload_n K dX12_isHeight_48 rfl ?_
  obtain ⟨hz, hf, h⟩ := bz_e h
  obtain rfl := Option.some.inj h
  exact z_zret K hz dX12_isHeight_49
set_option maxRecDepth 100000 in
set_option maxHeartbeats 4000000 in
theorem mX12_isHeight {g : Gl} {R : Rf} {T : Mm} {a0 : Nat} {x1 : Int32} (l : Launch) (hR : Ty g R) (k0 : kd g a0 = 12) {r : Int32} (h : pX12_isHeight R T a0 x1 = some r) : MI l g yX12_isHeight cX12_isHeight 4 (some .boolean) rmX12_isHeight [.ref (g.2.2.1 a0), .int x1] R T r R T := by
  refine z_metI (own := RX12) (lv := [some (.ref (g.2.2.1 a0)), some (.int x1), none, none]) (by decide +kernel) rfl rfl rfl (fun X K => ?_)
  unfold pX12_isHeight at h
  refine z_iconst K 1 dX12_isHeight_0 rfl ?_
  refine z_istore_n K dX12_isHeight_1 rfl rfl ?_
  refine z_iconst K 0 dX12_isHeight_2 rfl ?_
  refine z_istore_n K dX12_isHeight_3 rfl rfl ?_
  refine Zj.mask [true, true, true, true] ?_
  exact wX12_isHeight_4 K hR k0 (wX12_isHeight_48 K hR k0) FU _ _ h
/-! GoingOverModel.leftBy (I)I -/
abbrev rmX12_leftBy : Room := { frames := 4, cells := 0, slots := 0, locals := 96 }
def pX12_leftBy_2 (R : Rf) (a0 : Nat) (x1 : Int32) (e21 : Mm → Option (Int32 × Mm)) (r2 : Mm → Int32 → Option (Int32 × Mm)) (T : Mm) (x2 : Int32) : Option (Int32 × Mm) :=
  if 11 ≤ x2 then e21 T else ix x2 11 (lt (wI T (R a0 33) x2.toNatClampNeg 0) (fun (T1 : Mm) => lt (x2 + 1) (fun (v2 : Int32) => r2 T1 v2)))
def pX12_leftBy_25 (R : Rf) (a0 : Nat) (x1 : Int32) (e80 : Mm → Int32 → Option (Int32 × Mm)) (r25 : Mm → Int32 → Int32 → Option (Int32 × Mm)) (T : Mm) (x2 : Int32) (x3 : Int32) : Option (Int32 × Mm) :=
  if 30 < x3 then e80 T x2 else ix x3 31 (if (T.1 (R a0 32) x3.toNatClampNeg) = 0 then lt (x3 + 1) (fun (v7 : Int32) => r25 T x2 v7) else bd1 (pX12_partsBy R T a0 x1 x3) (fun (u3 : Int32) => ix u3 11 (ix u3 11 (lt (wI T (R a0 33) u3.toNatClampNeg ((T.1 (R a0 33) u3.toNatClampNeg) + 1)) (fun (T4 : Mm) => ix u3 11 (bd1 (pX12_greater R T4 x2 (T4.1 (R a0 33) u3.toNatClampNeg)) (fun (u5 : Int32) => lt (x3 + 1) (fun (v6 : Int32) => r25 T4 u5 v6))))))))
def pX12_leftBy_80 (R : Rf) (a0 : Nat) (x1 : Int32) (T : Mm) (x2 : Int32) : Option (Int32 × Mm) :=
  some (x2, T)
def pX12_leftBy_21 (R : Rf) (a0 : Nat) (x1 : Int32) (T : Mm) : Option (Int32 × Mm) :=
  zl3 (pX12_leftBy_25 R a0 x1 (pX12_leftBy_80 R a0 x1)) FU T 0 1
def pX12_leftBy (R : Rf) (T : Mm) (a0 : Nat) (x1 : Int32) : Option (Int32 × Mm) :=
  zl2 (pX12_leftBy_2 R a0 x1 (pX12_leftBy_21 R a0 x1)) FU T 0
set_option maxRecDepth 100000 in
set_option maxHeartbeats 4000000 in
theorem wX12_leftBy_2 {X : Cx} {g : Gl} {l : Launch} {R : Rf} {a0 : Nat} {x1 : Int32} (K : Ok X g l cX12_leftBy RX12 5 (some .int) rmX12_leftBy) (hR : Ty g R) (k0 : kd g a0 = 12) {r : Int32 × Mm} {e21 : Mm → Option (Int32 × Mm)} (he21 : ∀ (T : Mm), e21 T = some r → Zj X g 5 (QI X g r.1 R r.2) R T [some (.ref (g.2.2.1 a0)), some (.int x1), none, none, none] [] 21) : ∀ (n : Nat) (T : Mm) (x2 : Int32), zl2 (pX12_leftBy_2 R a0 x1 e21) n T x2 = some r → Zj X g 5 (QI X g r.1 R r.2) R T [some (.ref (g.2.2.1 a0)), some (.int x1), some (.int x2), none, none] [] 2 := by
  intro n
  induction n with
  | zero =>
    intro T x2 h
    exact absurd h (by simp [zl2])
  | succ n hr2 =>
    intro T x2 h
    rw [zl2_s] at h
    unfold pX12_leftBy_2 at h
    refine z_iload_n K dX12_leftBy_2 rfl ?_
    refine z_bipush K 11 dX12_leftBy_3 rfl ?_
    refine z_icmp_ge K 21 dX12_leftBy_5 (by decide) (fun c => ?_) (fun c => ?_)
    · have h := ite_t h c
      refine Zj.mask [true, true, false, false, false] ?_
      exact he21 _ h
    · have h := ite_f h c
      refine z_aload_n K dX12_leftBy_8 rfl ?_
      refine z_getR K clX12 k0 33 rfl rfl q1371 dX12_leftBy_9 ?_
      refine z_iload_n K dX12_leftBy_12 rfl ?_
      refine z_iconst K 0 dX12_leftBy_13 rfl ?_
      obtain ⟨hi, h⟩ := ix_e h
      refine z_iast K (hR.at (k := 33) (t := 20011) k0 rfl rfl) rfl rfl rfl hi dX12_leftBy_14 ?_
      refine z_iinc K 1 dX12_leftBy_15 rfl rfl rfl rfl ?_
      refine z_goto K 2 dX12_leftBy_18 (by decide) ?_
      refine Zj.mask [true, true, true, false, false] ?_
      exact hr2 _ _ h
set_option maxRecDepth 100000 in
set_option maxHeartbeats 4000000 in
theorem wX12_leftBy_25 {X : Cx} {g : Gl} {l : Launch} {R : Rf} {a0 : Nat} {x1 : Int32} (K : Ok X g l cX12_leftBy RX12 5 (some .int) rmX12_leftBy) (hR : Ty g R) (k0 : kd g a0 = 12) {r : Int32 × Mm} {e80 : Mm → Int32 → Option (Int32 × Mm)} (he80 : ∀ (T : Mm) (x2 : Int32), e80 T x2 = some r → Zj X g 5 (QI X g r.1 R r.2) R T [none, none, some (.int x2), none, none] [] 80) : ∀ (n : Nat) (T : Mm) (x2 : Int32) (x3 : Int32), zl3 (pX12_leftBy_25 R a0 x1 e80) n T x2 x3 = some r → Zj X g 5 (QI X g r.1 R r.2) R T [some (.ref (g.2.2.1 a0)), some (.int x1), some (.int x2), some (.int x3), none] [] 25 := by
  intro n
  induction n with
  | zero =>
    intro T x2 x3 h
    exact absurd h (by simp [zl3])
  | succ n hr25 =>
    intro T x2 x3 h
    rw [zl3_s] at h
    unfold pX12_leftBy_25 at h
    refine z_iload_n K dX12_leftBy_25 rfl ?_
    refine z_bipush K 30 dX12_leftBy_26 rfl ?_
    refine z_icmp_gt K 80 dX12_leftBy_28 (by decide) (fun c => ?_) (fun c => ?_)
    · have h := ite_t h c
      refine Zj.mask [false, false, true, false, false] ?_
      exact he80 _ _ h
    · have h := ite_f h c
      refine z_aload_n K dX12_leftBy_31 rfl ?_
      refine z_getR K clX12 k0 32 rfl rfl q1370 dX12_leftBy_32 ?_
      refine z_iload_n K dX12_leftBy_35 rfl ?_
      obtain ⟨hi, h⟩ := ix_e h
      refine z_zald K (hR.at (k := 32) (t := 40031) k0 rfl rfl) rfl rfl rfl hi dX12_leftBy_36 ?_
      refine z_if_ne K 43 dX12_leftBy_37 (by decide) (fun c => ?_) (fun c => ?_)
      · have h := ite_f h c
        refine z_aload_n K dX12_leftBy_43 rfl ?_
        refine z_iload_n K dX12_leftBy_44 rfl ?_
        refine z_iload_n K dX12_leftBy_45 rfl ?_
        obtain ⟨u3, hc, h⟩ := bd1_e h
        refine z_callVI K (mX12_partsBy l hR k0 hc) clX12 k0 ceX12_partsBy q1802 ⟨rfl, rfl, rfl, rfl⟩ rfl rfl rfl dX12_leftBy_46 ?_
        refine z_istore K dX12_leftBy_49 rfl rfl ?_
        refine z_aload_n K dX12_leftBy_51 rfl ?_
        refine z_getR K clX12 k0 33 rfl rfl q1371 dX12_leftBy_52 ?_
        refine z_iload K dX12_leftBy_55 rfl ?_
        refine z_dup2 K dX12_leftBy_57 rfl rfl ?_
        obtain ⟨hi, h⟩ := ix_e h
        refine z_iald K (hR.at (k := 33) (t := 20011) k0 rfl rfl) rfl rfl rfl hi dX12_leftBy_58 ?_
        refine z_iconst K 1 dX12_leftBy_59 rfl ?_
        refine z_iadd K dX12_leftBy_60 ?_
        obtain ⟨hi, h⟩ := ix_e h
        refine z_iast K (hR.at (k := 33) (t := 20011) k0 rfl rfl) rfl rfl rfl hi dX12_leftBy_61 ?_
        refine z_iload_n K dX12_leftBy_62 rfl ?_
        refine z_aload_n K dX12_leftBy_63 rfl ?_
        refine z_getR K clX12 k0 33 rfl rfl q1371 dX12_leftBy_64 ?_
        refine z_iload K dX12_leftBy_67 rfl ?_
        obtain ⟨hi, h⟩ := ix_e h
        refine z_iald K (hR.at (k := 33) (t := 20011) k0 rfl rfl) rfl rfl rfl hi dX12_leftBy_69 ?_
        obtain ⟨u5, hc, h⟩ := bd1_e h
        refine z_callSI K (mX12_greater l hR hc) ceX12_greater q1810 ⟨rfl, rfl, rfl, rfl⟩ rfl rfl rfl dX12_leftBy_70 ?_
        refine z_istore_n K dX12_leftBy_73 rfl rfl ?_
        refine z_iinc K 1 dX12_leftBy_74 rfl rfl rfl rfl ?_
        refine z_goto K 25 dX12_leftBy_77 (by decide) ?_
        refine Zj.mask [true, true, true, true, false] ?_
        exact hr25 _ _ _ h
      · have h := ite_t h c
        refine z_goto K 74 dX12_leftBy_40 (by decide) ?_
        refine z_iinc K 1 dX12_leftBy_74 rfl rfl rfl rfl ?_
        refine z_goto K 25 dX12_leftBy_77 (by decide) ?_
        refine Zj.mask [true, true, true, true, false] ?_
        exact hr25 _ _ _ h
set_option maxRecDepth 100000 in
set_option maxHeartbeats 4000000 in
theorem wX12_leftBy_80 {X : Cx} {g : Gl} {l : Launch} {R : Rf} {a0 : Nat} {x1 : Int32} (K : Ok X g l cX12_leftBy RX12 5 (some .int) rmX12_leftBy) (hR : Ty g R) (k0 : kd g a0 = 12) {r : Int32 × Mm} (T : Mm) (x2 : Int32) (h : pX12_leftBy_80 R a0 x1 T x2 = some r) : Zj X g 5 (QI X g r.1 R r.2) R T [none, none, some (.int x2), none, none] [] 80 := by
  unfold pX12_leftBy_80 at h
  refine z_iload_n K dX12_leftBy_80 rfl ?_
  obtain rfl := Option.some.inj h
  exact z_iret K dX12_leftBy_81
set_option maxRecDepth 100000 in
set_option maxHeartbeats 4000000 in
theorem wX12_leftBy_21 {X : Cx} {g : Gl} {l : Launch} {R : Rf} {a0 : Nat} {x1 : Int32} (K : Ok X g l cX12_leftBy RX12 5 (some .int) rmX12_leftBy) (hR : Ty g R) (k0 : kd g a0 = 12) {r : Int32 × Mm} (T : Mm) (h : pX12_leftBy_21 R a0 x1 T = some r) : Zj X g 5 (QI X g r.1 R r.2) R T [some (.ref (g.2.2.1 a0)), some (.int x1), none, none, none] [] 21 := by
  unfold pX12_leftBy_21 at h
  refine z_iconst K 0 dX12_leftBy_21 rfl ?_
  refine z_istore_n K dX12_leftBy_22 rfl rfl ?_
  refine z_iconst K 1 dX12_leftBy_23 rfl ?_
  refine z_istore_n K dX12_leftBy_24 rfl rfl ?_
  refine Zj.mask [true, true, true, true, false] ?_
  exact wX12_leftBy_25 K hR k0 (wX12_leftBy_80 K hR k0) FU _ _ _ h
set_option maxRecDepth 100000 in
set_option maxHeartbeats 4000000 in
theorem mX12_leftBy {g : Gl} {R : Rf} {T : Mm} {a0 : Nat} {x1 : Int32} (l : Launch) (hR : Ty g R) (k0 : kd g a0 = 12) {r : Int32 × Mm} (h : pX12_leftBy R T a0 x1 = some r) : MI l g yX12_leftBy cX12_leftBy 5 (some .int) rmX12_leftBy [.ref (g.2.2.1 a0), .int x1] R T r.1 R r.2 := by
  refine z_metI (own := RX12) (lv := [some (.ref (g.2.2.1 a0)), some (.int x1), none, none, none]) (by decide +kernel) rfl rfl rfl (fun X K => ?_)
  unfold pX12_leftBy at h
  refine z_iconst K 0 dX12_leftBy_0 rfl ?_
  refine z_istore_n K dX12_leftBy_1 rfl rfl ?_
  refine Zj.mask [true, true, true, false, false] ?_
  exact wX12_leftBy_2 K hR k0 (wX12_leftBy_21 K hR k0) FU _ _ h
/-! GoingOverModel.heights ()I -/
abbrev rmX12_heights : Room := { frames := 5, cells := 0, slots := 0, locals := 120 }
def pX12_heights_39 (R : Rf) (a0 : Nat) (e59 : Mm → Option (Int32 × Mm)) (e67 : Mm → Option (Int32 × Mm)) (r39 : Mm → Int32 → Option (Int32 × Mm)) (T : Mm) (x1 : Int32) : Option (Int32 × Mm) :=
  if (T.1 a0 3) ≤ x1 then e67 T else bd1 (pX12_octet R T a0 x1) (fun (u4 : Int32) => bd1 (pX12_isPerson R T a0 u4) (fun (u5 : Int32) => if u5 = 0 then e59 T else lt (x1 + 2) (fun (v6 : Int32) => r39 T v6)))
def pX12_heights_59 (R : Rf) (a0 : Nat) (T : Mm) : Option (Int32 × Mm) :=
  some ((-1), T)
def pX12_heights_74 (R : Rf) (a0 : Nat) (e112 : Mm → Int32 → Int32 → Option (Int32 × Mm)) (r74 : Mm → Int32 → Int32 → Int32 → Option (Int32 × Mm)) (T : Mm) (x1 : Int32) (x2 : Int32) (x3 : Int32) : Option (Int32 × Mm) :=
  if x3 ≤ 0 then e112 T x1 x2 else bd1 (pX12_isHeight R T a0 x3) (fun (u7 : Int32) => ix x3 31 (bz u7 (lt (wI T (R a0 32) x3.toNatClampNeg u7) (fun (T8 : Mm) => ix x3 31 (if (T8.1 (R a0 32) x3.toNatClampNeg) = 0 then lt (x3 + (-1)) (fun (v11 : Int32) => r74 T8 x1 x2 v11) else lt (x1 + 1) (fun (v9 : Int32) => lt (x3 + (-1)) (fun (v10 : Int32) => r74 T8 v9 x3 v10)))))))
def pX12_heights_135 (R : Rf) (a0 : Nat) (e178 : Mm → Int32 → Option (Int32 × Mm)) (r135 : Mm → Int32 → Int32 → Int32 → Option (Int32 × Mm)) (T : Mm) (x1 : Int32) (x3 : Int32) (x4 : Int32) : Option (Int32 × Mm) :=
  ix 0 270 (if (T.1 (R a0 6) (0 : Int32).toNatClampNeg) ≤ x4 then e178 T x1 else bd2 (pX12_leftBy R T a0 x4) (fun (u14 : Int32) (T14 : Mm) => if u14 < x3 then lt (wI T14 a0 30 x4) (fun (T15 : Mm) => lt (x4 + 1) (fun (v16 : Int32) => r135 T15 x1 u14 v16)) else lt (x4 + 1) (fun (v17 : Int32) => r135 T14 x1 x3 v17)))
def pX12_heights_178 (R : Rf) (a0 : Nat) (T : Mm) (x1 : Int32) : Option (Int32 × Mm) :=
  some (x1, T)
def pX12_heights_112 (R : Rf) (a0 : Nat) (T : Mm) (x1 : Int32) (x2 : Int32) : Option (Int32 × Mm) :=
  if x1 = 0 then some (0, T) else lt (wI T a0 31 1) (fun (T12 : Mm) => lt (wI T12 a0 29 x2) (fun (T13 : Mm) => zl4 (pX12_heights_135 R a0 (pX12_heights_178 R a0)) FU T13 x1 1000000 0))
def pX12_heights_67 (R : Rf) (a0 : Nat) (T : Mm) : Option (Int32 × Mm) :=
  zl4 (pX12_heights_74 R a0 (pX12_heights_112 R a0)) FU T 0 0 30
def pX12_heights (R : Rf) (T : Mm) (a0 : Nat) : Option (Int32 × Mm) :=
  lt (wI T a0 0 0) (fun (T1 : Mm) => bd1 (pX12_taken R T1 a0 940) (fun (T2 : Mm) => bd1 (pX12_isIn R T2 (T2.1 a0 3) 2 10) (fun (u3 : Int32) => if u3 = 0 then some ((-1), T2) else if ((T2.1 a0 3) - (T2.1 a0 3) / 2 * 2) = 1 then some ((-1), T2) else zl2 (pX12_heights_39 R a0 (pX12_heights_59 R a0) (pX12_heights_67 R a0)) FU T2 0)))
set_option maxRecDepth 100000 in
set_option maxHeartbeats 4000000 in
theorem wX12_heights_39 {X : Cx} {g : Gl} {l : Launch} {R : Rf} {a0 : Nat} (K : Ok X g l cX12_heights RX12 6 (some .int) rmX12_heights) (hR : Ty g R) (k0 : kd g a0 = 12) {r : Int32 × Mm} {e59 : Mm → Option (Int32 × Mm)} (he59 : ∀ (T : Mm), e59 T = some r → Zj X g 6 (QI X g r.1 R r.2) R T [none, none, none, none, none, none] [] 59) {e67 : Mm → Option (Int32 × Mm)} (he67 : ∀ (T : Mm), e67 T = some r → Zj X g 6 (QI X g r.1 R r.2) R T [some (.ref (g.2.2.1 a0)), none, none, none, none, none] [] 67) : ∀ (n : Nat) (T : Mm) (x1 : Int32), zl2 (pX12_heights_39 R a0 e59 e67) n T x1 = some r → Zj X g 6 (QI X g r.1 R r.2) R T [some (.ref (g.2.2.1 a0)), some (.int x1), none, none, none, none] [] 39 := by
  intro n
  induction n with
  | zero =>
    intro T x1 h
    exact absurd h (by simp [zl2])
  | succ n hr39 =>
    intro T x1 h
    rw [zl2_s] at h
    unfold pX12_heights_39 at h
    refine z_iload_n K dX12_heights_39 rfl ?_
    refine z_aload_n K dX12_heights_40 rfl ?_
    refine z_getI K clX12 k0 3 rfl rfl q1341 dX12_heights_41 ?_
    refine z_icmp_ge K 67 dX12_heights_44 (by decide) (fun c => ?_) (fun c => ?_)
    · have h := ite_t h c
      refine Zj.mask [true, false, false, false, false, false] ?_
      exact he67 _ h
    · have h := ite_f h c
      refine z_aload_n K dX12_heights_47 rfl ?_
      refine z_aload_n K dX12_heights_48 rfl ?_
      refine z_iload_n K dX12_heights_49 rfl ?_
      obtain ⟨u4, hc, h⟩ := bd1_e h
      refine z_callVI K (mX12_octet l hR k0 hc) clX12 k0 ceX12_octet q1789 ⟨rfl, rfl, rfl, rfl⟩ rfl rfl rfl dX12_heights_50 ?_
      obtain ⟨u5, hc, h⟩ := bd1_e h
      refine z_callVI K (mX12_isPerson l hR k0 hc) clX12 k0 ceX12_isPerson q1590 ⟨rfl, rfl, rfl, rfl⟩ rfl rfl rfl dX12_heights_53 ?_
      refine z_if_ne K 61 dX12_heights_56 (by decide) (fun c => ?_) (fun c => ?_)
      · have h := ite_f h c
        refine z_iinc K 2 dX12_heights_61 rfl rfl rfl rfl ?_
        refine z_goto K 39 dX12_heights_64 (by decide) ?_
        refine Zj.mask [true, true, false, false, false, false] ?_
        exact hr39 _ _ h
      · have h := ite_t h c
        refine Zj.mask [false, false, false, false, false, false] ?_
        exact he59 _ h
set_option maxRecDepth 100000 in
set_option maxHeartbeats 4000000 in
theorem wX12_heights_59 {X : Cx} {g : Gl} {l : Launch} {R : Rf} {a0 : Nat} (K : Ok X g l cX12_heights RX12 6 (some .int) rmX12_heights) (hR : Ty g R) (k0 : kd g a0 = 12) {r : Int32 × Mm} (T : Mm) (h : pX12_heights_59 R a0 T = some r) : Zj X g 6 (QI X g r.1 R r.2) R T [none, none, none, none, none, none] [] 59 := by
  unfold pX12_heights_59 at h
  refine z_iconst K (-1) dX12_heights_59 rfl ?_
  obtain rfl := Option.some.inj h
  exact z_iret K dX12_heights_60
set_option maxRecDepth 100000 in
set_option maxHeartbeats 4000000 in
theorem wX12_heights_74 {X : Cx} {g : Gl} {l : Launch} {R : Rf} {a0 : Nat} (K : Ok X g l cX12_heights RX12 6 (some .int) rmX12_heights) (hR : Ty g R) (k0 : kd g a0 = 12) {r : Int32 × Mm} {e112 : Mm → Int32 → Int32 → Option (Int32 × Mm)} (he112 : ∀ (T : Mm) (x1 : Int32) (x2 : Int32), e112 T x1 x2 = some r → Zj X g 6 (QI X g r.1 R r.2) R T [some (.ref (g.2.2.1 a0)), some (.int x1), some (.int x2), none, none, none] [] 112) : ∀ (n : Nat) (T : Mm) (x1 : Int32) (x2 : Int32) (x3 : Int32), zl4 (pX12_heights_74 R a0 e112) n T x1 x2 x3 = some r → Zj X g 6 (QI X g r.1 R r.2) R T [some (.ref (g.2.2.1 a0)), some (.int x1), some (.int x2), some (.int x3), none, none] [] 74 := by
  intro n
  induction n with
  | zero =>
    intro T x1 x2 x3 h
    exact absurd h (by simp [zl4])
  | succ n hr74 =>
    intro T x1 x2 x3 h
    rw [zl4_s] at h
    unfold pX12_heights_74 at h
    refine z_iload_n K dX12_heights_74 rfl ?_
    refine z_if_le K 112 dX12_heights_75 (by decide) (fun c => ?_) (fun c => ?_)
    · have h := ite_t h c
      refine Zj.mask [true, true, true, false, false, false] ?_
      exact he112 _ _ _ h
    · have h := ite_f h c
      refine z_aload_n K dX12_heights_78 rfl ?_
      refine z_getR K clX12 k0 32 rfl rfl q1370 dX12_heights_79 ?_
      refine z_iload_n K dX12_heights_82 rfl ?_
      refine z_aload_n K dX12_heights_83 rfl ?_
      refine z_iload_n K dX12_heights_84 rfl ?_
      obtain ⟨u7, hc, h⟩ := bd1_e h
      refine z_callVI K (mX12_isHeight l hR k0 hc) clX12 k0 ceX12_isHeight q1798 ⟨rfl, rfl, rfl, rfl⟩ rfl rfl rfl dX12_heights_85 ?_
      obtain ⟨hi, h⟩ := ix_e h
      obtain ⟨hz, hf, h⟩ := bz_e h
      refine z_zast K (hR.at (k := 32) (t := 40031) k0 rfl rfl) rfl rfl rfl hi hz dX12_heights_88 ?_
      refine z_aload_n K dX12_heights_89 rfl ?_
      refine z_getR K clX12 k0 32 rfl rfl q1370 dX12_heights_90 ?_
      refine z_iload_n K dX12_heights_93 rfl ?_
      obtain ⟨hi, h⟩ := ix_e h
      refine z_zald K (hR.at (k := 32) (t := 40031) k0 rfl rfl) rfl rfl rfl hi dX12_heights_94 ?_
      refine z_if_ne K 101 dX12_heights_95 (by decide) (fun c => ?_) (fun c => ?_)
      · have h := ite_f h c
        refine z_iinc K 1 dX12_heights_101 rfl rfl rfl rfl ?_
        refine z_iload_n K dX12_heights_104 rfl ?_
        refine z_istore_n K dX12_heights_105 rfl rfl ?_
        refine z_iinc K (-1) dX12_heights_106 rfl rfl rfl rfl ?_
        refine z_goto K 74 dX12_heights_109 (by decide) ?_
        refine Zj.mask [true, true, true, true, false, false] ?_
        exact hr74 _ _ _ _ h
      · have h := ite_t h c
        refine z_goto K 106 dX12_heights_98 (by decide) ?_
        refine z_iinc K (-1) dX12_heights_106 rfl rfl rfl rfl ?_
        refine z_goto K 74 dX12_heights_109 (by decide) ?_
        refine Zj.mask [true, true, true, true, false, false] ?_
        exact hr74 _ _ _ _ h
set_option maxRecDepth 100000 in
set_option maxHeartbeats 4000000 in
theorem wX12_heights_135 {X : Cx} {g : Gl} {l : Launch} {R : Rf} {a0 : Nat} (K : Ok X g l cX12_heights RX12 6 (some .int) rmX12_heights) (hR : Ty g R) (k0 : kd g a0 = 12) {r : Int32 × Mm} {e178 : Mm → Int32 → Option (Int32 × Mm)} (he178 : ∀ (T : Mm) (x1 : Int32), e178 T x1 = some r → Zj X g 6 (QI X g r.1 R r.2) R T [none, some (.int x1), none, none, none, none] [] 178) : ∀ (n : Nat) (T : Mm) (x1 : Int32) (x3 : Int32) (x4 : Int32), zl4 (pX12_heights_135 R a0 e178) n T x1 x3 x4 = some r → Zj X g 6 (QI X g r.1 R r.2) R T [some (.ref (g.2.2.1 a0)), some (.int x1), none, some (.int x3), some (.int x4), none] [] 135 := by
  intro n
  induction n with
  | zero =>
    intro T x1 x3 x4 h
    exact absurd h (by simp [zl4])
  | succ n hr135 =>
    intro T x1 x3 x4 h
    rw [zl4_s] at h
    unfold pX12_heights_135 at h
    refine z_iload K dX12_heights_135 rfl ?_
    refine z_aload_n K dX12_heights_137 rfl ?_
    refine z_getR K clX12 k0 6 rfl rfl q1344 dX12_heights_138 ?_
    refine z_iconst K 0 dX12_heights_141 rfl ?_
    obtain ⟨hi, h⟩ := ix_e h
    refine z_iald K (hR.at (k := 6) (t := 20270) k0 rfl rfl) rfl rfl rfl hi dX12_heights_142 ?_
    refine z_icmp_ge K 178 dX12_heights_143 (by decide) (fun c => ?_) (fun c => ?_)
    · have h := ite_t h c
      refine Zj.mask [false, true, false, false, false, false] ?_
      exact he178 _ _ h
    · have h := ite_f h c
      refine z_aload_n K dX12_heights_146 rfl ?_
      refine z_iload K dX12_heights_147 rfl ?_
      obtain ⟨u14, T14, hc, h⟩ := bd2_e h
      refine z_callVI K (mX12_leftBy l hR k0 hc) clX12 k0 ceX12_leftBy q1806 ⟨rfl, rfl, rfl, rfl⟩ rfl rfl rfl dX12_heights_149 ?_
      refine z_istore K dX12_heights_152 rfl rfl ?_
      refine z_iload K dX12_heights_154 rfl ?_
      refine z_iload_n K dX12_heights_156 rfl ?_
      refine z_icmp_lt K 163 dX12_heights_157 (by decide) (fun c => ?_) (fun c => ?_)
      · have h := ite_t h c
        refine z_iload K dX12_heights_163 rfl ?_
        refine z_istore_n K dX12_heights_165 rfl rfl ?_
        refine z_aload_n K dX12_heights_166 rfl ?_
        refine z_iload K dX12_heights_167 rfl ?_
        refine z_putI K clX12 tyX12_ok nmX12 k0 30 rfl rfl q1368 rfl rfl rfl dX12_heights_169 ?_
        refine z_iinc K 1 dX12_heights_172 rfl rfl rfl rfl ?_
        refine z_goto K 135 dX12_heights_175 (by decide) ?_
        refine Zj.mask [true, true, false, true, true, false] ?_
        exact hr135 _ _ _ _ h
      · have h := ite_f h c
        refine z_goto K 172 dX12_heights_160 (by decide) ?_
        refine z_iinc K 1 dX12_heights_172 rfl rfl rfl rfl ?_
        refine z_goto K 135 dX12_heights_175 (by decide) ?_
        refine Zj.mask [true, true, false, true, true, false] ?_
        exact hr135 _ _ _ _ h
set_option maxRecDepth 100000 in
set_option maxHeartbeats 4000000 in
theorem wX12_heights_178 {X : Cx} {g : Gl} {l : Launch} {R : Rf} {a0 : Nat} (K : Ok X g l cX12_heights RX12 6 (some .int) rmX12_heights) (hR : Ty g R) (k0 : kd g a0 = 12) {r : Int32 × Mm} (T : Mm) (x1 : Int32) (h : pX12_heights_178 R a0 T x1 = some r) : Zj X g 6 (QI X g r.1 R r.2) R T [none, some (.int x1), none, none, none, none] [] 178 := by
  unfold pX12_heights_178 at h
  refine z_iload_n K dX12_heights_178 rfl ?_
  obtain rfl := Option.some.inj h
  exact z_iret K dX12_heights_179
set_option maxRecDepth 100000 in
set_option maxHeartbeats 4000000 in
theorem wX12_heights_112 {X : Cx} {g : Gl} {l : Launch} {R : Rf} {a0 : Nat} (K : Ok X g l cX12_heights RX12 6 (some .int) rmX12_heights) (hR : Ty g R) (k0 : kd g a0 = 12) {r : Int32 × Mm} (T : Mm) (x1 : Int32) (x2 : Int32) (h : pX12_heights_112 R a0 T x1 x2 = some r) : Zj X g 6 (QI X g r.1 R r.2) R T [some (.ref (g.2.2.1 a0)), some (.int x1), some (.int x2), none, none, none] [] 112 := by
  unfold pX12_heights_112 at h
  refine z_iload_n K dX12_heights_112 rfl ?_
  refine z_if_ne K 118 dX12_heights_113 (by decide) (fun c => ?_) (fun c => ?_)
  · have h := ite_f h c
    refine z_aload_n K dX12_heights_118 rfl ?_
    refine z_iconst K 1 dX12_heights_119 rfl ?_
    refine z_putI K clX12 tyX12_ok nmX12 k0 31 rfl rfl q1369 rfl rfl rfl dX12_heights_120 ?_
    refine z_aload_n K dX12_heights_123 rfl ?_
    refine z_iload_n K dX12_heights_124 rfl ?_
    refine z_putI K clX12 tyX12_ok nmX12 k0 29 rfl rfl q1367 rfl rfl rfl dX12_heights_125 ?_
    refine z_ldcw K 1000000 q1793 dX12_heights_128 ?_
    refine z_istore_n K dX12_heights_131 rfl rfl ?_
    refine z_iconst K 0 dX12_heights_132 rfl ?_
    refine z_istore K dX12_heights_133 rfl rfl ?_
    refine Zj.mask [true, true, false, true, true, false] ?_
    exact wX12_heights_135 K hR k0 (wX12_heights_178 K hR k0) FU _ _ _ _ h
  · have h := ite_t h c
    refine z_iconst K 0 dX12_heights_116 rfl ?_
    obtain rfl := Option.some.inj h
    exact z_iret K dX12_heights_117
set_option maxRecDepth 100000 in
set_option maxHeartbeats 4000000 in
theorem wX12_heights_67 {X : Cx} {g : Gl} {l : Launch} {R : Rf} {a0 : Nat} (K : Ok X g l cX12_heights RX12 6 (some .int) rmX12_heights) (hR : Ty g R) (k0 : kd g a0 = 12) {r : Int32 × Mm} (T : Mm) (h : pX12_heights_67 R a0 T = some r) : Zj X g 6 (QI X g r.1 R r.2) R T [some (.ref (g.2.2.1 a0)), none, none, none, none, none] [] 67 := by
  unfold pX12_heights_67 at h
  refine z_iconst K 0 dX12_heights_67 rfl ?_
  refine z_istore_n K dX12_heights_68 rfl rfl ?_
  refine z_iconst K 0 dX12_heights_69 rfl ?_
  refine z_istore_n K dX12_heights_70 rfl rfl ?_
  refine z_bipush K 30 dX12_heights_71 rfl ?_
  refine z_istore_n K dX12_heights_73 rfl rfl ?_
  refine Zj.mask [true, true, true, true, false, false] ?_
  exact wX12_heights_74 K hR k0 (wX12_heights_112 K hR k0) FU _ _ _ _ h
set_option maxRecDepth 100000 in
set_option maxHeartbeats 4000000 in
theorem mX12_heights {g : Gl} {R : Rf} {T : Mm} {a0 : Nat} (l : Launch) (hR : Ty g R) (k0 : kd g a0 = 12) {r : Int32 × Mm} (h : pX12_heights R T a0 = some r) : MI l g yX12_heights cX12_heights 6 (some .int) rmX12_heights [.ref (g.2.2.1 a0)] R T r.1 R r.2 := by
  refine z_metI (own := RX12) (lv := [some (.ref (g.2.2.1 a0)), none, none, none, none, none]) (by decide +kernel) rfl rfl rfl (fun X K => ?_)
  unfold pX12_heights at h
  refine z_aload_n K dX12_heights_0 rfl ?_
  refine z_iconst K 0 dX12_heights_1 rfl ?_
  refine z_putI K clX12 tyX12_ok nmX12 k0 0 rfl rfl q1338 rfl rfl rfl dX12_heights_2 ?_
  refine z_aload_n K dX12_heights_5 rfl ?_
  refine z_sipush K 940 dX12_heights_6 rfl ?_
  obtain ⟨T2, hc, h⟩ := bd1_e h
  refine z_callVV K (mX12_taken l hR k0 hc) clX12 k0 ceX12_taken q1494 ⟨rfl, rfl, rfl, rfl⟩ rfl rfl rfl dX12_heights_9 ?_
  refine z_aload_n K dX12_heights_12 rfl ?_
  refine z_getI K clX12 k0 3 rfl rfl q1341 dX12_heights_13 ?_
  refine z_iconst K 2 dX12_heights_16 rfl ?_
  refine z_bipush K 10 dX12_heights_17 rfl ?_
  obtain ⟨u3, hc, h⟩ := bd1_e h
  refine z_callSI K (mX12_isIn l hR hc) ceX12_isIn q1539 ⟨rfl, rfl, rfl, rfl⟩ rfl rfl rfl dX12_heights_19 ?_
  refine z_if_eq K 35 dX12_heights_22 (by decide) (fun c => ?_) (fun c => ?_)
  · have h := ite_t h c
    refine z_iconst K (-1) dX12_heights_35 rfl ?_
    obtain rfl := Option.some.inj h
    exact z_iret K dX12_heights_36
  · have h := ite_f h c
    refine z_aload_n K dX12_heights_25 rfl ?_
    refine z_getI K clX12 k0 3 rfl rfl q1341 dX12_heights_26 ?_
    refine z_iconst K 2 dX12_heights_29 rfl ?_
    refine z_irem K dX12_heights_30 (by decide) ?_
    refine z_iconst K 1 dX12_heights_31 rfl ?_
    refine z_icmp_ne K 37 dX12_heights_32 (by decide) (fun c => ?_) (fun c => ?_)
    · have h := ite_f h c
      refine z_iconst K 0 dX12_heights_37 rfl ?_
      refine z_istore_n K dX12_heights_38 rfl rfl ?_
      refine Zj.mask [true, true, false, false, false, false] ?_
      exact wX12_heights_39 K hR k0 (wX12_heights_59 K hR k0) (wX12_heights_67 K hR k0) FU _ _ h
    · have h := ite_t h c
      refine z_iconst K (-1) dX12_heights_35 rfl ?_
      obtain rfl := Option.some.inj h
      exact z_iret K dX12_heights_36
/-! GoingOverModel.lowest ()I -/
abbrev rmX12_lowest : Room := { frames := 0, cells := 0, slots := 0, locals := 0 }
def pX12_lowest (R : Rf) (T : Mm) (a0 : Nat) : Option (Int32 × Mm) :=
  lt (wI T a0 0 0) (fun (T1 : Mm) => if (T1.1 a0 31) = 0 then some ((-1), T1) else some (T1.1 a0 29, T1))
set_option maxRecDepth 100000 in
set_option maxHeartbeats 4000000 in
theorem mX12_lowest {g : Gl} {R : Rf} {T : Mm} {a0 : Nat} (l : Launch) (hR : Ty g R) (k0 : kd g a0 = 12) {r : Int32 × Mm} (h : pX12_lowest R T a0 = some r) : MI l g yX12_lowest cX12_lowest 1 (some .int) rmX12_lowest [.ref (g.2.2.1 a0)] R T r.1 R r.2 := by
  refine z_metI (own := RX12) (lv := [some (.ref (g.2.2.1 a0))]) (by decide +kernel) rfl rfl rfl (fun X K => ?_)
  unfold pX12_lowest at h
  refine z_aload_n K dX12_lowest_0 rfl ?_
  refine z_iconst K 0 dX12_lowest_1 rfl ?_
  refine z_putI K clX12 tyX12_ok nmX12 k0 0 rfl rfl q1338 rfl rfl rfl dX12_lowest_2 ?_
  refine z_aload_n K dX12_lowest_5 rfl ?_
  refine z_getI K clX12 k0 31 rfl rfl q1369 dX12_lowest_6 ?_
  refine z_if_eq K 19 dX12_lowest_9 (by decide) (fun c => ?_) (fun c => ?_)
  · have h := ite_t h c
    refine z_iconst K (-1) dX12_lowest_19 rfl ?_
    obtain rfl := Option.some.inj h
    exact z_iret K dX12_lowest_20
  · have h := ite_f h c
    refine z_aload_n K dX12_lowest_12 rfl ?_
    refine z_getI K clX12 k0 29 rfl rfl q1367 dX12_lowest_13 ?_
    refine z_goto K 20 dX12_lowest_16 (by decide) ?_
    obtain rfl := Option.some.inj h
    exact z_iret K dX12_lowest_20
/-! GoingOverModel.watch ()I -/
abbrev rmX12_watch : Room := { frames := 0, cells := 0, slots := 0, locals := 0 }
def pX12_watch (R : Rf) (T : Mm) (a0 : Nat) : Option (Int32 × Mm) :=
  lt (wI T a0 0 0) (fun (T1 : Mm) => if (T1.1 a0 31) = 0 then some ((-1), T1) else some (T1.1 a0 30, T1))
set_option maxRecDepth 100000 in
set_option maxHeartbeats 4000000 in
theorem mX12_watch {g : Gl} {R : Rf} {T : Mm} {a0 : Nat} (l : Launch) (hR : Ty g R) (k0 : kd g a0 = 12) {r : Int32 × Mm} (h : pX12_watch R T a0 = some r) : MI l g yX12_watch cX12_watch 1 (some .int) rmX12_watch [.ref (g.2.2.1 a0)] R T r.1 R r.2 := by
  refine z_metI (own := RX12) (lv := [some (.ref (g.2.2.1 a0))]) (by decide +kernel) rfl rfl rfl (fun X K => ?_)
  unfold pX12_watch at h
  refine z_aload_n K dX12_watch_0 rfl ?_
  refine z_iconst K 0 dX12_watch_1 rfl ?_
  refine z_putI K clX12 tyX12_ok nmX12 k0 0 rfl rfl q1338 rfl rfl rfl dX12_watch_2 ?_
  refine z_aload_n K dX12_watch_5 rfl ?_
  refine z_getI K clX12 k0 31 rfl rfl q1369 dX12_watch_6 ?_
  refine z_if_eq K 19 dX12_watch_9 (by decide) (fun c => ?_) (fun c => ?_)
  · have h := ite_t h c
    refine z_iconst K (-1) dX12_watch_19 rfl ?_
    obtain rfl := Option.some.inj h
    exact z_iret K dX12_watch_20
  · have h := ite_f h c
    refine z_aload_n K dX12_watch_12 rfl ?_
    refine z_getI K clX12 k0 30 rfl rfl q1368 dX12_watch_13 ?_
    refine z_goto K 20 dX12_watch_16 (by decide) ?_
    obtain rfl := Option.some.inj h
    exact z_iret K dX12_watch_20
/-! GoingOverModel.heaviest ()I -/
abbrev rmX12_heaviest : Room := { frames := 3, cells := 0, slots := 0, locals := 65 }
def pX12_heaviest_9 (R : Rf) (a0 : Nat) (e44 : Mm → Int32 → Option (Int32 × Mm)) (r9 : Mm → Int32 → Int32 → Option (Int32 × Mm)) (T : Mm) (x1 : Int32) (x2 : Int32) : Option (Int32 × Mm) :=
  ix 0 270 (if (T.1 (R a0 6) (0 : Int32).toNatClampNeg) ≤ x2 then e44 T x1 else if x1 < 0 then lt (x2 + 1) (fun (v2 : Int32) => r9 T x2 v2) else bd1 (pX12_weightOf R T a0 x2) (fun (u3 : Int32) => bd1 (pX12_weightOf R T a0 x1) (fun (u4 : Int32) => if u3 ≤ u4 then lt (x2 + 1) (fun (v5 : Int32) => r9 T x1 v5) else lt (x2 + 1) (fun (v6 : Int32) => r9 T x2 v6))))
def pX12_heaviest_44 (R : Rf) (a0 : Nat) (T : Mm) (x1 : Int32) : Option (Int32 × Mm) :=
  some (x1, T)
def pX12_heaviest (R : Rf) (T : Mm) (a0 : Nat) : Option (Int32 × Mm) :=
  lt (wI T a0 0 0) (fun (T1 : Mm) => zl3 (pX12_heaviest_9 R a0 (pX12_heaviest_44 R a0)) FU T1 (-1) 0)
set_option maxRecDepth 100000 in
set_option maxHeartbeats 4000000 in
theorem wX12_heaviest_9 {X : Cx} {g : Gl} {l : Launch} {R : Rf} {a0 : Nat} (K : Ok X g l cX12_heaviest RX12 3 (some .int) rmX12_heaviest) (hR : Ty g R) (k0 : kd g a0 = 12) {r : Int32 × Mm} {e44 : Mm → Int32 → Option (Int32 × Mm)} (he44 : ∀ (T : Mm) (x1 : Int32), e44 T x1 = some r → Zj X g 3 (QI X g r.1 R r.2) R T [none, some (.int x1), none] [] 44) : ∀ (n : Nat) (T : Mm) (x1 : Int32) (x2 : Int32), zl3 (pX12_heaviest_9 R a0 e44) n T x1 x2 = some r → Zj X g 3 (QI X g r.1 R r.2) R T [some (.ref (g.2.2.1 a0)), some (.int x1), some (.int x2)] [] 9 := by
  intro n
  induction n with
  | zero =>
    intro T x1 x2 h
    exact absurd h (by simp [zl3])
  | succ n hr9 =>
    intro T x1 x2 h
    rw [zl3_s] at h
    unfold pX12_heaviest_9 at h
    refine z_iload_n K dX12_heaviest_9 rfl ?_
    refine z_aload_n K dX12_heaviest_10 rfl ?_
    refine z_getR K clX12 k0 6 rfl rfl q1344 dX12_heaviest_11 ?_
    refine z_iconst K 0 dX12_heaviest_14 rfl ?_
    obtain ⟨hi, h⟩ := ix_e h
    refine z_iald K (hR.at (k := 6) (t := 20270) k0 rfl rfl) rfl rfl rfl hi dX12_heaviest_15 ?_
    refine z_icmp_ge K 44 dX12_heaviest_16 (by decide) (fun c => ?_) (fun c => ?_)
    · have h := ite_t h c
      refine Zj.mask [false, true, false] ?_
      exact he44 _ _ h
    · have h := ite_f h c
      refine z_iload_n K dX12_heaviest_19 rfl ?_
      refine z_if_lt K 36 dX12_heaviest_20 (by decide) (fun c => ?_) (fun c => ?_)
      · have h := ite_t h c
        refine z_iload_n K dX12_heaviest_36 rfl ?_
        refine z_istore_n K dX12_heaviest_37 rfl rfl ?_
        refine z_iinc K 1 dX12_heaviest_38 rfl rfl rfl rfl ?_
        refine z_goto K 9 dX12_heaviest_41 (by decide) ?_
        refine Zj.mask [true, true, true] ?_
        exact hr9 _ _ _ h
      · have h := ite_f h c
        refine z_aload_n K dX12_heaviest_23 rfl ?_
        refine z_iload_n K dX12_heaviest_24 rfl ?_
        obtain ⟨u3, hc, h⟩ := bd1_e h
        refine z_callVI K (mX12_weightOf l hR k0 hc) clX12 k0 ceX12_weightOf q1598 ⟨rfl, rfl, rfl, rfl⟩ rfl rfl rfl dX12_heaviest_25 ?_
        refine z_aload_n K dX12_heaviest_28 rfl ?_
        refine z_iload_n K dX12_heaviest_29 rfl ?_
        obtain ⟨u4, hc, h⟩ := bd1_e h
        refine z_callVI K (mX12_weightOf l hR k0 hc) clX12 k0 ceX12_weightOf q1598 ⟨rfl, rfl, rfl, rfl⟩ rfl rfl rfl dX12_heaviest_30 ?_
        refine z_icmp_le K 38 dX12_heaviest_33 (by decide) (fun c => ?_) (fun c => ?_)
        · have h := ite_t h c
          refine z_iinc K 1 dX12_heaviest_38 rfl rfl rfl rfl ?_
          refine z_goto K 9 dX12_heaviest_41 (by decide) ?_
          refine Zj.mask [true, true, true] ?_
          exact hr9 _ _ _ h
        · have h := ite_f h c
          refine z_iload_n K dX12_heaviest_36 rfl ?_
          refine z_istore_n K dX12_heaviest_37 rfl rfl ?_
          refine z_iinc K 1 dX12_heaviest_38 rfl rfl rfl rfl ?_
          refine z_goto K 9 dX12_heaviest_41 (by decide) ?_
          refine Zj.mask [true, true, true] ?_
          exact hr9 _ _ _ h
set_option maxRecDepth 100000 in
set_option maxHeartbeats 4000000 in
theorem wX12_heaviest_44 {X : Cx} {g : Gl} {l : Launch} {R : Rf} {a0 : Nat} (K : Ok X g l cX12_heaviest RX12 3 (some .int) rmX12_heaviest) (hR : Ty g R) (k0 : kd g a0 = 12) {r : Int32 × Mm} (T : Mm) (x1 : Int32) (h : pX12_heaviest_44 R a0 T x1 = some r) : Zj X g 3 (QI X g r.1 R r.2) R T [none, some (.int x1), none] [] 44 := by
  unfold pX12_heaviest_44 at h
  refine z_iload_n K dX12_heaviest_44 rfl ?_
  obtain rfl := Option.some.inj h
  exact z_iret K dX12_heaviest_45
set_option maxRecDepth 100000 in
set_option maxHeartbeats 4000000 in
theorem mX12_heaviest {g : Gl} {R : Rf} {T : Mm} {a0 : Nat} (l : Launch) (hR : Ty g R) (k0 : kd g a0 = 12) {r : Int32 × Mm} (h : pX12_heaviest R T a0 = some r) : MI l g yX12_heaviest cX12_heaviest 3 (some .int) rmX12_heaviest [.ref (g.2.2.1 a0)] R T r.1 R r.2 := by
  refine z_metI (own := RX12) (lv := [some (.ref (g.2.2.1 a0)), none, none]) (by decide +kernel) rfl rfl rfl (fun X K => ?_)
  unfold pX12_heaviest at h
  refine z_aload_n K dX12_heaviest_0 rfl ?_
  refine z_iconst K 0 dX12_heaviest_1 rfl ?_
  refine z_putI K clX12 tyX12_ok nmX12 k0 0 rfl rfl q1338 rfl rfl rfl dX12_heaviest_2 ?_
  refine z_iconst K (-1) dX12_heaviest_5 rfl ?_
  refine z_istore_n K dX12_heaviest_6 rfl rfl ?_
  refine z_iconst K 0 dX12_heaviest_7 rfl ?_
  refine z_istore_n K dX12_heaviest_8 rfl rfl ?_
  refine Zj.mask [true, true, true] ?_
  exact wX12_heaviest_9 K hR k0 (wX12_heaviest_44 K hR k0) FU _ _ _ h
/-! GoingOverModel.mean (II)I -/
abbrev rmX12_mean : Room := { frames := 3, cells := 0, slots := 0, locals := 65 }
def pX12_mean_55 (R : Rf) (a0 : Nat) (x1 : Int32) (x2 : Int32) (e76 : Mm → Int32 → Option (Int32 × Mm)) (r55 : Mm → Int32 → Int32 → Option (Int32 × Mm)) (T : Mm) (x3 : Int32) (x4 : Int32) : Option (Int32 × Mm) :=
  if x4 = 0 then e76 T x3 else nz x4 (lt (x3 - x3 / x4 * x4) (fun (v6 : Int32) => r55 T x4 v6))
def pX12_mean_76 (R : Rf) (a0 : Nat) (x1 : Int32) (x2 : Int32) (T : Mm) (x3 : Int32) : Option (Int32 × Mm) :=
  if x2 = 0 then bd1 (pX12_weightOf R T a0 x1) (fun (u9 : Int32) => nz x3 (some (u9 / x3, T))) else bd1 (pX12_barrelOf R T a0 x1) (fun (u7 : Int32) => bd1 (pX12_bits R T u7) (fun (u8 : Int32) => nz x3 (some (u8 / x3, T))))
def pX12_mean_31 (R : Rf) (a0 : Nat) (x1 : Int32) (x2 : Int32) (T : Mm) (as0 : Nat) (xs1 : Int32) : Option (Int32 × Mm) :=
  bd2 (pX12_throwsIf R T as0 xs1) (fun (u2 : Int32) (T2 : Mm) => if u2 = 0 then bd1 (pX12_barrelOf R T2 a0 x1) (fun (u3 : Int32) => bd1 (pX12_bits R T2 u3) (fun (u4 : Int32) => bd1 (pX12_weightOf R T2 a0 x1) (fun (u5 : Int32) => zl3 (pX12_mean_55 R a0 x1 x2 (pX12_mean_76 R a0 x1 x2)) FU T2 u4 u5))) else some (0, T2))
def pX12_mean_26 (R : Rf) (a0 : Nat) (x1 : Int32) (x2 : Int32) (T : Mm) (as0 : Nat) : Option (Int32 × Mm) :=
  pX12_mean_31 R a0 x1 x2 T as0 1
def pX12_mean (R : Rf) (T : Mm) (a0 : Nat) (x1 : Int32) (x2 : Int32) : Option (Int32 × Mm) :=
  bd1 (pX12_isPerson R T a0 x1) (fun (u1 : Int32) => if u1 = 0 then pX12_mean_26 R a0 x1 x2 T a0 else bd1 (pX12_isIn R T x2 0 1) (fun (u10 : Int32) => if u10 = 0 then pX12_mean_26 R a0 x1 x2 T a0 else bd1 (pX12_barrelOf R T a0 x1) (fun (u11 : Int32) => if u11 = 0 then pX12_mean_26 R a0 x1 x2 T a0 else pX12_mean_31 R a0 x1 x2 T a0 0)))
set_option maxRecDepth 100000 in
set_option maxHeartbeats 4000000 in
theorem wX12_mean_55 {X : Cx} {g : Gl} {l : Launch} {R : Rf} {a0 : Nat} {x1 : Int32} {x2 : Int32} (K : Ok X g l cX12_mean RX12 6 (some .int) rmX12_mean) (hR : Ty g R) (k0 : kd g a0 = 12) {r : Int32 × Mm} {e76 : Mm → Int32 → Option (Int32 × Mm)} (he76 : ∀ (T : Mm) (x3 : Int32), e76 T x3 = some r → Zj X g 6 (QI X g r.1 R r.2) R T [some (.ref (g.2.2.1 a0)), some (.int x1), some (.int x2), some (.int x3), none, none] [] 76) : ∀ (n : Nat) (T : Mm) (x3 : Int32) (x4 : Int32), zl3 (pX12_mean_55 R a0 x1 x2 e76) n T x3 x4 = some r → Zj X g 6 (QI X g r.1 R r.2) R T [some (.ref (g.2.2.1 a0)), some (.int x1), some (.int x2), some (.int x3), some (.int x4), none] [] 55 := by
  intro n
  induction n with
  | zero =>
    intro T x3 x4 h
    exact absurd h (by simp [zl3])
  | succ n hr55 =>
    intro T x3 x4 h
    rw [zl3_s] at h
    unfold pX12_mean_55 at h
    refine z_iload K dX12_mean_55 rfl ?_
    refine z_if_eq K 76 dX12_mean_57 (by decide) (fun c => ?_) (fun c => ?_)
    · have h := ite_t h c
      refine Zj.mask [true, true, true, true, false, false] ?_
      exact he76 _ _ h
    · have h := ite_f h c
      refine z_iload_n K dX12_mean_60 rfl ?_
      refine z_iload K dX12_mean_61 rfl ?_
      obtain ⟨hz, h⟩ := nz_e h
      refine z_irem K dX12_mean_63 hz ?_
      refine z_istore K dX12_mean_64 rfl rfl ?_
      refine z_iload K dX12_mean_66 rfl ?_
      refine z_istore_n K dX12_mean_68 rfl rfl ?_
      refine z_iload K dX12_mean_69 rfl ?_
      refine z_istore K dX12_mean_71 rfl rfl ?_
      refine z_goto K 55 dX12_mean_73 (by decide) ?_
      refine Zj.mask [true, true, true, true, true, false] ?_
      exact hr55 _ _ _ h
set_option maxRecDepth 100000 in
set_option maxHeartbeats 4000000 in
theorem wX12_mean_76 {X : Cx} {g : Gl} {l : Launch} {R : Rf} {a0 : Nat} {x1 : Int32} {x2 : Int32} (K : Ok X g l cX12_mean RX12 6 (some .int) rmX12_mean) (hR : Ty g R) (k0 : kd g a0 = 12) {r : Int32 × Mm} (T : Mm) (x3 : Int32) (h : pX12_mean_76 R a0 x1 x2 T x3 = some r) : Zj X g 6 (QI X g r.1 R r.2) R T [some (.ref (g.2.2.1 a0)), some (.int x1), some (.int x2), some (.int x3), none, none] [] 76 := by
  unfold pX12_mean_76 at h
  refine z_iload_n K dX12_mean_76 rfl ?_
  refine z_if_ne K 88 dX12_mean_77 (by decide) (fun c => ?_) (fun c => ?_)
  · have h := ite_f h c
    refine z_aload_n K dX12_mean_88 rfl ?_
    refine z_iload_n K dX12_mean_89 rfl ?_
    obtain ⟨u7, hc, h⟩ := bd1_e h
    refine z_callVI K (mX12_barrelOf l hR k0 hc) clX12 k0 ceX12_barrelOf q1602 ⟨rfl, rfl, rfl, rfl⟩ rfl rfl rfl dX12_mean_90 ?_
    obtain ⟨u8, hc, h⟩ := bd1_e h
    refine z_callSI K (mX12_bits l hR hc) ceX12_bits q1626 ⟨rfl, rfl, rfl, rfl⟩ rfl rfl rfl dX12_mean_93 ?_
    refine z_iload_n K dX12_mean_96 rfl ?_
    obtain ⟨hz, h⟩ := nz_e h
    refine z_idiv K dX12_mean_97 hz ?_
    obtain rfl := Option.some.inj h
    exact z_iret K dX12_mean_98
  · have h := ite_t h c
    refine z_aload_n K dX12_mean_80 rfl ?_
    refine z_iload_n K dX12_mean_81 rfl ?_
    obtain ⟨u9, hc, h⟩ := bd1_e h
    refine z_callVI K (mX12_weightOf l hR k0 hc) clX12 k0 ceX12_weightOf q1598 ⟨rfl, rfl, rfl, rfl⟩ rfl rfl rfl dX12_mean_82 ?_
    refine z_goto K 96 dX12_mean_85 (by decide) ?_
    refine z_iload_n K dX12_mean_96 rfl ?_
    obtain ⟨hz, h⟩ := nz_e h
    refine z_idiv K dX12_mean_97 hz ?_
    obtain rfl := Option.some.inj h
    exact z_iret K dX12_mean_98
set_option maxRecDepth 100000 in
set_option maxHeartbeats 4000000 in
theorem wX12_mean_31 {X : Cx} {g : Gl} {l : Launch} {R : Rf} {a0 : Nat} {x1 : Int32} {x2 : Int32} (K : Ok X g l cX12_mean RX12 6 (some .int) rmX12_mean) (hR : Ty g R) (k0 : kd g a0 = 12) {r : Int32 × Mm} (T : Mm) (as0 : Nat) (xs1 : Int32) (ks0 : kd g as0 = 12) (h : pX12_mean_31 R a0 x1 x2 T as0 xs1 = some r) : Zj X g 6 (QI X g r.1 R r.2) R T [some (.ref (g.2.2.1 a0)), some (.int x1), some (.int x2), none, none, none] [.int xs1, .ref (g.2.2.1 as0)] 31 := by
  unfold pX12_mean_31 at h
  obtain ⟨u2, T2, hc, h⟩ := bd2_e h
  refine z_callVI K (mX12_throwsIf l hR ks0 hc) clX12 ks0 ceX12_throwsIf q1594 ⟨rfl, rfl, rfl, rfl⟩ rfl rfl rfl dX12_mean_31 ?_
  refine z_if_eq K 39 dX12_mean_34 (by decide) (fun c => ?_) (fun c => ?_)
  · have h := ite_t h c
    refine z_aload_n K dX12_mean_39 rfl ?_
    refine z_iload_n K dX12_mean_40 rfl ?_
    obtain ⟨u3, hc, h⟩ := bd1_e h
    refine z_callVI K (mX12_barrelOf l hR k0 hc) clX12 k0 ceX12_barrelOf q1602 ⟨rfl, rfl, rfl, rfl⟩ rfl rfl rfl dX12_mean_41 ?_
    obtain ⟨u4, hc, h⟩ := bd1_e h
    refine z_callSI K (mX12_bits l hR hc) ceX12_bits q1626 ⟨rfl, rfl, rfl, rfl⟩ rfl rfl rfl dX12_mean_44 ?_
    refine z_istore_n K dX12_mean_47 rfl rfl ?_
    refine z_aload_n K dX12_mean_48 rfl ?_
    refine z_iload_n K dX12_mean_49 rfl ?_
    obtain ⟨u5, hc, h⟩ := bd1_e h
    refine z_callVI K (mX12_weightOf l hR k0 hc) clX12 k0 ceX12_weightOf q1598 ⟨rfl, rfl, rfl, rfl⟩ rfl rfl rfl dX12_mean_50 ?_
    refine z_istore K dX12_mean_53 rfl rfl ?_
    refine Zj.mask [true, true, true, true, true, false] ?_
    exact wX12_mean_55 K hR k0 (wX12_mean_76 K hR k0) FU _ _ _ h
  · have h := ite_f h c
    refine z_iconst K 0 dX12_mean_37 rfl ?_
    obtain rfl := Option.some.inj h
    exact z_iret K dX12_mean_38
set_option maxRecDepth 100000 in
set_option maxHeartbeats 4000000 in
theorem wX12_mean_26 {X : Cx} {g : Gl} {l : Launch} {R : Rf} {a0 : Nat} {x1 : Int32} {x2 : Int32} (K : Ok X g l cX12_mean RX12 6 (some .int) rmX12_mean) (hR : Ty g R) (k0 : kd g a0 = 12) {r : Int32 × Mm} (T : Mm) (as0 : Nat) (ks0 : kd g as0 = 12) (h : pX12_mean_26 R a0 x1 x2 T as0 = some r) : Zj X g 6 (QI X g r.1 R r.2) R T [some (.ref (g.2.2.1 a0)), some (.int x1), some (.int x2), none, none, none] [.ref (g.2.2.1 as0)] 26 := by
  unfold pX12_mean_26 at h
  refine z_iconst K 1 dX12_mean_26 rfl ?_
  refine z_goto K 31 dX12_mean_27 (by decide) ?_
  refine Zj.mask [true, true, true, false, false, false] ?_
  exact wX12_mean_31 K hR k0 _ _ _ ks0 h
set_option maxRecDepth 100000 in
set_option maxHeartbeats 4000000 in
theorem mX12_mean {g : Gl} {R : Rf} {T : Mm} {a0 : Nat} {x1 : Int32} {x2 : Int32} (l : Launch) (hR : Ty g R) (k0 : kd g a0 = 12) {r : Int32 × Mm} (h : pX12_mean R T a0 x1 x2 = some r) : MI l g yX12_mean cX12_mean 6 (some .int) rmX12_mean [.ref (g.2.2.1 a0), .int x1, .int x2] R T r.1 R r.2 := by
  refine z_metI (own := RX12) (lv := [some (.ref (g.2.2.1 a0)), some (.int x1), some (.int x2), none, none, none]) (by decide +kernel) rfl rfl rfl (fun X K => ?_)
  unfold pX12_mean at h
  refine z_aload_n K dX12_mean_0 rfl ?_
  refine z_aload_n K dX12_mean_1 rfl ?_
  refine z_iload_n K dX12_mean_2 rfl ?_
  obtain ⟨u1, hc, h⟩ := bd1_e h
  refine z_callVI K (mX12_isPerson l hR k0 hc) clX12 k0 ceX12_isPerson q1590 ⟨rfl, rfl, rfl, rfl⟩ rfl rfl rfl dX12_mean_3 ?_
  refine z_if_eq K 26 dX12_mean_6 (by decide) (fun c => ?_) (fun c => ?_)
  · have h := ite_t h c
    refine Zj.mask [true, true, true, false, false, false] ?_
    exact wX12_mean_26 K hR k0 _ _ k0 h
  · have h := ite_f h c
    refine z_iload_n K dX12_mean_9 rfl ?_
    refine z_iconst K 0 dX12_mean_10 rfl ?_
    refine z_iconst K 1 dX12_mean_11 rfl ?_
    obtain ⟨u10, hc, h⟩ := bd1_e h
    refine z_callSI K (mX12_isIn l hR hc) ceX12_isIn q1539 ⟨rfl, rfl, rfl, rfl⟩ rfl rfl rfl dX12_mean_12 ?_
    refine z_if_eq K 26 dX12_mean_15 (by decide) (fun c => ?_) (fun c => ?_)
    · have h := ite_t h c
      refine Zj.mask [true, true, true, false, false, false] ?_
      exact wX12_mean_26 K hR k0 _ _ k0 h
    · have h := ite_f h c
      refine z_aload_n K dX12_mean_18 rfl ?_
      refine z_iload_n K dX12_mean_19 rfl ?_
      obtain ⟨u11, hc, h⟩ := bd1_e h
      refine z_callVI K (mX12_barrelOf l hR k0 hc) clX12 k0 ceX12_barrelOf q1602 ⟨rfl, rfl, rfl, rfl⟩ rfl rfl rfl dX12_mean_20 ?_
      refine z_if_ne K 30 dX12_mean_23 (by decide) (fun c => ?_) (fun c => ?_)
      · have h := ite_f h c
        refine z_iconst K 0 dX12_mean_30 rfl ?_
        refine Zj.mask [true, true, true, false, false, false] ?_
        exact wX12_mean_31 K hR k0 _ _ _ k0 h
      · have h := ite_t h c
        refine Zj.mask [true, true, true, false, false, false] ?_
        exact wX12_mean_26 K hR k0 _ _ k0 h
/-! GoingOverModel.lays (I)V -/
abbrev rmX12_lays : Room := { frames := 0, cells := 0, slots := 0, locals := 0 }
def pX12_lays (R : Rf) (T : Mm) (a0 : Nat) (x1 : Int32) : Option (Mm) :=
  ix (T.1 a0 35) 24 (lt (wI T (R a0 34) (T.1 a0 35).toNatClampNeg ((x1.toInt8.toInt32).toInt8.toInt32)) (fun (T1 : Mm) => lt (wI T1 a0 35 ((T1.1 a0 35) + 1)) (fun (T2 : Mm) => some T2)))
set_option maxRecDepth 100000 in
set_option maxHeartbeats 4000000 in
theorem mX12_lays {g : Gl} {R : Rf} {T : Mm} {a0 : Nat} {x1 : Int32} (l : Launch) (hR : Ty g R) (k0 : kd g a0 = 12) {r : Mm} (h : pX12_lays R T a0 x1 = some r) : MV l g yX12_lays cX12_lays 2 none rmX12_lays [.ref (g.2.2.1 a0), .int x1] R T R r := by
  refine z_metV (own := RX12) (lv := [some (.ref (g.2.2.1 a0)), some (.int x1)]) (by decide +kernel) rfl rfl rfl (fun X K => ?_)
  unfold pX12_lays at h
  refine z_aload_n K dX12_lays_0 rfl ?_
  refine z_getR K clX12 k0 34 rfl rfl q1372 dX12_lays_1 ?_
  refine z_aload_n K dX12_lays_4 rfl ?_
  refine z_getI K clX12 k0 35 rfl rfl q1373 dX12_lays_5 ?_
  refine z_iload_n K dX12_lays_8 rfl ?_
  refine z_i2b K dX12_lays_9 ?_
  obtain ⟨hi, h⟩ := ix_e h
  refine z_bast K (hR.at (k := 34) (t := 10024) k0 rfl rfl) rfl rfl rfl hi dX12_lays_10 ?_
  refine z_aload_n K dX12_lays_11 rfl ?_
  refine z_dup K dX12_lays_12 rfl ?_
  refine z_getI K clX12 k0 35 rfl rfl q1373 dX12_lays_13 ?_
  refine z_iconst K 1 dX12_lays_16 rfl ?_
  refine z_iadd K dX12_lays_17 ?_
  refine z_putI K clX12 tyX12_ok nmX12 k0 35 rfl rfl q1373 rfl rfl rfl dX12_lays_18 ?_
  obtain rfl := Option.some.inj h
  exact z_vret K dX12_lays_21
/-! GoingOverModel.spells (J)V -/
abbrev rmX12_spells : Room := { frames := 1, cells := 0, slots := 0, locals := 21 }
def pX12_spells_3 (R : Rf) (a0 : Nat) (j1 : Int64) (e37 : Mm → Option (Mm)) (r3 : Mm → Int32 → Option (Mm)) (T : Mm) (x3 : Int32) : Option (Mm) :=
  if x3 < 0 then e37 T else if (lg_cmp ((j1 >>> (x3.toInt64 &&& 63)) &&& 255) 0) = 0 then lt (x3 + (-8)) (fun (v1 : Int32) => r3 T v1) else bd1 (pX12_lays R T a0 (((j1 >>> (x3.toInt64 &&& 63)) &&& 255).toInt32)) (fun (T2 : Mm) => lt (x3 + (-8)) (fun (v3 : Int32) => r3 T2 v3))
def pX12_spells_37 (R : Rf) (a0 : Nat) (j1 : Int64) (T : Mm) : Option (Mm) :=
  some T
def pX12_spells (R : Rf) (T : Mm) (a0 : Nat) (j1 : Int64) : Option (Mm) :=
  zl2 (pX12_spells_3 R a0 j1 (pX12_spells_37 R a0 j1)) FU T 56
set_option maxRecDepth 100000 in
set_option maxHeartbeats 4000000 in
theorem wX12_spells_3 {X : Cx} {g : Gl} {l : Launch} {R : Rf} {a0 : Nat} {j1 : Int64} (K : Ok X g l cX12_spells RX12 4 none rmX12_spells) (hR : Ty g R) (k0 : kd g a0 = 12) {r : Mm} {e37 : Mm → Option (Mm)} (he37 : ∀ (T : Mm), e37 T = some r → Zj X g 4 (QV X g R r) R T [none, none, none, none] [] 37) : ∀ (n : Nat) (T : Mm) (x3 : Int32), zl2 (pX12_spells_3 R a0 j1 e37) n T x3 = some r → Zj X g 4 (QV X g R r) R T [some (.ref (g.2.2.1 a0)), some (.long j1), none, some (.int x3)] [] 3 := by
  intro n
  induction n with
  | zero =>
    intro T x3 h
    exact absurd h (by simp [zl2])
  | succ n hr3 =>
    intro T x3 h
    rw [zl2_s] at h
    unfold pX12_spells_3 at h
    refine z_iload_n K dX12_spells_3 rfl ?_
    refine z_if_lt K 37 dX12_spells_4 (by decide) (fun c => ?_) (fun c => ?_)
    · have h := ite_t h c
      refine Zj.mask [false, false, false, false] ?_
      exact he37 _ h
    · have h := ite_f h c
      refine z_lload_n K dX12_spells_7 rfl ?_
      refine z_iload_n K dX12_spells_8 rfl ?_
      refine z_lshr K dX12_spells_9 ?_
      refine z_ldc2 K 255 q1837 dX12_spells_10 ?_
      refine z_land K dX12_spells_13 ?_
      refine z_lconst K 0 dX12_spells_14 rfl ?_
      refine z_lcmp K dX12_spells_15 ?_
      refine z_if_eq K 31 dX12_spells_16 (by decide) (fun c => ?_) (fun c => ?_)
      · have h := ite_t h c
        refine z_iinc K (-8) dX12_spells_31 rfl rfl rfl rfl ?_
        refine z_goto K 3 dX12_spells_34 (by decide) ?_
        refine Zj.mask [true, true, false, true] ?_
        exact hr3 _ _ h
      · have h := ite_f h c
        refine z_aload_n K dX12_spells_19 rfl ?_
        refine z_lload_n K dX12_spells_20 rfl ?_
        refine z_iload_n K dX12_spells_21 rfl ?_
        refine z_lshr K dX12_spells_22 ?_
        refine z_ldc2 K 255 q1837 dX12_spells_23 ?_
        refine z_land K dX12_spells_26 ?_
        refine z_l2i K dX12_spells_27 ?_
        obtain ⟨T2, hc, h⟩ := bd1_e h
        refine z_callVV K (mX12_lays l hR k0 hc) clX12 k0 ceX12_lays q1838 ⟨rfl, rfl, rfl, rfl⟩ rfl rfl rfl dX12_spells_28 ?_
        refine z_iinc K (-8) dX12_spells_31 rfl rfl rfl rfl ?_
        refine z_goto K 3 dX12_spells_34 (by decide) ?_
        refine Zj.mask [true, true, false, true] ?_
        exact hr3 _ _ h
set_option maxRecDepth 100000 in
set_option maxHeartbeats 4000000 in
theorem wX12_spells_37 {X : Cx} {g : Gl} {l : Launch} {R : Rf} {a0 : Nat} {j1 : Int64} (K : Ok X g l cX12_spells RX12 4 none rmX12_spells) (hR : Ty g R) (k0 : kd g a0 = 12) {r : Mm} (T : Mm) (h : pX12_spells_37 R a0 j1 T = some r) : Zj X g 4 (QV X g R r) R T [none, none, none, none] [] 37 := by
  unfold pX12_spells_37 at h
  obtain rfl := Option.some.inj h
  exact z_vret K dX12_spells_37
set_option maxRecDepth 100000 in
set_option maxHeartbeats 4000000 in
theorem mX12_spells {g : Gl} {R : Rf} {T : Mm} {a0 : Nat} {j1 : Int64} (l : Launch) (hR : Ty g R) (k0 : kd g a0 = 12) {r : Mm} (h : pX12_spells R T a0 j1 = some r) : MV l g yX12_spells cX12_spells 4 none rmX12_spells [.ref (g.2.2.1 a0), .long j1] R T R r := by
  refine z_metV (own := RX12) (lv := [some (.ref (g.2.2.1 a0)), some (.long j1), none, none]) (by decide +kernel) rfl rfl rfl (fun X K => ?_)
  unfold pX12_spells at h
  refine z_bipush K 56 dX12_spells_0 rfl ?_
  refine z_istore_n K dX12_spells_2 rfl rfl ?_
  refine Zj.mask [true, true, false, true] ?_
  exact wX12_spells_3 K hR k0 (wX12_spells_37 K hR k0) FU _ _ h
/-! GoingOverModel.says (J)V -/
abbrev rmX12_says : Room := { frames := 2, cells := 0, slots := 0, locals := 44 }
def pX12_says (R : Rf) (T : Mm) (a0 : Nat) (j1 : Int64) : Option (Mm) :=
  bd1 (pX12_lays R T a0 32) (fun (T1 : Mm) => bd1 (pX12_spells R T1 a0 j1) (fun (T2 : Mm) => some T2))
set_option maxRecDepth 100000 in
set_option maxHeartbeats 4000000 in
theorem mX12_says {g : Gl} {R : Rf} {T : Mm} {a0 : Nat} {j1 : Int64} (l : Launch) (hR : Ty g R) (k0 : kd g a0 = 12) {r : Mm} (h : pX12_says R T a0 j1 = some r) : MV l g yX12_says cX12_says 3 none rmX12_says [.ref (g.2.2.1 a0), .long j1] R T R r := by
  refine z_metV (own := RX12) (lv := [some (.ref (g.2.2.1 a0)), some (.long j1), none]) (by decide +kernel) rfl rfl rfl (fun X K => ?_)
  unfold pX12_says at h
  refine z_aload_n K dX12_says_0 rfl ?_
  refine z_bipush K 32 dX12_says_1 rfl ?_
  obtain ⟨T1, hc, h⟩ := bd1_e h
  refine z_callVV K (mX12_lays l hR k0 hc) clX12 k0 ceX12_lays q1838 ⟨rfl, rfl, rfl, rfl⟩ rfl rfl rfl dX12_says_3 ?_
  refine z_aload_n K dX12_says_6 rfl ?_
  refine z_lload_n K dX12_says_7 rfl ?_
  obtain ⟨T2, hc, h⟩ := bd1_e h
  refine z_callVV K (mX12_spells l hR k0 hc) clX12 k0 ceX12_spells q1833 ⟨rfl, rfl, rfl, rfl⟩ rfl rfl rfl dX12_says_8 ?_
  obtain rfl := Option.some.inj h
  exact z_vret K dX12_says_11
/-! GoingOverModel.tag (I)I -/
abbrev rmX12_tag : Room := { frames := 4, cells := 0, slots := 0, locals := 95 }
def pX12_tag_118 (R : Rf) (a0 : Nat) (x1 : Int32) (T : Mm) (x3 : Int32) : Option (Int32 × Mm) :=
  bd1 (pX12_lays R T a0 (48 + (x3 - x3 / 10 * 10))) (fun (T9 : Mm) => some (T9.1 a0 35, T9))
def pX12_tag_76 (R : Rf) (a0 : Nat) (x1 : Int32) (T : Mm) (x2 : Int32) (as0 : Nat) (js1 : Int64) : Option (Int32 × Mm) :=
  bd1 (pX12_says R T as0 js1) (fun (T6 : Mm) => if 2 ≤ x2 then bd1 (pX12_partsNow R T6 a0 x1) (fun (u7 : Int32) => bd1 (pX12_lays R T6 a0 32) (fun (T8 : Mm) => if u7 ≤ 9 then pX12_tag_118 R a0 x1 T8 u7 else bd1 (pX12_lays R T8 a0 (48 + (u7 / 10))) (fun (T10 : Mm) => pX12_tag_118 R a0 x1 T10 u7))) else some (T6.1 a0 35, T6))
def pX12_tag (R : Rf) (T : Mm) (a0 : Nat) (x1 : Int32) : Option (Int32 × Mm) :=
  lt (wI T a0 0 0) (fun (T1 : Mm) => bd1 (pX12_isPerson R T1 a0 x1) (fun (u2 : Int32) => if u2 = 0 then some ((-1), T1) else lt (wI T1 a0 35 0) (fun (T3 : Mm) => ix x1 30 (bd1 (pX12_spells R T3 a0 (T3.2 (R a0 9) x1.toNatClampNeg)) (fun (T4 : Mm) => ix (84 + x1) 270 (lt (T4.1 (R a0 6) (84 + x1).toNatClampNeg) (fun (v5 : Int32) => if v5 = 0 then pX12_tag_76 R a0 x1 T4 v5 a0 491327153273 else if v5 = 1 then pX12_tag_76 R a0 x1 T4 v5 a0 448311224179 else if v5 = 2 then pX12_tag_76 R a0 x1 T4 v5 a0 26990 else pX12_tag_76 R a0 x1 T4 v5 a0 7304564)))))))
set_option maxRecDepth 100000 in
set_option maxHeartbeats 4000000 in
theorem wX12_tag_118 {X : Cx} {g : Gl} {l : Launch} {R : Rf} {a0 : Nat} {x1 : Int32} (K : Ok X g l cX12_tag RX12 4 (some .int) rmX12_tag) (hR : Ty g R) (k0 : kd g a0 = 12) {r : Int32 × Mm} (T : Mm) (x3 : Int32) (h : pX12_tag_118 R a0 x1 T x3 = some r) : Zj X g 4 (QI X g r.1 R r.2) R T [some (.ref (g.2.2.1 a0)), none, none, some (.int x3)] [] 118 := by
  unfold pX12_tag_118 at h
  refine z_aload_n K dX12_tag_118 rfl ?_
  refine z_bipush K 48 dX12_tag_119 rfl ?_
  refine z_iload_n K dX12_tag_121 rfl ?_
  refine z_bipush K 10 dX12_tag_122 rfl ?_
  refine z_irem K dX12_tag_124 (by decide) ?_
  refine z_iadd K dX12_tag_125 ?_
  obtain ⟨T9, hc, h⟩ := bd1_e h
  refine z_callVV K (mX12_lays l hR k0 hc) clX12 k0 ceX12_lays q1838 ⟨rfl, rfl, rfl, rfl⟩ rfl rfl rfl dX12_tag_126 ?_
  refine z_aload_n K dX12_tag_129 rfl ?_
  refine z_getI K clX12 k0 35 rfl rfl q1373 dX12_tag_130 ?_
  obtain rfl := Option.some.inj h
  exact z_iret K dX12_tag_133
set_option maxRecDepth 100000 in
set_option maxHeartbeats 4000000 in
theorem wX12_tag_76 {X : Cx} {g : Gl} {l : Launch} {R : Rf} {a0 : Nat} {x1 : Int32} (K : Ok X g l cX12_tag RX12 4 (some .int) rmX12_tag) (hR : Ty g R) (k0 : kd g a0 = 12) {r : Int32 × Mm} (T : Mm) (x2 : Int32) (as0 : Nat) (js1 : Int64) (ks0 : kd g as0 = 12) (h : pX12_tag_76 R a0 x1 T x2 as0 js1 = some r) : Zj X g 4 (QI X g r.1 R r.2) R T [some (.ref (g.2.2.1 a0)), some (.int x1), some (.int x2), none] [.long js1, .ref (g.2.2.1 as0)] 76 := by
  unfold pX12_tag_76 at h
  obtain ⟨T6, hc, h⟩ := bd1_e h
  refine z_callVV K (mX12_says l hR ks0 hc) clX12 ks0 ceX12_says q1844 ⟨rfl, rfl, rfl, rfl⟩ rfl rfl rfl dX12_tag_76 ?_
  refine z_iload_n K dX12_tag_79 rfl ?_
  refine z_iconst K 2 dX12_tag_80 rfl ?_
  refine z_icmp_ge K 89 dX12_tag_81 (by decide) (fun c => ?_) (fun c => ?_)
  · have h := ite_t h c
    refine z_aload_n K dX12_tag_89 rfl ?_
    refine z_iload_n K dX12_tag_90 rfl ?_
    obtain ⟨u7, hc, h⟩ := bd1_e h
    refine z_callVI K (mX12_partsNow l hR k0 hc) clX12 k0 ceX12_partsNow q1614 ⟨rfl, rfl, rfl, rfl⟩ rfl rfl rfl dX12_tag_91 ?_
    refine z_istore_n K dX12_tag_94 rfl rfl ?_
    refine z_aload_n K dX12_tag_95 rfl ?_
    refine z_bipush K 32 dX12_tag_96 rfl ?_
    obtain ⟨T8, hc, h⟩ := bd1_e h
    refine z_callVV K (mX12_lays l hR k0 hc) clX12 k0 ceX12_lays q1838 ⟨rfl, rfl, rfl, rfl⟩ rfl rfl rfl dX12_tag_98 ?_
    refine z_iload_n K dX12_tag_101 rfl ?_
    refine z_bipush K 9 dX12_tag_102 rfl ?_
    refine z_icmp_le K 118 dX12_tag_104 (by decide) (fun c => ?_) (fun c => ?_)
    · have h := ite_t h c
      refine Zj.mask [true, false, false, true] ?_
      exact wX12_tag_118 K hR k0 _ _ h
    · have h := ite_f h c
      refine z_aload_n K dX12_tag_107 rfl ?_
      refine z_bipush K 48 dX12_tag_108 rfl ?_
      refine z_iload_n K dX12_tag_110 rfl ?_
      refine z_bipush K 10 dX12_tag_111 rfl ?_
      refine z_idiv K dX12_tag_113 (by decide) ?_
      refine z_iadd K dX12_tag_114 ?_
      obtain ⟨T10, hc, h⟩ := bd1_e h
      refine z_callVV K (mX12_lays l hR k0 hc) clX12 k0 ceX12_lays q1838 ⟨rfl, rfl, rfl, rfl⟩ rfl rfl rfl dX12_tag_115 ?_
      refine Zj.mask [true, false, false, true] ?_
      exact wX12_tag_118 K hR k0 _ _ h
  · have h := ite_f h c
    refine z_aload_n K dX12_tag_84 rfl ?_
    refine z_getI K clX12 k0 35 rfl rfl q1373 dX12_tag_85 ?_
    obtain rfl := Option.some.inj h
    exact z_iret K dX12_tag_88
set_option maxRecDepth 100000 in
set_option maxHeartbeats 4000000 in
theorem mX12_tag {g : Gl} {R : Rf} {T : Mm} {a0 : Nat} {x1 : Int32} (l : Launch) (hR : Ty g R) (k0 : kd g a0 = 12) {r : Int32 × Mm} (h : pX12_tag R T a0 x1 = some r) : MI l g yX12_tag cX12_tag 4 (some .int) rmX12_tag [.ref (g.2.2.1 a0), .int x1] R T r.1 R r.2 := by
  refine z_metI (own := RX12) (lv := [some (.ref (g.2.2.1 a0)), some (.int x1), none, none]) (by decide +kernel) rfl rfl rfl (fun X K => ?_)
  unfold pX12_tag at h
  refine z_aload_n K dX12_tag_0 rfl ?_
  refine z_iconst K 0 dX12_tag_1 rfl ?_
  refine z_putI K clX12 tyX12_ok nmX12 k0 0 rfl rfl q1338 rfl rfl rfl dX12_tag_2 ?_
  refine z_aload_n K dX12_tag_5 rfl ?_
  refine z_iload_n K dX12_tag_6 rfl ?_
  obtain ⟨u2, hc, h⟩ := bd1_e h
  refine z_callVI K (mX12_isPerson l hR k0 hc) clX12 k0 ceX12_isPerson q1590 ⟨rfl, rfl, rfl, rfl⟩ rfl rfl rfl dX12_tag_7 ?_
  refine z_if_ne K 15 dX12_tag_10 (by decide) (fun c => ?_) (fun c => ?_)
  · have h := ite_f h c
    refine z_aload_n K dX12_tag_15 rfl ?_
    refine z_iconst K 0 dX12_tag_16 rfl ?_
    refine z_putI K clX12 tyX12_ok nmX12 k0 35 rfl rfl q1373 rfl rfl rfl dX12_tag_17 ?_
    refine z_aload_n K dX12_tag_20 rfl ?_
    refine z_aload_n K dX12_tag_21 rfl ?_
    refine z_getR K clX12 k0 9 rfl rfl q1347 dX12_tag_22 ?_
    refine z_iload_n K dX12_tag_25 rfl ?_
    obtain ⟨hi, h⟩ := ix_e h
    refine z_lald K (hR.at (k := 9) (t := 30030) k0 rfl rfl) rfl rfl rfl hi dX12_tag_26 ?_
    obtain ⟨T4, hc, h⟩ := bd1_e h
    refine z_callVV K (mX12_spells l hR k0 hc) clX12 k0 ceX12_spells q1833 ⟨rfl, rfl, rfl, rfl⟩ rfl rfl rfl dX12_tag_27 ?_
    refine z_aload_n K dX12_tag_30 rfl ?_
    refine z_getR K clX12 k0 6 rfl rfl q1344 dX12_tag_31 ?_
    refine z_bipush K 84 dX12_tag_34 rfl ?_
    refine z_iload_n K dX12_tag_36 rfl ?_
    refine z_iadd K dX12_tag_37 ?_
    obtain ⟨hi, h⟩ := ix_e h
    refine z_iald K (hR.at (k := 6) (t := 20270) k0 rfl rfl) rfl rfl rfl hi dX12_tag_38 ?_
    refine z_istore_n K dX12_tag_39 rfl rfl ?_
    refine z_aload_n K dX12_tag_40 rfl ?_
    refine z_iload_n K dX12_tag_41 rfl ?_
    refine z_if_ne K 51 dX12_tag_42 (by decide) (fun c => ?_) (fun c => ?_)
    · have h := ite_f h c
      refine z_iload_n K dX12_tag_51 rfl ?_
      refine z_iconst K 1 dX12_tag_52 rfl ?_
      refine z_icmp_ne K 62 dX12_tag_53 (by decide) (fun c => ?_) (fun c => ?_)
      · have h := ite_f h c
        refine z_iload_n K dX12_tag_62 rfl ?_
        refine z_iconst K 2 dX12_tag_63 rfl ?_
        refine z_icmp_ne K 73 dX12_tag_64 (by decide) (fun c => ?_) (fun c => ?_)
        · have h := ite_f h c
          refine z_ldc2 K 7304564 q1327 dX12_tag_73 ?_
          refine Zj.mask [true, true, true, false] ?_
          exact wX12_tag_76 K hR k0 _ _ _ _ k0 h
        · have h := ite_t h c
          refine z_ldc2 K 26990 q1843 dX12_tag_67 ?_
          refine z_goto K 76 dX12_tag_70 (by decide) ?_
          refine Zj.mask [true, true, true, false] ?_
          exact wX12_tag_76 K hR k0 _ _ _ _ k0 h
      · have h := ite_t h c
        refine z_ldc2 K 448311224179 q1842 dX12_tag_56 ?_
        refine z_goto K 76 dX12_tag_59 (by decide) ?_
        refine Zj.mask [true, true, true, false] ?_
        exact wX12_tag_76 K hR k0 _ _ _ _ k0 h
    · have h := ite_t h c
      refine z_ldc2 K 491327153273 q1324 dX12_tag_45 ?_
      refine z_goto K 76 dX12_tag_48 (by decide) ?_
      refine Zj.mask [true, true, true, false] ?_
      exact wX12_tag_76 K hR k0 _ _ _ _ k0 h
  · have h := ite_t h c
    refine z_iconst K (-1) dX12_tag_13 rfl ?_
    obtain rfl := Option.some.inj h
    exact z_iret K dX12_tag_14
/-! GoingOverModel.byteAt (I)I -/
abbrev rmX12_byteAt : Room := { frames := 1, cells := 0, slots := 0, locals := 22 }
def pX12_byteAt (R : Rf) (T : Mm) (a0 : Nat) (x1 : Int32) : Option (Int32 × Mm) :=
  lt (wI T a0 0 0) (fun (T1 : Mm) => bd1 (pX12_isIn R T1 x1 0 ((T1.1 a0 35) - 1)) (fun (u2 : Int32) => if u2 = 0 then some ((-1), T1) else ix x1 24 (some (T1.1 (R a0 34) x1.toNatClampNeg, T1))))
set_option maxRecDepth 100000 in
set_option maxHeartbeats 4000000 in
theorem mX12_byteAt {g : Gl} {R : Rf} {T : Mm} {a0 : Nat} {x1 : Int32} (l : Launch) (hR : Ty g R) (k0 : kd g a0 = 12) {r : Int32 × Mm} (h : pX12_byteAt R T a0 x1 = some r) : MI l g yX12_byteAt cX12_byteAt 2 (some .int) rmX12_byteAt [.ref (g.2.2.1 a0), .int x1] R T r.1 R r.2 := by
  refine z_metI (own := RX12) (lv := [some (.ref (g.2.2.1 a0)), some (.int x1)]) (by decide +kernel) rfl rfl rfl (fun X K => ?_)
  unfold pX12_byteAt at h
  refine z_aload_n K dX12_byteAt_0 rfl ?_
  refine z_iconst K 0 dX12_byteAt_1 rfl ?_
  refine z_putI K clX12 tyX12_ok nmX12 k0 0 rfl rfl q1338 rfl rfl rfl dX12_byteAt_2 ?_
  refine z_iload_n K dX12_byteAt_5 rfl ?_
  refine z_iconst K 0 dX12_byteAt_6 rfl ?_
  refine z_aload_n K dX12_byteAt_7 rfl ?_
  refine z_getI K clX12 k0 35 rfl rfl q1373 dX12_byteAt_8 ?_
  refine z_iconst K 1 dX12_byteAt_11 rfl ?_
  refine z_isub K dX12_byteAt_12 ?_
  obtain ⟨u2, hc, h⟩ := bd1_e h
  refine z_callSI K (mX12_isIn l hR hc) ceX12_isIn q1539 ⟨rfl, rfl, rfl, rfl⟩ rfl rfl rfl dX12_byteAt_13 ?_
  refine z_if_eq K 28 dX12_byteAt_16 (by decide) (fun c => ?_) (fun c => ?_)
  · have h := ite_t h c
    refine z_iconst K (-1) dX12_byteAt_28 rfl ?_
    obtain rfl := Option.some.inj h
    exact z_iret K dX12_byteAt_29
  · have h := ite_f h c
    refine z_aload_n K dX12_byteAt_19 rfl ?_
    refine z_getR K clX12 k0 34 rfl rfl q1372 dX12_byteAt_20 ?_
    refine z_iload_n K dX12_byteAt_23 rfl ?_
    obtain ⟨hi, h⟩ := ix_e h
    refine z_bald K (hR.at (k := 34) (t := 10024) k0 rfl rfl) rfl rfl rfl hi dX12_byteAt_24 ?_
    refine z_goto K 29 dX12_byteAt_25 (by decide) ?_
    obtain rfl := Option.some.inj h
    exact z_iret K dX12_byteAt_29
/-! GoingOverModel.draw (I)I -/
abbrev rmX12_draw : Room := { frames := 0, cells := 0, slots := 0, locals := 0 }
def pX12_draw (R : Rf) (T : Mm) (a0 : Nat) (x1 : Int32) : Option (Int32 × Mm) :=
  lt (wI T a0 36 (((T.1 a0 36) * 1103515245) + 12345)) (fun (T1 : Mm) => nz x1 (some ((us (T1.1 a0 36) 8) - (us (T1.1 a0 36) 8) / x1 * x1, T1)))
set_option maxRecDepth 100000 in
set_option maxHeartbeats 4000000 in
theorem mX12_draw {g : Gl} {R : Rf} {T : Mm} {a0 : Nat} {x1 : Int32} (l : Launch) (hR : Ty g R) (k0 : kd g a0 = 12) {r : Int32 × Mm} (h : pX12_draw R T a0 x1 = some r) : MI l g yX12_draw cX12_draw 2 (some .int) rmX12_draw [.ref (g.2.2.1 a0), .int x1] R T r.1 R r.2 := by
  refine z_metI (own := RX12) (lv := [some (.ref (g.2.2.1 a0)), some (.int x1)]) (by decide +kernel) rfl rfl rfl (fun X K => ?_)
  unfold pX12_draw at h
  refine z_aload_n K dX12_draw_0 rfl ?_
  refine z_aload_n K dX12_draw_1 rfl ?_
  refine z_getI K clX12 k0 36 rfl rfl q1374 dX12_draw_2 ?_
  refine z_ldcw K 1103515245 q1868 dX12_draw_5 ?_
  refine z_imul K dX12_draw_8 ?_
  refine z_sipush K 12345 dX12_draw_9 rfl ?_
  refine z_iadd K dX12_draw_12 ?_
  refine z_putI K clX12 tyX12_ok nmX12 k0 36 rfl rfl q1374 rfl rfl rfl dX12_draw_13 ?_
  refine z_aload_n K dX12_draw_16 rfl ?_
  refine z_getI K clX12 k0 36 rfl rfl q1374 dX12_draw_17 ?_
  refine z_bipush K 8 dX12_draw_20 rfl ?_
  refine z_iushr K dX12_draw_22 ?_
  refine z_iload_n K dX12_draw_23 rfl ?_
  obtain ⟨hz, h⟩ := nz_e h
  refine z_irem K dX12_draw_24 hz ?_
  obtain rfl := Option.some.inj h
  exact z_iret K dX12_draw_25
/-! GoingOverModel.drawPerson (I)V -/
abbrev rmX12_drawPerson : Room := { frames := 4, cells := 0, slots := 0, locals := 88 }
def pX12_drawPerson_31 (R : Rf) (a0 : Nat) (x1 : Int32) (T : Mm) (x2 : Int32) : Option (Mm) :=
  if x2 = 1 then ix (84 + x1) 270 (if (T.1 (R a0 6) (84 + x1).toNatClampNeg) = 2 then ix (84 + x1) 270 (lt (wI T (R a0 6) (84 + x1).toNatClampNeg 3) (fun (T2 : Mm) => some T2)) else some T) else some T
def pX12_drawPerson (R : Rf) (T : Mm) (a0 : Nat) (x1 : Int32) : Option (Mm) :=
  bd2 (pX12_draw R T a0 8) (fun (u1 : Int32) (T1 : Mm) => if u1 = 0 then ix (84 + x1) 270 (if (T1.1 (R a0 6) (84 + x1).toNatClampNeg) = 0 then bd1 (pX12_hangs R T1 a0 x1) (fun (T3 : Mm) => some T3) else pX12_drawPerson_31 R a0 x1 T1 u1) else pX12_drawPerson_31 R a0 x1 T1 u1)
set_option maxRecDepth 100000 in
set_option maxHeartbeats 4000000 in
theorem wX12_drawPerson_31 {X : Cx} {g : Gl} {l : Launch} {R : Rf} {a0 : Nat} {x1 : Int32} (K : Ok X g l cX12_drawPerson RX12 3 none rmX12_drawPerson) (hR : Ty g R) (k0 : kd g a0 = 12) {r : Mm} (T : Mm) (x2 : Int32) (h : pX12_drawPerson_31 R a0 x1 T x2 = some r) : Zj X g 3 (QV X g R r) R T [some (.ref (g.2.2.1 a0)), some (.int x1), some (.int x2)] [] 31 := by
  unfold pX12_drawPerson_31 at h
  refine z_iload_n K dX12_drawPerson_31 rfl ?_
  refine z_iconst K 1 dX12_drawPerson_32 rfl ?_
  refine z_icmp_ne K 59 dX12_drawPerson_33 (by decide) (fun c => ?_) (fun c => ?_)
  · have h := ite_f h c
    obtain rfl := Option.some.inj h
    exact z_vret K dX12_drawPerson_59
  · have h := ite_t h c
    refine z_aload_n K dX12_drawPerson_36 rfl ?_
    refine z_getR K clX12 k0 6 rfl rfl q1344 dX12_drawPerson_37 ?_
    refine z_bipush K 84 dX12_drawPerson_40 rfl ?_
    refine z_iload_n K dX12_drawPerson_42 rfl ?_
    refine z_iadd K dX12_drawPerson_43 ?_
    obtain ⟨hi, h⟩ := ix_e h
    refine z_iald K (hR.at (k := 6) (t := 20270) k0 rfl rfl) rfl rfl rfl hi dX12_drawPerson_44 ?_
    refine z_iconst K 2 dX12_drawPerson_45 rfl ?_
    refine z_icmp_ne K 59 dX12_drawPerson_46 (by decide) (fun c => ?_) (fun c => ?_)
    · have h := ite_f h c
      obtain rfl := Option.some.inj h
      exact z_vret K dX12_drawPerson_59
    · have h := ite_t h c
      refine z_aload_n K dX12_drawPerson_49 rfl ?_
      refine z_getR K clX12 k0 6 rfl rfl q1344 dX12_drawPerson_50 ?_
      refine z_bipush K 84 dX12_drawPerson_53 rfl ?_
      refine z_iload_n K dX12_drawPerson_55 rfl ?_
      refine z_iadd K dX12_drawPerson_56 ?_
      refine z_iconst K 3 dX12_drawPerson_57 rfl ?_
      obtain ⟨hi, h⟩ := ix_e h
      refine z_iast K (hR.at (k := 6) (t := 20270) k0 rfl rfl) rfl rfl rfl hi dX12_drawPerson_58 ?_
      obtain rfl := Option.some.inj h
      exact z_vret K dX12_drawPerson_59
set_option maxRecDepth 100000 in
set_option maxHeartbeats 4000000 in
theorem mX12_drawPerson {g : Gl} {R : Rf} {T : Mm} {a0 : Nat} {x1 : Int32} (l : Launch) (hR : Ty g R) (k0 : kd g a0 = 12) {r : Mm} (h : pX12_drawPerson R T a0 x1 = some r) : MV l g yX12_drawPerson cX12_drawPerson 3 none rmX12_drawPerson [.ref (g.2.2.1 a0), .int x1] R T R r := by
  refine z_metV (own := RX12) (lv := [some (.ref (g.2.2.1 a0)), some (.int x1), none]) (by decide +kernel) rfl rfl rfl (fun X K => ?_)
  unfold pX12_drawPerson at h
  refine z_aload_n K dX12_drawPerson_0 rfl ?_
  refine z_bipush K 8 dX12_drawPerson_1 rfl ?_
  obtain ⟨u1, T1, hc, h⟩ := bd2_e h
  refine z_callVI K (mX12_draw l hR k0 hc) clX12 k0 ceX12_draw q1864 ⟨rfl, rfl, rfl, rfl⟩ rfl rfl rfl dX12_drawPerson_3 ?_
  refine z_istore_n K dX12_drawPerson_6 rfl rfl ?_
  refine z_iload_n K dX12_drawPerson_7 rfl ?_
  refine z_if_ne K 31 dX12_drawPerson_8 (by decide) (fun c => ?_) (fun c => ?_)
  · have h := ite_f h c
    refine Zj.mask [true, true, true] ?_
    exact wX12_drawPerson_31 K hR k0 _ _ h
  · have h := ite_t h c
    refine z_aload_n K dX12_drawPerson_11 rfl ?_
    refine z_getR K clX12 k0 6 rfl rfl q1344 dX12_drawPerson_12 ?_
    refine z_bipush K 84 dX12_drawPerson_15 rfl ?_
    refine z_iload_n K dX12_drawPerson_17 rfl ?_
    refine z_iadd K dX12_drawPerson_18 ?_
    obtain ⟨hi, h⟩ := ix_e h
    refine z_iald K (hR.at (k := 6) (t := 20270) k0 rfl rfl) rfl rfl rfl hi dX12_drawPerson_19 ?_
    refine z_if_ne K 31 dX12_drawPerson_20 (by decide) (fun c => ?_) (fun c => ?_)
    · have h := ite_f h c
      refine Zj.mask [true, true, true] ?_
      exact wX12_drawPerson_31 K hR k0 _ _ h
    · have h := ite_t h c
      refine z_aload_n K dX12_drawPerson_23 rfl ?_
      refine z_iload_n K dX12_drawPerson_24 rfl ?_
      obtain ⟨T3, hc, h⟩ := bd1_e h
      refine z_callVV K (mX12_hangs l hR k0 hc) clX12 k0 ceX12_hangs q1673 ⟨rfl, rfl, rfl, rfl⟩ rfl rfl rfl dX12_drawPerson_25 ?_
      refine z_goto K 59 dX12_drawPerson_28 (by decide) ?_
      obtain rfl := Option.some.inj h
      exact z_vret K dX12_drawPerson_59
/-! GoingOverModel.drawItem ()V -/
abbrev rmX12_drawItem : Room := { frames := 5, cells := 0, slots := 0, locals := 110 }
def pX12_drawItem_81 (R : Rf) (a0 : Nat) (T : Mm) (x1 : Int32) : Option (Mm) :=
  if x1 = 1 then ix 2 270 (if (T.1 (R a0 6) (2 : Int32).toNatClampNeg) = 0 then some T else ix 2 270 (bd2 (pX12_draw R T a0 (T.1 (R a0 6) (2 : Int32).toNatClampNeg)) (fun (u2 : Int32) (T2 : Mm) => bd1 (pX12_whyBind R T2 a0 u2) (fun (u3 : Int32) => if u3 = 0 then ix 82 270 (ix 82 270 (lt (wI T2 (R a0 6) (82 : Int32).toNatClampNeg ((T2.1 (R a0 6) (82 : Int32).toNatClampNeg) ||| (1 <<< (u2 &&& 31)))) (fun (T4 : Mm) => some T4))) else some T2)))) else some T
def pX12_drawItem (R : Rf) (T : Mm) (a0 : Nat) : Option (Mm) :=
  bd2 (pX12_draw R T a0 4) (fun (u1 : Int32) (T1 : Mm) => if u1 = 0 then ix 1 270 (if (T1.1 (R a0 6) (1 : Int32).toNatClampNeg) ≤ 0 then pX12_drawItem_81 R a0 T1 u1 else ix 1 270 (bd2 (pX12_draw R T1 a0 (T1.1 (R a0 6) (1 : Int32).toNatClampNeg)) (fun (u5 : Int32) (T5 : Mm) => ix 81 270 (bd1 (pX12_bitOf R T5 (T5.1 (R a0 6) (81 : Int32).toNatClampNeg) u5) (fun (u6 : Int32) => if u6 = 0 then bd1 (pX12_whyLoad R T5 a0 u5) (fun (u7 : Int32) => if u7 = 0 then ix 81 270 (ix 81 270 (lt (wI T5 (R a0 6) (81 : Int32).toNatClampNeg ((T5.1 (R a0 6) (81 : Int32).toNatClampNeg) ||| (1 <<< (u5 &&& 31)))) (fun (T8 : Mm) => pX12_drawItem_81 R a0 T8 u1))) else pX12_drawItem_81 R a0 T5 u1) else bd1 (pX12_whyUnload R T5 a0 u5) (fun (u9 : Int32) => if u9 = 0 then bd1 (pX12_takesOut R T5 a0 u5) (fun (T10 : Mm) => pX12_drawItem_81 R a0 T10 u1) else pX12_drawItem_81 R a0 T5 u1)))))) else pX12_drawItem_81 R a0 T1 u1)
set_option maxRecDepth 100000 in
set_option maxHeartbeats 4000000 in
theorem wX12_drawItem_81 {X : Cx} {g : Gl} {l : Launch} {R : Rf} {a0 : Nat} (K : Ok X g l cX12_drawItem RX12 3 none rmX12_drawItem) (hR : Ty g R) (k0 : kd g a0 = 12) {r : Mm} (T : Mm) (x1 : Int32) (h : pX12_drawItem_81 R a0 T x1 = some r) : Zj X g 3 (QV X g R r) R T [some (.ref (g.2.2.1 a0)), some (.int x1), none] [] 81 := by
  unfold pX12_drawItem_81 at h
  refine z_iload_n K dX12_drawItem_81 rfl ?_
  refine z_iconst K 1 dX12_drawItem_82 rfl ?_
  refine z_icmp_ne K 95 dX12_drawItem_83 (by decide) (fun c => ?_) (fun c => ?_)
  · have h := ite_f h c
    obtain rfl := Option.some.inj h
    exact z_vret K dX12_drawItem_95
  · have h := ite_t h c
    refine z_aload_n K dX12_drawItem_86 rfl ?_
    refine z_getR K clX12 k0 6 rfl rfl q1344 dX12_drawItem_87 ?_
    refine z_iconst K 2 dX12_drawItem_90 rfl ?_
    obtain ⟨hi, h⟩ := ix_e h
    refine z_iald K (hR.at (k := 6) (t := 20270) k0 rfl rfl) rfl rfl rfl hi dX12_drawItem_91 ?_
    refine z_if_ne K 96 dX12_drawItem_92 (by decide) (fun c => ?_) (fun c => ?_)
    · have h := ite_f h c
      refine z_aload_n K dX12_drawItem_96 rfl ?_
      refine z_aload_n K dX12_drawItem_97 rfl ?_
      refine z_getR K clX12 k0 6 rfl rfl q1344 dX12_drawItem_98 ?_
      refine z_iconst K 2 dX12_drawItem_101 rfl ?_
      obtain ⟨hi, h⟩ := ix_e h
      refine z_iald K (hR.at (k := 6) (t := 20270) k0 rfl rfl) rfl rfl rfl hi dX12_drawItem_102 ?_
      obtain ⟨u2, T2, hc, h⟩ := bd2_e h
      refine z_callVI K (mX12_draw l hR k0 hc) clX12 k0 ceX12_draw q1864 ⟨rfl, rfl, rfl, rfl⟩ rfl rfl rfl dX12_drawItem_103 ?_
      refine z_istore_n K dX12_drawItem_106 rfl rfl ?_
      refine z_aload_n K dX12_drawItem_107 rfl ?_
      refine z_iload_n K dX12_drawItem_108 rfl ?_
      obtain ⟨u3, hc, h⟩ := bd1_e h
      refine z_callVI K (mX12_whyBind l hR k0 hc) clX12 k0 ceX12_whyBind q1717 ⟨rfl, rfl, rfl, rfl⟩ rfl rfl rfl dX12_drawItem_109 ?_
      refine z_if_ne K 128 dX12_drawItem_112 (by decide) (fun c => ?_) (fun c => ?_)
      · have h := ite_f h c
        obtain rfl := Option.some.inj h
        exact z_vret K dX12_drawItem_128
      · have h := ite_t h c
        refine z_aload_n K dX12_drawItem_115 rfl ?_
        refine z_getR K clX12 k0 6 rfl rfl q1344 dX12_drawItem_116 ?_
        refine z_bipush K 82 dX12_drawItem_119 rfl ?_
        refine z_dup2 K dX12_drawItem_121 rfl rfl ?_
        obtain ⟨hi, h⟩ := ix_e h
        refine z_iald K (hR.at (k := 6) (t := 20270) k0 rfl rfl) rfl rfl rfl hi dX12_drawItem_122 ?_
        refine z_iconst K 1 dX12_drawItem_123 rfl ?_
        refine z_iload_n K dX12_drawItem_124 rfl ?_
        refine z_ishl K dX12_drawItem_125 ?_
        refine z_ior K dX12_drawItem_126 ?_
        obtain ⟨hi, h⟩ := ix_e h
        refine z_iast K (hR.at (k := 6) (t := 20270) k0 rfl rfl) rfl rfl rfl hi dX12_drawItem_127 ?_
        obtain rfl := Option.some.inj h
        exact z_vret K dX12_drawItem_128
    · have h := ite_t h c
      obtain rfl := Option.some.inj h
      exact z_vret K dX12_drawItem_95
set_option maxRecDepth 100000 in
set_option maxHeartbeats 4000000 in
theorem mX12_drawItem {g : Gl} {R : Rf} {T : Mm} {a0 : Nat} (l : Launch) (hR : Ty g R) (k0 : kd g a0 = 12) {r : Mm} (h : pX12_drawItem R T a0 = some r) : MV l g yX12_drawItem cX12_drawItem 3 none rmX12_drawItem [.ref (g.2.2.1 a0)] R T R r := by
  refine z_metV (own := RX12) (lv := [some (.ref (g.2.2.1 a0)), none, none]) (by decide +kernel) rfl rfl rfl (fun X K => ?_)
  unfold pX12_drawItem at h
  refine z_aload_n K dX12_drawItem_0 rfl ?_
  refine z_iconst K 4 dX12_drawItem_1 rfl ?_
  obtain ⟨u1, T1, hc, h⟩ := bd2_e h
  refine z_callVI K (mX12_draw l hR k0 hc) clX12 k0 ceX12_draw q1864 ⟨rfl, rfl, rfl, rfl⟩ rfl rfl rfl dX12_drawItem_2 ?_
  refine z_istore_n K dX12_drawItem_5 rfl rfl ?_
  refine z_iload_n K dX12_drawItem_6 rfl ?_
  refine z_if_ne K 81 dX12_drawItem_7 (by decide) (fun c => ?_) (fun c => ?_)
  · have h := ite_f h c
    refine Zj.mask [true, true, false] ?_
    exact wX12_drawItem_81 K hR k0 _ _ h
  · have h := ite_t h c
    refine z_aload_n K dX12_drawItem_10 rfl ?_
    refine z_getR K clX12 k0 6 rfl rfl q1344 dX12_drawItem_11 ?_
    refine z_iconst K 1 dX12_drawItem_14 rfl ?_
    obtain ⟨hi, h⟩ := ix_e h
    refine z_iald K (hR.at (k := 6) (t := 20270) k0 rfl rfl) rfl rfl rfl hi dX12_drawItem_15 ?_
    refine z_if_le K 81 dX12_drawItem_16 (by decide) (fun c => ?_) (fun c => ?_)
    · have h := ite_t h c
      refine Zj.mask [true, true, false] ?_
      exact wX12_drawItem_81 K hR k0 _ _ h
    · have h := ite_f h c
      refine z_aload_n K dX12_drawItem_19 rfl ?_
      refine z_aload_n K dX12_drawItem_20 rfl ?_
      refine z_getR K clX12 k0 6 rfl rfl q1344 dX12_drawItem_21 ?_
      refine z_iconst K 1 dX12_drawItem_24 rfl ?_
      obtain ⟨hi, h⟩ := ix_e h
      refine z_iald K (hR.at (k := 6) (t := 20270) k0 rfl rfl) rfl rfl rfl hi dX12_drawItem_25 ?_
      obtain ⟨u5, T5, hc, h⟩ := bd2_e h
      refine z_callVI K (mX12_draw l hR k0 hc) clX12 k0 ceX12_draw q1864 ⟨rfl, rfl, rfl, rfl⟩ rfl rfl rfl dX12_drawItem_26 ?_
      refine z_istore_n K dX12_drawItem_29 rfl rfl ?_
      refine z_aload_n K dX12_drawItem_30 rfl ?_
      refine z_getR K clX12 k0 6 rfl rfl q1344 dX12_drawItem_31 ?_
      refine z_bipush K 81 dX12_drawItem_34 rfl ?_
      obtain ⟨hi, h⟩ := ix_e h
      refine z_iald K (hR.at (k := 6) (t := 20270) k0 rfl rfl) rfl rfl rfl hi dX12_drawItem_36 ?_
      refine z_iload_n K dX12_drawItem_37 rfl ?_
      obtain ⟨u6, hc, h⟩ := bd1_e h
      refine z_callSI K (mX12_bitOf l hR hc) ceX12_bitOf q1524 ⟨rfl, rfl, rfl, rfl⟩ rfl rfl rfl dX12_drawItem_38 ?_
      refine z_if_eq K 60 dX12_drawItem_41 (by decide) (fun c => ?_) (fun c => ?_)
      · have h := ite_t h c
        refine z_aload_n K dX12_drawItem_60 rfl ?_
        refine z_iload_n K dX12_drawItem_61 rfl ?_
        obtain ⟨u7, hc, h⟩ := bd1_e h
        refine z_callVI K (mX12_whyLoad l hR k0 hc) clX12 k0 ceX12_whyLoad q1709 ⟨rfl, rfl, rfl, rfl⟩ rfl rfl rfl dX12_drawItem_62 ?_
        refine z_if_ne K 81 dX12_drawItem_65 (by decide) (fun c => ?_) (fun c => ?_)
        · have h := ite_f h c
          refine Zj.mask [true, true, false] ?_
          exact wX12_drawItem_81 K hR k0 _ _ h
        · have h := ite_t h c
          refine z_aload_n K dX12_drawItem_68 rfl ?_
          refine z_getR K clX12 k0 6 rfl rfl q1344 dX12_drawItem_69 ?_
          refine z_bipush K 81 dX12_drawItem_72 rfl ?_
          refine z_dup2 K dX12_drawItem_74 rfl rfl ?_
          obtain ⟨hi, h⟩ := ix_e h
          refine z_iald K (hR.at (k := 6) (t := 20270) k0 rfl rfl) rfl rfl rfl hi dX12_drawItem_75 ?_
          refine z_iconst K 1 dX12_drawItem_76 rfl ?_
          refine z_iload_n K dX12_drawItem_77 rfl ?_
          refine z_ishl K dX12_drawItem_78 ?_
          refine z_ior K dX12_drawItem_79 ?_
          obtain ⟨hi, h⟩ := ix_e h
          refine z_iast K (hR.at (k := 6) (t := 20270) k0 rfl rfl) rfl rfl rfl hi dX12_drawItem_80 ?_
          refine Zj.mask [true, true, false] ?_
          exact wX12_drawItem_81 K hR k0 _ _ h
      · have h := ite_f h c
        refine z_aload_n K dX12_drawItem_44 rfl ?_
        refine z_iload_n K dX12_drawItem_45 rfl ?_
        obtain ⟨u9, hc, h⟩ := bd1_e h
        refine z_callVI K (mX12_whyUnload l hR k0 hc) clX12 k0 ceX12_whyUnload q1693 ⟨rfl, rfl, rfl, rfl⟩ rfl rfl rfl dX12_drawItem_46 ?_
        refine z_if_ne K 81 dX12_drawItem_49 (by decide) (fun c => ?_) (fun c => ?_)
        · have h := ite_f h c
          refine Zj.mask [true, true, false] ?_
          exact wX12_drawItem_81 K hR k0 _ _ h
        · have h := ite_t h c
          refine z_aload_n K dX12_drawItem_52 rfl ?_
          refine z_iload_n K dX12_drawItem_53 rfl ?_
          obtain ⟨T10, hc, h⟩ := bd1_e h
          refine z_callVV K (mX12_takesOut l hR k0 hc) clX12 k0 ceX12_takesOut q1701 ⟨rfl, rfl, rfl, rfl⟩ rfl rfl rfl dX12_drawItem_54 ?_
          refine z_goto K 81 dX12_drawItem_57 (by decide) ?_
          refine Zj.mask [true, true, false] ?_
          exact wX12_drawItem_81 K hR k0 _ _ h
/-! GoingOverModel.draws (II)I -/
abbrev rmX12_draws : Room := { frames := 6, cells := 0, slots := 0, locals := 132 }
def pX12_draws_28 (R : Rf) (a0 : Nat) (x1 : Int32) (x2 : Int32) (e51 : Mm → Int32 → Option (Int32 × Mm)) (r28 : Mm → Int32 → Int32 → Option (Int32 × Mm)) (T : Mm) (x3 : Int32) (x4 : Int32) : Option (Int32 × Mm) :=
  ix 0 270 (if (T.1 (R a0 6) (0 : Int32).toNatClampNeg) ≤ x4 then e51 T x3 else bd1 (pX12_drawPerson R T a0 x4) (fun (T2 : Mm) => lt (x4 + 1) (fun (v3 : Int32) => r28 T2 x3 v3)))
def pX12_draws_51 (R : Rf) (a0 : Nat) (x1 : Int32) (x2 : Int32) (r7 : Mm → Int32 → Option (Int32 × Mm)) (e65 : Mm → Int32 → Option (Int32 × Mm)) (T : Mm) (x3 : Int32) : Option (Int32 × Mm) :=
  bd1 (pX12_drawItem R T a0) (fun (T4 : Mm) => bd1 (pX12_day R T4 a0) (fun (T5 : Mm) => lt (x3 + 1) (fun (v6 : Int32) => r7 T5 v6)))
def pX12_draws_7 (R : Rf) (a0 : Nat) (x1 : Int32) (x2 : Int32) (e65 : Mm → Int32 → Option (Int32 × Mm)) (r7 : Mm → Int32 → Option (Int32 × Mm)) (T : Mm) (x3 : Int32) : Option (Int32 × Mm) :=
  if x1 ≤ x3 then e65 T x3 else ix 80 270 (if 400 ≤ (T.1 (R a0 6) (80 : Int32).toNatClampNeg) then e65 T x3 else zl3 (pX12_draws_28 R a0 x1 x2 (pX12_draws_51 R a0 x1 x2 r7 e65)) FU T x3 0)
def pX12_draws_65 (R : Rf) (a0 : Nat) (x1 : Int32) (x2 : Int32) (T : Mm) (x3 : Int32) : Option (Int32 × Mm) :=
  some (x3, T)
def pX12_draws (R : Rf) (T : Mm) (a0 : Nat) (x1 : Int32) (x2 : Int32) : Option (Int32 × Mm) :=
  lt (wI T a0 36 x2) (fun (T1 : Mm) => zl2 (pX12_draws_7 R a0 x1 x2 (pX12_draws_65 R a0 x1 x2)) FU T1 0)
set_option maxRecDepth 100000 in
set_option maxHeartbeats 4000000 in
theorem wX12_draws_28 {X : Cx} {g : Gl} {l : Launch} {R : Rf} {a0 : Nat} {x1 : Int32} {x2 : Int32} (K : Ok X g l cX12_draws RX12 5 (some .int) rmX12_draws) (hR : Ty g R) (k0 : kd g a0 = 12) {r : Int32 × Mm} {e51 : Mm → Int32 → Option (Int32 × Mm)} (he51 : ∀ (T : Mm) (x3 : Int32), e51 T x3 = some r → Zj X g 5 (QI X g r.1 R r.2) R T [some (.ref (g.2.2.1 a0)), some (.int x1), none, some (.int x3), none] [] 51) : ∀ (n : Nat) (T : Mm) (x3 : Int32) (x4 : Int32), zl3 (pX12_draws_28 R a0 x1 x2 e51) n T x3 x4 = some r → Zj X g 5 (QI X g r.1 R r.2) R T [some (.ref (g.2.2.1 a0)), some (.int x1), none, some (.int x3), some (.int x4)] [] 28 := by
  intro n
  induction n with
  | zero =>
    intro T x3 x4 h
    exact absurd h (by simp [zl3])
  | succ n hr28 =>
    intro T x3 x4 h
    rw [zl3_s] at h
    unfold pX12_draws_28 at h
    refine z_iload K dX12_draws_28 rfl ?_
    refine z_aload_n K dX12_draws_30 rfl ?_
    refine z_getR K clX12 k0 6 rfl rfl q1344 dX12_draws_31 ?_
    refine z_iconst K 0 dX12_draws_34 rfl ?_
    obtain ⟨hi, h⟩ := ix_e h
    refine z_iald K (hR.at (k := 6) (t := 20270) k0 rfl rfl) rfl rfl rfl hi dX12_draws_35 ?_
    refine z_icmp_ge K 51 dX12_draws_36 (by decide) (fun c => ?_) (fun c => ?_)
    · have h := ite_t h c
      refine Zj.mask [true, true, false, true, false] ?_
      exact he51 _ _ h
    · have h := ite_f h c
      refine z_aload_n K dX12_draws_39 rfl ?_
      refine z_iload K dX12_draws_40 rfl ?_
      obtain ⟨T2, hc, h⟩ := bd1_e h
      refine z_callVV K (mX12_drawPerson l hR k0 hc) clX12 k0 ceX12_drawPerson q1860 ⟨rfl, rfl, rfl, rfl⟩ rfl rfl rfl dX12_draws_42 ?_
      refine z_iinc K 1 dX12_draws_45 rfl rfl rfl rfl ?_
      refine z_goto K 28 dX12_draws_48 (by decide) ?_
      refine Zj.mask [true, true, false, true, true] ?_
      exact hr28 _ _ _ h
set_option maxRecDepth 100000 in
set_option maxHeartbeats 4000000 in
theorem wX12_draws_51 {X : Cx} {g : Gl} {l : Launch} {R : Rf} {a0 : Nat} {x1 : Int32} {x2 : Int32} (K : Ok X g l cX12_draws RX12 5 (some .int) rmX12_draws) (hR : Ty g R) (k0 : kd g a0 = 12) {r : Int32 × Mm} {r7 : Mm → Int32 → Option (Int32 × Mm)} (hr7 : ∀ (T : Mm) (x3 : Int32), r7 T x3 = some r → Zj X g 5 (QI X g r.1 R r.2) R T [some (.ref (g.2.2.1 a0)), some (.int x1), none, some (.int x3), none] [] 7) {e65 : Mm → Int32 → Option (Int32 × Mm)} (he65 : ∀ (T : Mm) (x3 : Int32), e65 T x3 = some r → Zj X g 5 (QI X g r.1 R r.2) R T [none, none, none, some (.int x3), none] [] 65) (T : Mm) (x3 : Int32) (h : pX12_draws_51 R a0 x1 x2 r7 e65 T x3 = some r) : Zj X g 5 (QI X g r.1 R r.2) R T [some (.ref (g.2.2.1 a0)), some (.int x1), none, some (.int x3), none] [] 51 := by
  unfold pX12_draws_51 at h
  refine z_aload_n K dX12_draws_51 rfl ?_
  obtain ⟨T4, hc, h⟩ := bd1_e h
  refine z_callVV K (mX12_drawItem l hR k0 hc) clX12 k0 ceX12_drawItem q1869 ⟨rfl, rfl, rfl, rfl⟩ rfl rfl rfl dX12_draws_52 ?_
  refine z_aload_n K dX12_draws_55 rfl ?_
  obtain ⟨T5, hc, h⟩ := bd1_e h
  refine z_callVV K (mX12_day l hR k0 hc) clX12 k0 ceX12_day q1729 ⟨rfl, rfl, rfl, rfl⟩ rfl rfl rfl dX12_draws_56 ?_
  refine z_iinc K 1 dX12_draws_59 rfl rfl rfl rfl ?_
  refine z_goto K 7 dX12_draws_62 (by decide) ?_
  refine Zj.mask [true, true, false, true, false] ?_
  exact hr7 _ _ h
set_option maxRecDepth 100000 in
set_option maxHeartbeats 4000000 in
theorem wX12_draws_7 {X : Cx} {g : Gl} {l : Launch} {R : Rf} {a0 : Nat} {x1 : Int32} {x2 : Int32} (K : Ok X g l cX12_draws RX12 5 (some .int) rmX12_draws) (hR : Ty g R) (k0 : kd g a0 = 12) {r : Int32 × Mm} {e65 : Mm → Int32 → Option (Int32 × Mm)} (he65 : ∀ (T : Mm) (x3 : Int32), e65 T x3 = some r → Zj X g 5 (QI X g r.1 R r.2) R T [none, none, none, some (.int x3), none] [] 65) : ∀ (n : Nat) (T : Mm) (x3 : Int32), zl2 (pX12_draws_7 R a0 x1 x2 e65) n T x3 = some r → Zj X g 5 (QI X g r.1 R r.2) R T [some (.ref (g.2.2.1 a0)), some (.int x1), none, some (.int x3), none] [] 7 := by
  intro n
  induction n with
  | zero =>
    intro T x3 h
    exact absurd h (by simp [zl2])
  | succ n hr7 =>
    intro T x3 h
    rw [zl2_s] at h
    unfold pX12_draws_7 at h
    refine z_iload_n K dX12_draws_7 rfl ?_
    refine z_iload_n K dX12_draws_8 rfl ?_
    refine z_icmp_ge K 65 dX12_draws_9 (by decide) (fun c => ?_) (fun c => ?_)
    · have h := ite_t h c
      refine Zj.mask [false, false, false, true, false] ?_
      exact he65 _ _ h
    · have h := ite_f h c
      refine z_aload_n K dX12_draws_12 rfl ?_
      refine z_getR K clX12 k0 6 rfl rfl q1344 dX12_draws_13 ?_
      refine z_bipush K 80 dX12_draws_16 rfl ?_
      obtain ⟨hi, h⟩ := ix_e h
      refine z_iald K (hR.at (k := 6) (t := 20270) k0 rfl rfl) rfl rfl rfl hi dX12_draws_18 ?_
      refine z_sipush K 400 dX12_draws_19 rfl ?_
      refine z_icmp_ge K 65 dX12_draws_22 (by decide) (fun c => ?_) (fun c => ?_)
      · have h := ite_t h c
        refine Zj.mask [false, false, false, true, false] ?_
        exact he65 _ _ h
      · have h := ite_f h c
        refine z_iconst K 0 dX12_draws_25 rfl ?_
        refine z_istore K dX12_draws_26 rfl rfl ?_
        refine Zj.mask [true, true, false, true, true] ?_
        exact wX12_draws_28 K hR k0 (wX12_draws_51 K hR k0 hr7 he65) FU _ _ _ h
set_option maxRecDepth 100000 in
set_option maxHeartbeats 4000000 in
theorem wX12_draws_65 {X : Cx} {g : Gl} {l : Launch} {R : Rf} {a0 : Nat} {x1 : Int32} {x2 : Int32} (K : Ok X g l cX12_draws RX12 5 (some .int) rmX12_draws) (hR : Ty g R) (k0 : kd g a0 = 12) {r : Int32 × Mm} (T : Mm) (x3 : Int32) (h : pX12_draws_65 R a0 x1 x2 T x3 = some r) : Zj X g 5 (QI X g r.1 R r.2) R T [none, none, none, some (.int x3), none] [] 65 := by
  unfold pX12_draws_65 at h
  refine z_iload_n K dX12_draws_65 rfl ?_
  obtain rfl := Option.some.inj h
  exact z_iret K dX12_draws_66
set_option maxRecDepth 100000 in
set_option maxHeartbeats 4000000 in
theorem mX12_draws {g : Gl} {R : Rf} {T : Mm} {a0 : Nat} {x1 : Int32} {x2 : Int32} (l : Launch) (hR : Ty g R) (k0 : kd g a0 = 12) {r : Int32 × Mm} (h : pX12_draws R T a0 x1 x2 = some r) : MI l g yX12_draws cX12_draws 5 (some .int) rmX12_draws [.ref (g.2.2.1 a0), .int x1, .int x2] R T r.1 R r.2 := by
  refine z_metI (own := RX12) (lv := [some (.ref (g.2.2.1 a0)), some (.int x1), some (.int x2), none, none]) (by decide +kernel) rfl rfl rfl (fun X K => ?_)
  unfold pX12_draws at h
  refine z_aload_n K dX12_draws_0 rfl ?_
  refine z_iload_n K dX12_draws_1 rfl ?_
  refine z_putI K clX12 tyX12_ok nmX12 k0 36 rfl rfl q1374 rfl rfl rfl dX12_draws_2 ?_
  refine z_iconst K 0 dX12_draws_5 rfl ?_
  refine z_istore_n K dX12_draws_6 rfl rfl ?_
  refine Zj.mask [true, true, false, true, false] ?_
  exact wX12_draws_7 K hR k0 (wX12_draws_65 K hR k0) FU _ _ h
/-! GoingOverModel.drawn (II)I -/
abbrev rmX12_drawn : Room := { frames := 7, cells := 0, slots := 0, locals := 156 }
def pX12_drawn_34 (R : Rf) (a0 : Nat) (x1 : Int32) (x2 : Int32) (T : Mm) : Option (Int32 × Mm) :=
  bd2 (pX12_draws R T a0 x1 x2) (fun (u3 : Int32) (T3 : Mm) => some (u3, T3))
def pX12_drawn (R : Rf) (T : Mm) (a0 : Nat) (x1 : Int32) (x2 : Int32) : Option (Int32 × Mm) :=
  lt (wI T a0 0 0) (fun (T1 : Mm) => bd1 (pX12_isIn R T1 x1 1 60) (fun (u2 : Int32) => if u2 = 0 then some ((-1), T1) else ix 80 270 (if 400 ≤ (T1.1 (R a0 6) (80 : Int32).toNatClampNeg) then pX12_drawn_34 R a0 x1 x2 T1 else bd1 (pX12_stores R T1 a0) (fun (T4 : Mm) => pX12_drawn_34 R a0 x1 x2 T4))))
set_option maxRecDepth 100000 in
set_option maxHeartbeats 4000000 in
theorem wX12_drawn_34 {X : Cx} {g : Gl} {l : Launch} {R : Rf} {a0 : Nat} {x1 : Int32} {x2 : Int32} (K : Ok X g l cX12_drawn RX12 3 (some .int) rmX12_drawn) (hR : Ty g R) (k0 : kd g a0 = 12) {r : Int32 × Mm} (T : Mm) (h : pX12_drawn_34 R a0 x1 x2 T = some r) : Zj X g 3 (QI X g r.1 R r.2) R T [some (.ref (g.2.2.1 a0)), some (.int x1), some (.int x2)] [] 34 := by
  unfold pX12_drawn_34 at h
  refine z_aload_n K dX12_drawn_34 rfl ?_
  refine z_iload_n K dX12_drawn_35 rfl ?_
  refine z_iload_n K dX12_drawn_36 rfl ?_
  obtain ⟨u3, T3, hc, h⟩ := bd2_e h
  refine z_callVI K (mX12_draws l hR k0 hc) clX12 k0 ceX12_draws q1856 ⟨rfl, rfl, rfl, rfl⟩ rfl rfl rfl dX12_drawn_37 ?_
  obtain rfl := Option.some.inj h
  exact z_iret K dX12_drawn_40
set_option maxRecDepth 100000 in
set_option maxHeartbeats 4000000 in
theorem mX12_drawn {g : Gl} {R : Rf} {T : Mm} {a0 : Nat} {x1 : Int32} {x2 : Int32} (l : Launch) (hR : Ty g R) (k0 : kd g a0 = 12) {r : Int32 × Mm} (h : pX12_drawn R T a0 x1 x2 = some r) : MI l g yX12_drawn cX12_drawn 3 (some .int) rmX12_drawn [.ref (g.2.2.1 a0), .int x1, .int x2] R T r.1 R r.2 := by
  refine z_metI (own := RX12) (lv := [some (.ref (g.2.2.1 a0)), some (.int x1), some (.int x2)]) (by decide +kernel) rfl rfl rfl (fun X K => ?_)
  unfold pX12_drawn at h
  refine z_aload_n K dX12_drawn_0 rfl ?_
  refine z_iconst K 0 dX12_drawn_1 rfl ?_
  refine z_putI K clX12 tyX12_ok nmX12 k0 0 rfl rfl q1338 rfl rfl rfl dX12_drawn_2 ?_
  refine z_iload_n K dX12_drawn_5 rfl ?_
  refine z_iconst K 1 dX12_drawn_6 rfl ?_
  refine z_bipush K 60 dX12_drawn_7 rfl ?_
  obtain ⟨u2, hc, h⟩ := bd1_e h
  refine z_callSI K (mX12_isIn l hR hc) ceX12_isIn q1539 ⟨rfl, rfl, rfl, rfl⟩ rfl rfl rfl dX12_drawn_9 ?_
  refine z_if_ne K 17 dX12_drawn_12 (by decide) (fun c => ?_) (fun c => ?_)
  · have h := ite_f h c
    refine z_aload_n K dX12_drawn_17 rfl ?_
    refine z_getR K clX12 k0 6 rfl rfl q1344 dX12_drawn_18 ?_
    refine z_bipush K 80 dX12_drawn_21 rfl ?_
    obtain ⟨hi, h⟩ := ix_e h
    refine z_iald K (hR.at (k := 6) (t := 20270) k0 rfl rfl) rfl rfl rfl hi dX12_drawn_23 ?_
    refine z_sipush K 400 dX12_drawn_24 rfl ?_
    refine z_icmp_ge K 34 dX12_drawn_27 (by decide) (fun c => ?_) (fun c => ?_)
    · have h := ite_t h c
      refine Zj.mask [true, true, true] ?_
      exact wX12_drawn_34 K hR k0 _ h
    · have h := ite_f h c
      refine z_aload_n K dX12_drawn_30 rfl ?_
      obtain ⟨T4, hc, h⟩ := bd1_e h
      refine z_callVV K (mX12_stores l hR k0 hc) clX12 k0 ceX12_stores q1669 ⟨rfl, rfl, rfl, rfl⟩ rfl rfl rfl dX12_drawn_31 ?_
      refine Zj.mask [true, true, true] ?_
      exact wX12_drawn_34 K hR k0 _ h
  · have h := ite_t h c
    refine z_iconst K (-1) dX12_drawn_15 rfl ?_
    obtain rfl := Option.some.inj h
    exact z_iret K dX12_drawn_16
/-! GoingOverModel.odds (III)I -/
abbrev rmX12_odds : Room := { frames := 7, cells := 0, slots := 0, locals := 156 }
def pX12_odds_76 (R : Rf) (a0 : Nat) (x1 : Int32) (x2 : Int32) (x3 : Int32) (r35 : Mm → Int32 → Int32 → Option (Int32 × Mm)) (e89 : Mm → Int32 → Option (Int32 × Mm)) (T : Mm) (x5 : Int32) (xs0 : Int32) (xs1 : Int32) : Option (Int32 × Mm) :=
  lt (xs0 + xs1) (fun (v7 : Int32) => bd1 (pX12_back R T a0) (fun (T8 : Mm) => lt (x5 + 1) (fun (v9 : Int32) => r35 T8 v7 v9)))
def pX12_odds_75 (R : Rf) (a0 : Nat) (x1 : Int32) (x2 : Int32) (x3 : Int32) (r35 : Mm → Int32 → Int32 → Option (Int32 × Mm)) (e89 : Mm → Int32 → Option (Int32 × Mm)) (T : Mm) (x5 : Int32) (xs0 : Int32) : Option (Int32 × Mm) :=
  pX12_odds_76 R a0 x1 x2 x3 r35 e89 T x5 xs0 0
def pX12_odds_35 (R : Rf) (a0 : Nat) (x1 : Int32) (x2 : Int32) (x3 : Int32) (e89 : Mm → Int32 → Option (Int32 × Mm)) (r35 : Mm → Int32 → Int32 → Option (Int32 × Mm)) (T : Mm) (x4 : Int32) (x5 : Int32) : Option (Int32 × Mm) :=
  if x2 ≤ x5 then e89 T x4 else bd2 (pX12_draws R T a0 20 (x3 + x5)) (fun (u5 : Int32) (T5 : Mm) => bd1 (pX12_isDown R T5 a0 x1) (fun (u6 : Int32) => if u6 = 0 then pX12_odds_75 R a0 x1 x2 x3 r35 e89 T5 x5 x4 else bd1 (pX12_partsNow R T5 a0 x1) (fun (u10 : Int32) => if u10 = 1 then pX12_odds_76 R a0 x1 x2 x3 r35 e89 T5 x5 x4 1 else pX12_odds_75 R a0 x1 x2 x3 r35 e89 T5 x5 x4)))
def pX12_odds_89 (R : Rf) (a0 : Nat) (x1 : Int32) (x2 : Int32) (x3 : Int32) (T : Mm) (x4 : Int32) : Option (Int32 × Mm) :=
  some (x4, T)
def pX12_odds (R : Rf) (T : Mm) (a0 : Nat) (x1 : Int32) (x2 : Int32) (x3 : Int32) : Option (Int32 × Mm) :=
  lt (wI T a0 0 0) (fun (T1 : Mm) => bd1 (pX12_isPerson R T1 a0 x1) (fun (u2 : Int32) => if u2 = 0 then some ((-1), T1) else bd1 (pX12_isIn R T1 x2 1 30) (fun (u3 : Int32) => if u3 = 0 then some ((-1), T1) else bd1 (pX12_tries R T1 a0) (fun (T4 : Mm) => zl3 (pX12_odds_35 R a0 x1 x2 x3 (pX12_odds_89 R a0 x1 x2 x3)) FU T4 0 0))))
set_option maxRecDepth 100000 in
set_option maxHeartbeats 4000000 in
theorem wX12_odds_76 {X : Cx} {g : Gl} {l : Launch} {R : Rf} {a0 : Nat} {x1 : Int32} {x2 : Int32} {x3 : Int32} (K : Ok X g l cX12_odds RX12 6 (some .int) rmX12_odds) (hR : Ty g R) (k0 : kd g a0 = 12) {r : Int32 × Mm} {r35 : Mm → Int32 → Int32 → Option (Int32 × Mm)} (hr35 : ∀ (T : Mm) (x4 : Int32) (x5 : Int32), r35 T x4 x5 = some r → Zj X g 6 (QI X g r.1 R r.2) R T [some (.ref (g.2.2.1 a0)), some (.int x1), some (.int x2), some (.int x3), some (.int x4), some (.int x5)] [] 35) {e89 : Mm → Int32 → Option (Int32 × Mm)} (he89 : ∀ (T : Mm) (x4 : Int32), e89 T x4 = some r → Zj X g 6 (QI X g r.1 R r.2) R T [none, none, none, none, some (.int x4), none] [] 89) (T : Mm) (x5 : Int32) (xs0 : Int32) (xs1 : Int32) (h : pX12_odds_76 R a0 x1 x2 x3 r35 e89 T x5 xs0 xs1 = some r) : Zj X g 6 (QI X g r.1 R r.2) R T [some (.ref (g.2.2.1 a0)), some (.int x1), some (.int x2), some (.int x3), none, some (.int x5)] [.int xs1, .int xs0] 76 := by
  unfold pX12_odds_76 at h
  refine z_iadd K dX12_odds_76 ?_
  refine z_istore K dX12_odds_77 rfl rfl ?_
  refine z_aload_n K dX12_odds_79 rfl ?_
  obtain ⟨T8, hc, h⟩ := bd1_e h
  refine z_callVV K (mX12_back l hR k0 hc) clX12 k0 ceX12_back q1881 ⟨rfl, rfl, rfl, rfl⟩ rfl rfl rfl dX12_odds_80 ?_
  refine z_iinc K 1 dX12_odds_83 rfl rfl rfl rfl ?_
  refine z_goto K 35 dX12_odds_86 (by decide) ?_
  refine Zj.mask [true, true, true, true, true, true] ?_
  exact hr35 _ _ _ h
set_option maxRecDepth 100000 in
set_option maxHeartbeats 4000000 in
theorem wX12_odds_75 {X : Cx} {g : Gl} {l : Launch} {R : Rf} {a0 : Nat} {x1 : Int32} {x2 : Int32} {x3 : Int32} (K : Ok X g l cX12_odds RX12 6 (some .int) rmX12_odds) (hR : Ty g R) (k0 : kd g a0 = 12) {r : Int32 × Mm} {r35 : Mm → Int32 → Int32 → Option (Int32 × Mm)} (hr35 : ∀ (T : Mm) (x4 : Int32) (x5 : Int32), r35 T x4 x5 = some r → Zj X g 6 (QI X g r.1 R r.2) R T [some (.ref (g.2.2.1 a0)), some (.int x1), some (.int x2), some (.int x3), some (.int x4), some (.int x5)] [] 35) {e89 : Mm → Int32 → Option (Int32 × Mm)} (he89 : ∀ (T : Mm) (x4 : Int32), e89 T x4 = some r → Zj X g 6 (QI X g r.1 R r.2) R T [none, none, none, none, some (.int x4), none] [] 89) (T : Mm) (x5 : Int32) (xs0 : Int32) (h : pX12_odds_75 R a0 x1 x2 x3 r35 e89 T x5 xs0 = some r) : Zj X g 6 (QI X g r.1 R r.2) R T [some (.ref (g.2.2.1 a0)), some (.int x1), some (.int x2), some (.int x3), none, some (.int x5)] [.int xs0] 75 := by
  unfold pX12_odds_75 at h
  refine z_iconst K 0 dX12_odds_75 rfl ?_
  refine Zj.mask [true, true, true, true, false, true] ?_
  exact wX12_odds_76 K hR k0 hr35 he89 _ _ _ _ h
set_option maxRecDepth 100000 in
set_option maxHeartbeats 4000000 in
theorem wX12_odds_35 {X : Cx} {g : Gl} {l : Launch} {R : Rf} {a0 : Nat} {x1 : Int32} {x2 : Int32} {x3 : Int32} (K : Ok X g l cX12_odds RX12 6 (some .int) rmX12_odds) (hR : Ty g R) (k0 : kd g a0 = 12) {r : Int32 × Mm} {e89 : Mm → Int32 → Option (Int32 × Mm)} (he89 : ∀ (T : Mm) (x4 : Int32), e89 T x4 = some r → Zj X g 6 (QI X g r.1 R r.2) R T [none, none, none, none, some (.int x4), none] [] 89) : ∀ (n : Nat) (T : Mm) (x4 : Int32) (x5 : Int32), zl3 (pX12_odds_35 R a0 x1 x2 x3 e89) n T x4 x5 = some r → Zj X g 6 (QI X g r.1 R r.2) R T [some (.ref (g.2.2.1 a0)), some (.int x1), some (.int x2), some (.int x3), some (.int x4), some (.int x5)] [] 35 := by
  intro n
  induction n with
  | zero =>
    intro T x4 x5 h
    exact absurd h (by simp [zl3])
  | succ n hr35 =>
    intro T x4 x5 h
    rw [zl3_s] at h
    unfold pX12_odds_35 at h
    refine z_iload K dX12_odds_35 rfl ?_
    refine z_iload_n K dX12_odds_37 rfl ?_
    refine z_icmp_ge K 89 dX12_odds_38 (by decide) (fun c => ?_) (fun c => ?_)
    · have h := ite_t h c
      refine Zj.mask [false, false, false, false, true, false] ?_
      exact he89 _ _ h
    · have h := ite_f h c
      refine z_aload_n K dX12_odds_41 rfl ?_
      refine z_bipush K 20 dX12_odds_42 rfl ?_
      refine z_iload_n K dX12_odds_44 rfl ?_
      refine z_iload K dX12_odds_45 rfl ?_
      refine z_iadd K dX12_odds_47 ?_
      obtain ⟨u5, T5, hc, h⟩ := bd2_e h
      refine z_callVI K (mX12_draws l hR k0 hc) clX12 k0 ceX12_draws q1856 ⟨rfl, rfl, rfl, rfl⟩ rfl rfl rfl dX12_odds_48 ?_
      refine z_pop K dX12_odds_51 rfl ?_
      refine z_iload K dX12_odds_52 rfl ?_
      refine z_aload_n K dX12_odds_54 rfl ?_
      refine z_iload_n K dX12_odds_55 rfl ?_
      obtain ⟨u6, hc, h⟩ := bd1_e h
      refine z_callVI K (mX12_isDown l hR k0 hc) clX12 k0 ceX12_isDown q1697 ⟨rfl, rfl, rfl, rfl⟩ rfl rfl rfl dX12_odds_56 ?_
      refine z_if_eq K 75 dX12_odds_59 (by decide) (fun c => ?_) (fun c => ?_)
      · have h := ite_t h c
        refine Zj.mask [true, true, true, true, false, true] ?_
        exact wX12_odds_75 K hR k0 hr35 he89 _ _ _ h
      · have h := ite_f h c
        refine z_aload_n K dX12_odds_62 rfl ?_
        refine z_iload_n K dX12_odds_63 rfl ?_
        obtain ⟨u10, hc, h⟩ := bd1_e h
        refine z_callVI K (mX12_partsNow l hR k0 hc) clX12 k0 ceX12_partsNow q1614 ⟨rfl, rfl, rfl, rfl⟩ rfl rfl rfl dX12_odds_64 ?_
        refine z_iconst K 1 dX12_odds_67 rfl ?_
        refine z_icmp_ne K 75 dX12_odds_68 (by decide) (fun c => ?_) (fun c => ?_)
        · have h := ite_f h c
          refine Zj.mask [true, true, true, true, false, true] ?_
          exact wX12_odds_75 K hR k0 hr35 he89 _ _ _ h
        · have h := ite_t h c
          refine z_iconst K 1 dX12_odds_71 rfl ?_
          refine z_goto K 76 dX12_odds_72 (by decide) ?_
          refine Zj.mask [true, true, true, true, false, true] ?_
          exact wX12_odds_76 K hR k0 hr35 he89 _ _ _ _ h
set_option maxRecDepth 100000 in
set_option maxHeartbeats 4000000 in
theorem wX12_odds_89 {X : Cx} {g : Gl} {l : Launch} {R : Rf} {a0 : Nat} {x1 : Int32} {x2 : Int32} {x3 : Int32} (K : Ok X g l cX12_odds RX12 6 (some .int) rmX12_odds) (hR : Ty g R) (k0 : kd g a0 = 12) {r : Int32 × Mm} (T : Mm) (x4 : Int32) (h : pX12_odds_89 R a0 x1 x2 x3 T x4 = some r) : Zj X g 6 (QI X g r.1 R r.2) R T [none, none, none, none, some (.int x4), none] [] 89 := by
  unfold pX12_odds_89 at h
  refine z_iload K dX12_odds_89 rfl ?_
  obtain rfl := Option.some.inj h
  exact z_iret K dX12_odds_91
set_option maxRecDepth 100000 in
set_option maxHeartbeats 4000000 in
theorem mX12_odds {g : Gl} {R : Rf} {T : Mm} {a0 : Nat} {x1 : Int32} {x2 : Int32} {x3 : Int32} (l : Launch) (hR : Ty g R) (k0 : kd g a0 = 12) {r : Int32 × Mm} (h : pX12_odds R T a0 x1 x2 x3 = some r) : MI l g yX12_odds cX12_odds 6 (some .int) rmX12_odds [.ref (g.2.2.1 a0), .int x1, .int x2, .int x3] R T r.1 R r.2 := by
  refine z_metI (own := RX12) (lv := [some (.ref (g.2.2.1 a0)), some (.int x1), some (.int x2), some (.int x3), none, none]) (by decide +kernel) rfl rfl rfl (fun X K => ?_)
  unfold pX12_odds at h
  refine z_aload_n K dX12_odds_0 rfl ?_
  refine z_iconst K 0 dX12_odds_1 rfl ?_
  refine z_putI K clX12 tyX12_ok nmX12 k0 0 rfl rfl q1338 rfl rfl rfl dX12_odds_2 ?_
  refine z_aload_n K dX12_odds_5 rfl ?_
  refine z_iload_n K dX12_odds_6 rfl ?_
  obtain ⟨u2, hc, h⟩ := bd1_e h
  refine z_callVI K (mX12_isPerson l hR k0 hc) clX12 k0 ceX12_isPerson q1590 ⟨rfl, rfl, rfl, rfl⟩ rfl rfl rfl dX12_odds_7 ?_
  refine z_if_eq K 23 dX12_odds_10 (by decide) (fun c => ?_) (fun c => ?_)
  · have h := ite_t h c
    refine z_iconst K (-1) dX12_odds_23 rfl ?_
    obtain rfl := Option.some.inj h
    exact z_iret K dX12_odds_24
  · have h := ite_f h c
    refine z_iload_n K dX12_odds_13 rfl ?_
    refine z_iconst K 1 dX12_odds_14 rfl ?_
    refine z_bipush K 30 dX12_odds_15 rfl ?_
    obtain ⟨u3, hc, h⟩ := bd1_e h
    refine z_callSI K (mX12_isIn l hR hc) ceX12_isIn q1539 ⟨rfl, rfl, rfl, rfl⟩ rfl rfl rfl dX12_odds_17 ?_
    refine z_if_ne K 25 dX12_odds_20 (by decide) (fun c => ?_) (fun c => ?_)
    · have h := ite_f h c
      refine z_aload_n K dX12_odds_25 rfl ?_
      obtain ⟨T4, hc, h⟩ := bd1_e h
      refine z_callVV K (mX12_tries l hR k0 hc) clX12 k0 ceX12_tries q1877 ⟨rfl, rfl, rfl, rfl⟩ rfl rfl rfl dX12_odds_26 ?_
      refine z_iconst K 0 dX12_odds_29 rfl ?_
      refine z_istore K dX12_odds_30 rfl rfl ?_
      refine z_iconst K 0 dX12_odds_32 rfl ?_
      refine z_istore K dX12_odds_33 rfl rfl ?_
      refine Zj.mask [true, true, true, true, true, true] ?_
      exact wX12_odds_35 K hR k0 (wX12_odds_89 K hR k0) FU _ _ _ h
    · have h := ite_t h c
      refine z_iconst K (-1) dX12_odds_23 rfl ?_
      obtain rfl := Option.some.inj h
      exact z_iret K dX12_odds_24
/-! GoingOverModel.bookLine ()Z -/
abbrev rmX12_bookLine : Room := { frames := 3, cells := 0, slots := 0, locals := 67 }
def pX12_bookLine_222 (R : Rf) (a0 : Nat) (T : Mm) (x1 : Int32) (xs0 : Int32) : Option (Int32 × Mm) :=
  ix (x1 + 1) 135 (lt (wI T (R a0 8) (x1 + 1).toNatClampNeg (T.1 a0 18)) (fun (T11 : Mm) => bz xs0 (some (xs0, T11))))
def pX12_bookLine_174 (R : Rf) (a0 : Nat) (T : Mm) (as0 : Nat) (xs1 : Int32) (xs2 : Int32) : Option (Int32 × Mm) :=
  ix xs1 135 (lt (wI T as0 xs1.toNatClampNeg xs2) (fun (T15 : Mm) => bd1 (pX12_next R T15 a0) (fun (T16 : Mm) => some (1, T16))))
def pX12_bookLine_159 (R : Rf) (a0 : Nat) (T : Mm) (x1 : Int32) (x4 : Int32) : Option (Int32 × Mm) :=
  if x4 = 0 then pX12_bookLine_174 R a0 T (R a0 8) x1 0 else pX12_bookLine_174 R a0 T (R a0 8) x1 1
def pX12_bookLine_85 (R : Rf) (a0 : Nat) (T : Mm) (x1 : Int32) (x2 : Int32) : Option (Int32 × Mm) :=
  if (T.1 a0 37) = 40 then bd2 (pX12_bad R T a0 4) (fun (u19 : Int32) (T19 : Mm) => bz u19 (some (u19, T19))) else lt (T.1 a0 18) (fun (v6 : Int32) => bd1 (pX12_next R T a0) (fun (T7 : Mm) => ix x1 135 (lt (wI T7 (R a0 8) x1.toNatClampNeg x2) (fun (T8 : Mm) => ix (x1 + 1) 135 (lt (wI T8 (R a0 8) (x1 + 1).toNatClampNeg v6) (fun (T9 : Mm) => if x2 = 0 then bd1 (pX12_isWord R T9 a0 440005911923) (fun (u14 : Int32) => if u14 = 0 then bd1 (pX12_isWord R T9 a0 1735353715) (fun (u17 : Int32) => if u17 = 0 then bd2 (pX12_bad R T9 a0 1) (fun (u18 : Int32) (T18 : Mm) => bz u18 (some (u18, T18))) else pX12_bookLine_159 R a0 T9 x1 u14) else pX12_bookLine_159 R a0 T9 x1 u14) else if 4 ≤ x2 then if x2 = 4 then bd2 (pX12_takes R T9 a0 0 15) (fun (u12 : Int32) (T12 : Mm) => pX12_bookLine_222 R a0 T12 x1 u12) else bd2 (pX12_takes R T9 a0 1 60) (fun (u10 : Int32) (T10 : Mm) => pX12_bookLine_222 R a0 T10 x1 u10) else ix 1 270 (bd2 (pX12_takesName R T9 a0 5 (T9.1 (R a0 6) (1 : Int32).toNatClampNeg)) (fun (u13 : Int32) (T13 : Mm) => pX12_bookLine_222 R a0 T13 x1 u13))))))))
def pX12_bookLine_64 (R : Rf) (a0 : Nat) (T : Mm) (x1 : Int32) (xs0 : Int32) : Option (Int32 × Mm) :=
  if xs0 = 0 then ix 0 270 (bd2 (pX12_looksAt R T a0 0 (T.1 (R a0 6) (0 : Int32).toNatClampNeg)) (fun (u20 : Int32) (T20 : Mm) => if u20 = 0 then some (0, T20) else pX12_bookLine_85 R a0 T20 x1 xs0)) else pX12_bookLine_85 R a0 T x1 xs0
def pX12_bookLine (R : Rf) (T : Mm) (a0 : Nat) : Option (Int32 × Mm) :=
  lt (3 * (T.1 a0 37)) (fun (v1 : Int32) => bd1 (pX12_isWord R T a0 129117126091108) (fun (u2 : Int32) => if u2 = 0 then bd1 (pX12_isWord R T a0 1819238756) (fun (u3 : Int32) => if u3 = 0 then bd1 (pX12_isWord R T a0 1651076708) (fun (u4 : Int32) => if u4 = 0 then bd1 (pX12_isWord R T a0 6578553) (fun (u5 : Int32) => if u5 = 0 then pX12_bookLine_64 R a0 T v1 0 else pX12_bookLine_64 R a0 T v1 5) else pX12_bookLine_64 R a0 T v1 4) else pX12_bookLine_64 R a0 T v1 3) else pX12_bookLine_64 R a0 T v1 2))
set_option maxRecDepth 100000 in
set_option maxHeartbeats 4000000 in
theorem wX12_bookLine_222 {X : Cx} {g : Gl} {l : Launch} {R : Rf} {a0 : Nat} (K : Ok X g l cX12_bookLine RX12 5 (some .boolean) rmX12_bookLine) (hR : Ty g R) (k0 : kd g a0 = 12) {r : Int32 × Mm} (T : Mm) (x1 : Int32) (xs0 : Int32) (h : pX12_bookLine_222 R a0 T x1 xs0 = some r) : Zj X g 5 (QI X g r.1 R r.2) R T [some (.ref (g.2.2.1 a0)), some (.int x1), none, none, none] [.int xs0] 222 := by
  unfold pX12_bookLine_222 at h
  refine z_istore K dX12_bookLine_222 rfl rfl ?_
  refine z_aload_n K dX12_bookLine_224 rfl ?_
  refine z_getR K clX12 k0 8 rfl rfl q1346 dX12_bookLine_225 ?_
  refine z_iload_n K dX12_bookLine_228 rfl ?_
  refine z_iconst K 1 dX12_bookLine_229 rfl ?_
  refine z_iadd K dX12_bookLine_230 ?_
  refine z_aload_n K dX12_bookLine_231 rfl ?_
  refine z_getI K clX12 k0 18 rfl rfl q1356 dX12_bookLine_232 ?_
  obtain ⟨hi, h⟩ := ix_e h
  refine z_iast K (hR.at (k := 8) (t := 20135) k0 rfl rfl) rfl rfl rfl hi dX12_bookLine_235 ?_
  refine z_iload K dX12_bookLine_236 rfl ?_
  obtain ⟨hz, hf, h⟩ := bz_e h
  obtain rfl := Option.some.inj h
  exact z_zret K hz dX12_bookLine_238
set_option maxRecDepth 100000 in
set_option maxHeartbeats 4000000 in
theorem wX12_bookLine_174 {X : Cx} {g : Gl} {l : Launch} {R : Rf} {a0 : Nat} (K : Ok X g l cX12_bookLine RX12 5 (some .boolean) rmX12_bookLine) (hR : Ty g R) (k0 : kd g a0 = 12) {r : Int32 × Mm} (T : Mm) (as0 : Nat) (xs1 : Int32) (xs2 : Int32) (ks0 : kd g as0 = 20135) (h : pX12_bookLine_174 R a0 T as0 xs1 xs2 = some r) : Zj X g 5 (QI X g r.1 R r.2) R T [some (.ref (g.2.2.1 a0)), none, none, none, none] [.int xs2, .int xs1, .ref (g.2.2.1 as0)] 174 := by
  unfold pX12_bookLine_174 at h
  obtain ⟨hi, h⟩ := ix_e h
  refine z_iast K ks0 rfl rfl rfl hi dX12_bookLine_174 ?_
  refine z_aload_n K dX12_bookLine_175 rfl ?_
  obtain ⟨T16, hc, h⟩ := bd1_e h
  refine z_callVV K (mX12_next l hR k0 hc) clX12 k0 ceX12_next q1498 ⟨rfl, rfl, rfl, rfl⟩ rfl rfl rfl dX12_bookLine_176 ?_
  refine z_iconst K 1 dX12_bookLine_179 rfl ?_
  obtain rfl := Option.some.inj h
  exact z_zret (v := 1) K rfl dX12_bookLine_180
set_option maxRecDepth 100000 in
set_option maxHeartbeats 4000000 in
theorem wX12_bookLine_159 {X : Cx} {g : Gl} {l : Launch} {R : Rf} {a0 : Nat} (K : Ok X g l cX12_bookLine RX12 5 (some .boolean) rmX12_bookLine) (hR : Ty g R) (k0 : kd g a0 = 12) {r : Int32 × Mm} (T : Mm) (x1 : Int32) (x4 : Int32) (h : pX12_bookLine_159 R a0 T x1 x4 = some r) : Zj X g 5 (QI X g r.1 R r.2) R T [some (.ref (g.2.2.1 a0)), some (.int x1), none, none, some (.int x4)] [] 159 := by
  unfold pX12_bookLine_159 at h
  refine z_aload_n K dX12_bookLine_159 rfl ?_
  refine z_getR K clX12 k0 8 rfl rfl q1346 dX12_bookLine_160 ?_
  refine z_iload_n K dX12_bookLine_163 rfl ?_
  refine z_iload K dX12_bookLine_164 rfl ?_
  refine z_if_eq K 173 dX12_bookLine_166 (by decide) (fun c => ?_) (fun c => ?_)
  · have h := ite_t h c
    refine z_iconst K 0 dX12_bookLine_173 rfl ?_
    refine Zj.mask [true, false, false, false, false] ?_
    exact wX12_bookLine_174 K hR k0 _ _ _ _ (hR.at (k := 8) (t := 20135) k0 rfl rfl) h
  · have h := ite_f h c
    refine z_iconst K 1 dX12_bookLine_169 rfl ?_
    refine z_goto K 174 dX12_bookLine_170 (by decide) ?_
    refine Zj.mask [true, false, false, false, false] ?_
    exact wX12_bookLine_174 K hR k0 _ _ _ _ (hR.at (k := 8) (t := 20135) k0 rfl rfl) h
set_option maxRecDepth 100000 in
set_option maxHeartbeats 4000000 in
theorem wX12_bookLine_85 {X : Cx} {g : Gl} {l : Launch} {R : Rf} {a0 : Nat} (K : Ok X g l cX12_bookLine RX12 5 (some .boolean) rmX12_bookLine) (hR : Ty g R) (k0 : kd g a0 = 12) {r : Int32 × Mm} (T : Mm) (x1 : Int32) (x2 : Int32) (h : pX12_bookLine_85 R a0 T x1 x2 = some r) : Zj X g 5 (QI X g r.1 R r.2) R T [some (.ref (g.2.2.1 a0)), some (.int x1), some (.int x2), none, none] [] 85 := by
  unfold pX12_bookLine_85 at h
  refine z_aload_n K dX12_bookLine_85 rfl ?_
  refine z_getI K clX12 k0 37 rfl rfl q1375 dX12_bookLine_86 ?_
  refine z_bipush K 40 dX12_bookLine_89 rfl ?_
  refine z_icmp_ne K 100 dX12_bookLine_91 (by decide) (fun c => ?_) (fun c => ?_)
  · have h := ite_f h c
    refine z_aload_n K dX12_bookLine_100 rfl ?_
    refine z_getI K clX12 k0 18 rfl rfl q1356 dX12_bookLine_101 ?_
    refine z_istore_n K dX12_bookLine_104 rfl rfl ?_
    refine z_aload_n K dX12_bookLine_105 rfl ?_
    obtain ⟨T7, hc, h⟩ := bd1_e h
    refine z_callVV K (mX12_next l hR k0 hc) clX12 k0 ceX12_next q1498 ⟨rfl, rfl, rfl, rfl⟩ rfl rfl rfl dX12_bookLine_106 ?_
    refine z_aload_n K dX12_bookLine_109 rfl ?_
    refine z_getR K clX12 k0 8 rfl rfl q1346 dX12_bookLine_110 ?_
    refine z_iload_n K dX12_bookLine_113 rfl ?_
    refine z_iload_n K dX12_bookLine_114 rfl ?_
    obtain ⟨hi, h⟩ := ix_e h
    refine z_iast K (hR.at (k := 8) (t := 20135) k0 rfl rfl) rfl rfl rfl hi dX12_bookLine_115 ?_
    refine z_aload_n K dX12_bookLine_116 rfl ?_
    refine z_getR K clX12 k0 8 rfl rfl q1346 dX12_bookLine_117 ?_
    refine z_iload_n K dX12_bookLine_120 rfl ?_
    refine z_iconst K 1 dX12_bookLine_121 rfl ?_
    refine z_iadd K dX12_bookLine_122 ?_
    refine z_iload_n K dX12_bookLine_123 rfl ?_
    obtain ⟨hi, h⟩ := ix_e h
    refine z_iast K (hR.at (k := 8) (t := 20135) k0 rfl rfl) rfl rfl rfl hi dX12_bookLine_124 ?_
    refine z_iload_n K dX12_bookLine_125 rfl ?_
    refine z_if_ne K 181 dX12_bookLine_126 (by decide) (fun c => ?_) (fun c => ?_)
    · have h := ite_f h c
      refine z_iload_n K dX12_bookLine_181 rfl ?_
      refine z_iconst K 4 dX12_bookLine_182 rfl ?_
      refine z_icmp_ge K 200 dX12_bookLine_183 (by decide) (fun c => ?_) (fun c => ?_)
      · have h := ite_t h c
        refine z_iload_n K dX12_bookLine_200 rfl ?_
        refine z_iconst K 4 dX12_bookLine_201 rfl ?_
        refine z_icmp_ne K 215 dX12_bookLine_202 (by decide) (fun c => ?_) (fun c => ?_)
        · have h := ite_f h c
          refine z_aload_n K dX12_bookLine_215 rfl ?_
          refine z_iconst K 1 dX12_bookLine_216 rfl ?_
          refine z_bipush K 60 dX12_bookLine_217 rfl ?_
          obtain ⟨u10, T10, hc, h⟩ := bd2_e h
          refine z_callVI K (mX12_takes l hR k0 hc) clX12 k0 ceX12_takes q1535 ⟨rfl, rfl, rfl, rfl⟩ rfl rfl rfl dX12_bookLine_219 ?_
          refine Zj.mask [true, true, false, false, false] ?_
          exact wX12_bookLine_222 K hR k0 _ _ _ h
        · have h := ite_t h c
          refine z_aload_n K dX12_bookLine_205 rfl ?_
          refine z_iconst K 0 dX12_bookLine_206 rfl ?_
          refine z_bipush K 15 dX12_bookLine_207 rfl ?_
          obtain ⟨u12, T12, hc, h⟩ := bd2_e h
          refine z_callVI K (mX12_takes l hR k0 hc) clX12 k0 ceX12_takes q1535 ⟨rfl, rfl, rfl, rfl⟩ rfl rfl rfl dX12_bookLine_209 ?_
          refine z_goto K 222 dX12_bookLine_212 (by decide) ?_
          refine Zj.mask [true, true, false, false, false] ?_
          exact wX12_bookLine_222 K hR k0 _ _ _ h
      · have h := ite_f h c
        refine z_aload_n K dX12_bookLine_186 rfl ?_
        refine z_iconst K 5 dX12_bookLine_187 rfl ?_
        refine z_aload_n K dX12_bookLine_188 rfl ?_
        refine z_getR K clX12 k0 6 rfl rfl q1344 dX12_bookLine_189 ?_
        refine z_iconst K 1 dX12_bookLine_192 rfl ?_
        obtain ⟨hi, h⟩ := ix_e h
        refine z_iald K (hR.at (k := 6) (t := 20270) k0 rfl rfl) rfl rfl rfl hi dX12_bookLine_193 ?_
        obtain ⟨u13, T13, hc, h⟩ := bd2_e h
        refine z_callVI K (mX12_takesName l hR k0 hc) clX12 k0 ceX12_takesName q1562 ⟨rfl, rfl, rfl, rfl⟩ rfl rfl rfl dX12_bookLine_194 ?_
        refine z_goto K 222 dX12_bookLine_197 (by decide) ?_
        refine Zj.mask [true, true, false, false, false] ?_
        exact wX12_bookLine_222 K hR k0 _ _ _ h
    · have h := ite_t h c
      refine z_aload_n K dX12_bookLine_129 rfl ?_
      refine z_ldc2 K 440005911923 q1316 dX12_bookLine_130 ?_
      obtain ⟨u14, hc, h⟩ := bd1_e h
      refine z_callVI K (mX12_isWord l hR k0 hc) clX12 k0 ceX12_isWord q1516 ⟨rfl, rfl, rfl, rfl⟩ rfl rfl rfl dX12_bookLine_133 ?_
      refine z_istore K dX12_bookLine_136 rfl rfl ?_
      refine z_iload K dX12_bookLine_138 rfl ?_
      refine z_if_ne K 159 dX12_bookLine_140 (by decide) (fun c => ?_) (fun c => ?_)
      · have h := ite_f h c
        refine Zj.mask [true, true, false, false, true] ?_
        exact wX12_bookLine_159 K hR k0 _ _ _ h
      · have h := ite_t h c
        refine z_aload_n K dX12_bookLine_143 rfl ?_
        refine z_ldc2 K 1735353715 q1315 dX12_bookLine_144 ?_
        obtain ⟨u17, hc, h⟩ := bd1_e h
        refine z_callVI K (mX12_isWord l hR k0 hc) clX12 k0 ceX12_isWord q1516 ⟨rfl, rfl, rfl, rfl⟩ rfl rfl rfl dX12_bookLine_147 ?_
        refine z_if_ne K 159 dX12_bookLine_150 (by decide) (fun c => ?_) (fun c => ?_)
        · have h := ite_f h c
          refine Zj.mask [true, true, false, false, true] ?_
          exact wX12_bookLine_159 K hR k0 _ _ _ h
        · have h := ite_t h c
          refine z_aload_n K dX12_bookLine_153 rfl ?_
          refine z_iconst K 1 dX12_bookLine_154 rfl ?_
          obtain ⟨u18, T18, hc, h⟩ := bd2_e h
          refine z_callVI K (mX12_bad l hR k0 hc) clX12 k0 ceX12_bad q1527 ⟨rfl, rfl, rfl, rfl⟩ rfl rfl rfl dX12_bookLine_155 ?_
          obtain ⟨hz, hf, h⟩ := bz_e h
          obtain rfl := Option.some.inj h
          exact z_zret K hz dX12_bookLine_158
  · have h := ite_t h c
    refine z_aload_n K dX12_bookLine_94 rfl ?_
    refine z_iconst K 4 dX12_bookLine_95 rfl ?_
    obtain ⟨u19, T19, hc, h⟩ := bd2_e h
    refine z_callVI K (mX12_bad l hR k0 hc) clX12 k0 ceX12_bad q1527 ⟨rfl, rfl, rfl, rfl⟩ rfl rfl rfl dX12_bookLine_96 ?_
    obtain ⟨hz, hf, h⟩ := bz_e h
    obtain rfl := Option.some.inj h
    exact z_zret K hz dX12_bookLine_99
set_option maxRecDepth 100000 in
set_option maxHeartbeats 4000000 in
theorem wX12_bookLine_64 {X : Cx} {g : Gl} {l : Launch} {R : Rf} {a0 : Nat} (K : Ok X g l cX12_bookLine RX12 5 (some .boolean) rmX12_bookLine) (hR : Ty g R) (k0 : kd g a0 = 12) {r : Int32 × Mm} (T : Mm) (x1 : Int32) (xs0 : Int32) (h : pX12_bookLine_64 R a0 T x1 xs0 = some r) : Zj X g 5 (QI X g r.1 R r.2) R T [some (.ref (g.2.2.1 a0)), some (.int x1), none, none, none] [.int xs0] 64 := by
  unfold pX12_bookLine_64 at h
  refine z_istore_n K dX12_bookLine_64 rfl rfl ?_
  refine z_iload_n K dX12_bookLine_65 rfl ?_
  refine z_if_ne K 85 dX12_bookLine_66 (by decide) (fun c => ?_) (fun c => ?_)
  · have h := ite_f h c
    refine Zj.mask [true, true, true, false, false] ?_
    exact wX12_bookLine_85 K hR k0 _ _ _ h
  · have h := ite_t h c
    refine z_aload_n K dX12_bookLine_69 rfl ?_
    refine z_iconst K 0 dX12_bookLine_70 rfl ?_
    refine z_aload_n K dX12_bookLine_71 rfl ?_
    refine z_getR K clX12 k0 6 rfl rfl q1344 dX12_bookLine_72 ?_
    refine z_iconst K 0 dX12_bookLine_75 rfl ?_
    obtain ⟨hi, h⟩ := ix_e h
    refine z_iald K (hR.at (k := 6) (t := 20270) k0 rfl rfl) rfl rfl rfl hi dX12_bookLine_76 ?_
    obtain ⟨u20, T20, hc, h⟩ := bd2_e h
    refine z_callVI K (mX12_looksAt l hR k0 hc) clX12 k0 ceX12_looksAt q1566 ⟨rfl, rfl, rfl, rfl⟩ rfl rfl rfl dX12_bookLine_77 ?_
    refine z_if_ne K 85 dX12_bookLine_80 (by decide) (fun c => ?_) (fun c => ?_)
    · have h := ite_f h c
      refine Zj.mask [true, true, true, false, false] ?_
      exact wX12_bookLine_85 K hR k0 _ _ _ h
    · have h := ite_t h c
      refine z_iconst K 0 dX12_bookLine_83 rfl ?_
      obtain rfl := Option.some.inj h
      exact z_zret (v := 0) K rfl dX12_bookLine_84
set_option maxRecDepth 100000 in
set_option maxHeartbeats 4000000 in
theorem mX12_bookLine {g : Gl} {R : Rf} {T : Mm} {a0 : Nat} (l : Launch) (hR : Ty g R) (k0 : kd g a0 = 12) {r : Int32 × Mm} (h : pX12_bookLine R T a0 = some r) : MI l g yX12_bookLine cX12_bookLine 5 (some .boolean) rmX12_bookLine [.ref (g.2.2.1 a0)] R T r.1 R r.2 := by
  refine z_metI (own := RX12) (lv := [some (.ref (g.2.2.1 a0)), none, none, none, none]) (by decide +kernel) rfl rfl rfl (fun X K => ?_)
  unfold pX12_bookLine at h
  refine z_iconst K 3 dX12_bookLine_0 rfl ?_
  refine z_aload_n K dX12_bookLine_1 rfl ?_
  refine z_getI K clX12 k0 37 rfl rfl q1375 dX12_bookLine_2 ?_
  refine z_imul K dX12_bookLine_5 ?_
  refine z_istore_n K dX12_bookLine_6 rfl rfl ?_
  refine z_aload_n K dX12_bookLine_7 rfl ?_
  refine z_ldc2 K 129117126091108 q1317 dX12_bookLine_8 ?_
  obtain ⟨u2, hc, h⟩ := bd1_e h
  refine z_callVI K (mX12_isWord l hR k0 hc) clX12 k0 ceX12_isWord q1516 ⟨rfl, rfl, rfl, rfl⟩ rfl rfl rfl dX12_bookLine_11 ?_
  refine z_if_eq K 21 dX12_bookLine_14 (by decide) (fun c => ?_) (fun c => ?_)
  · have h := ite_t h c
    refine z_aload_n K dX12_bookLine_21 rfl ?_
    refine z_ldc2 K 1819238756 q1318 dX12_bookLine_22 ?_
    obtain ⟨u3, hc, h⟩ := bd1_e h
    refine z_callVI K (mX12_isWord l hR k0 hc) clX12 k0 ceX12_isWord q1516 ⟨rfl, rfl, rfl, rfl⟩ rfl rfl rfl dX12_bookLine_25 ?_
    refine z_if_eq K 35 dX12_bookLine_28 (by decide) (fun c => ?_) (fun c => ?_)
    · have h := ite_t h c
      refine z_aload_n K dX12_bookLine_35 rfl ?_
      refine z_ldc2 K 1651076708 q1319 dX12_bookLine_36 ?_
      obtain ⟨u4, hc, h⟩ := bd1_e h
      refine z_callVI K (mX12_isWord l hR k0 hc) clX12 k0 ceX12_isWord q1516 ⟨rfl, rfl, rfl, rfl⟩ rfl rfl rfl dX12_bookLine_39 ?_
      refine z_if_eq K 49 dX12_bookLine_42 (by decide) (fun c => ?_) (fun c => ?_)
      · have h := ite_t h c
        refine z_aload_n K dX12_bookLine_49 rfl ?_
        refine z_ldc2 K 6578553 q1320 dX12_bookLine_50 ?_
        obtain ⟨u5, hc, h⟩ := bd1_e h
        refine z_callVI K (mX12_isWord l hR k0 hc) clX12 k0 ceX12_isWord q1516 ⟨rfl, rfl, rfl, rfl⟩ rfl rfl rfl dX12_bookLine_53 ?_
        refine z_if_eq K 63 dX12_bookLine_56 (by decide) (fun c => ?_) (fun c => ?_)
        · have h := ite_t h c
          refine z_iconst K 0 dX12_bookLine_63 rfl ?_
          refine Zj.mask [true, true, false, false, false] ?_
          exact wX12_bookLine_64 K hR k0 _ _ _ h
        · have h := ite_f h c
          refine z_iconst K 5 dX12_bookLine_59 rfl ?_
          refine z_goto K 64 dX12_bookLine_60 (by decide) ?_
          refine Zj.mask [true, true, false, false, false] ?_
          exact wX12_bookLine_64 K hR k0 _ _ _ h
      · have h := ite_f h c
        refine z_iconst K 4 dX12_bookLine_45 rfl ?_
        refine z_goto K 64 dX12_bookLine_46 (by decide) ?_
        refine Zj.mask [true, true, false, false, false] ?_
        exact wX12_bookLine_64 K hR k0 _ _ _ h
    · have h := ite_f h c
      refine z_iconst K 3 dX12_bookLine_31 rfl ?_
      refine z_goto K 64 dX12_bookLine_32 (by decide) ?_
      refine Zj.mask [true, true, false, false, false] ?_
      exact wX12_bookLine_64 K hR k0 _ _ _ h
  · have h := ite_f h c
    refine z_iconst K 2 dX12_bookLine_17 rfl ?_
    refine z_goto K 64 dX12_bookLine_18 (by decide) ?_
    refine Zj.mask [true, true, false, false, false] ?_
    exact wX12_bookLine_64 K hR k0 _ _ _ h
/-! GoingOverModel.does (II)I -/
abbrev rmX12_does : Room := { frames := 6, cells := 0, slots := 0, locals := 131 }
def pX12_does_218 (R : Rf) (a0 : Nat) (x1 : Int32) (x2 : Int32) (T : Mm) (x3 : Int32) : Option (Int32 × Mm) :=
  if x3 ≤ 0 then some (0, T) else some (x3 + (10 * x1), T)
def pX12_does_207 (R : Rf) (a0 : Nat) (x1 : Int32) (x2 : Int32) (T : Mm) (xs0 : Int32) : Option (Int32 × Mm) :=
  if xs0 = 0 then bd2 (pX12_goesOn R T a0 x2) (fun (u1 : Int32) (T1 : Mm) => pX12_does_218 R a0 x1 x2 T1 xs0) else pX12_does_218 R a0 x1 x2 T xs0
def pX12_does_53 (R : Rf) (a0 : Nat) (x1 : Int32) (x2 : Int32) (T : Mm) (xs0 : Int32) : Option (Int32 × Mm) :=
  if xs0 = 0 then bd1 (pX12_hangs R T a0 x2) (fun (T2 : Mm) => pX12_does_218 R a0 x1 x2 T2 xs0) else pX12_does_218 R a0 x1 x2 T xs0
def pX12_does_84 (R : Rf) (a0 : Nat) (x1 : Int32) (x2 : Int32) (T : Mm) (xs0 : Int32) : Option (Int32 × Mm) :=
  if xs0 = 0 then ix (84 + x2) 270 (lt (wI T (R a0 6) (84 + x2).toNatClampNeg 3) (fun (T3 : Mm) => pX12_does_218 R a0 x1 x2 T3 xs0)) else pX12_does_218 R a0 x1 x2 T xs0
def pX12_does_166 (R : Rf) (a0 : Nat) (x1 : Int32) (x2 : Int32) (T : Mm) (xs0 : Int32) : Option (Int32 × Mm) :=
  if xs0 = 0 then ix 82 270 (ix 82 270 (lt (wI T (R a0 6) (82 : Int32).toNatClampNeg ((T.1 (R a0 6) (82 : Int32).toNatClampNeg) ||| (1 <<< (x2 &&& 31)))) (fun (T9 : Mm) => pX12_does_218 R a0 x1 x2 T9 xs0))) else pX12_does_218 R a0 x1 x2 T xs0
def pX12_does (R : Rf) (T : Mm) (a0 : Nat) (x1 : Int32) (x2 : Int32) : Option (Int32 × Mm) :=
  if x1 = 0 then ix (84 + x2) 270 (if (T.1 (R a0 6) (84 + x2).toNatClampNeg) = 0 then pX12_does_53 R a0 x1 x2 T 0 else pX12_does_53 R a0 x1 x2 T 1) else if x1 = 1 then ix (84 + x2) 270 (if (T.1 (R a0 6) (84 + x2).toNatClampNeg) = 2 then pX12_does_84 R a0 x1 x2 T 0 else pX12_does_84 R a0 x1 x2 T 1) else if x1 = 2 then bd1 (pX12_whyUnload R T a0 x2) (fun (u4 : Int32) => if u4 = 0 then bd1 (pX12_takesOut R T a0 x2) (fun (T5 : Mm) => pX12_does_218 R a0 x1 x2 T5 u4) else pX12_does_218 R a0 x1 x2 T u4) else if x1 = 3 then bd1 (pX12_whyLoad R T a0 x2) (fun (u6 : Int32) => if u6 = 0 then ix 81 270 (ix 81 270 (lt (wI T (R a0 6) (81 : Int32).toNatClampNeg ((T.1 (R a0 6) (81 : Int32).toNatClampNeg) ||| (1 <<< (x2 &&& 31)))) (fun (T7 : Mm) => pX12_does_218 R a0 x1 x2 T7 u6))) else pX12_does_218 R a0 x1 x2 T u6) else if x1 = 4 then ix 2 270 (if x2 < (T.1 (R a0 6) (2 : Int32).toNatClampNeg) then bd1 (pX12_whyBind R T a0 x2) (fun (u8 : Int32) => pX12_does_166 R a0 x1 x2 T u8) else pX12_does_166 R a0 x1 x2 T 9) else ix 80 270 (if ((T.1 (R a0 6) (80 : Int32).toNatClampNeg) + x2) ≤ 400 then pX12_does_207 R a0 x1 x2 T 0 else pX12_does_207 R a0 x1 x2 T 1)
set_option maxRecDepth 100000 in
set_option maxHeartbeats 4000000 in
theorem wX12_does_218 {X : Cx} {g : Gl} {l : Launch} {R : Rf} {a0 : Nat} {x1 : Int32} {x2 : Int32} (K : Ok X g l cX12_does RX12 4 (some .int) rmX12_does) (hR : Ty g R) (k0 : kd g a0 = 12) {r : Int32 × Mm} (T : Mm) (x3 : Int32) (h : pX12_does_218 R a0 x1 x2 T x3 = some r) : Zj X g 4 (QI X g r.1 R r.2) R T [none, some (.int x1), none, some (.int x3)] [] 218 := by
  unfold pX12_does_218 at h
  refine z_iload_n K dX12_does_218 rfl ?_
  refine z_if_le K 231 dX12_does_219 (by decide) (fun c => ?_) (fun c => ?_)
  · have h := ite_t h c
    refine z_iconst K 0 dX12_does_231 rfl ?_
    obtain rfl := Option.some.inj h
    exact z_iret K dX12_does_232
  · have h := ite_f h c
    refine z_iload_n K dX12_does_222 rfl ?_
    refine z_bipush K 10 dX12_does_223 rfl ?_
    refine z_iload_n K dX12_does_225 rfl ?_
    refine z_imul K dX12_does_226 ?_
    refine z_iadd K dX12_does_227 ?_
    refine z_goto K 232 dX12_does_228 (by decide) ?_
    obtain rfl := Option.some.inj h
    exact z_iret K dX12_does_232
set_option maxRecDepth 100000 in
set_option maxHeartbeats 4000000 in
theorem wX12_does_207 {X : Cx} {g : Gl} {l : Launch} {R : Rf} {a0 : Nat} {x1 : Int32} {x2 : Int32} (K : Ok X g l cX12_does RX12 4 (some .int) rmX12_does) (hR : Ty g R) (k0 : kd g a0 = 12) {r : Int32 × Mm} (T : Mm) (xs0 : Int32) (h : pX12_does_207 R a0 x1 x2 T xs0 = some r) : Zj X g 4 (QI X g r.1 R r.2) R T [some (.ref (g.2.2.1 a0)), some (.int x1), some (.int x2), none] [.int xs0] 207 := by
  unfold pX12_does_207 at h
  refine z_istore_n K dX12_does_207 rfl rfl ?_
  refine z_iload_n K dX12_does_208 rfl ?_
  refine z_if_ne K 218 dX12_does_209 (by decide) (fun c => ?_) (fun c => ?_)
  · have h := ite_f h c
    refine Zj.mask [false, true, false, true] ?_
    exact wX12_does_218 K hR k0 _ _ h
  · have h := ite_t h c
    refine z_aload_n K dX12_does_212 rfl ?_
    refine z_iload_n K dX12_does_213 rfl ?_
    obtain ⟨u1, T1, hc, h⟩ := bd2_e h
    refine z_callVI K (mX12_goesOn l hR k0 hc) clX12 k0 ceX12_goesOn q1725 ⟨rfl, rfl, rfl, rfl⟩ rfl rfl rfl dX12_does_214 ?_
    refine z_pop K dX12_does_217 rfl ?_
    refine Zj.mask [false, true, false, true] ?_
    exact wX12_does_218 K hR k0 _ _ h
set_option maxRecDepth 100000 in
set_option maxHeartbeats 4000000 in
theorem wX12_does_53 {X : Cx} {g : Gl} {l : Launch} {R : Rf} {a0 : Nat} {x1 : Int32} {x2 : Int32} (K : Ok X g l cX12_does RX12 4 (some .int) rmX12_does) (hR : Ty g R) (k0 : kd g a0 = 12) {r : Int32 × Mm} (T : Mm) (xs0 : Int32) (h : pX12_does_53 R a0 x1 x2 T xs0 = some r) : Zj X g 4 (QI X g r.1 R r.2) R T [some (.ref (g.2.2.1 a0)), some (.int x1), some (.int x2), none] [.int xs0] 53 := by
  unfold pX12_does_53 at h
  refine z_istore_n K dX12_does_53 rfl rfl ?_
  refine z_iload_n K dX12_does_54 rfl ?_
  refine z_if_ne K 218 dX12_does_55 (by decide) (fun c => ?_) (fun c => ?_)
  · have h := ite_f h c
    refine Zj.mask [false, true, false, true] ?_
    exact wX12_does_218 K hR k0 _ _ h
  · have h := ite_t h c
    refine z_aload_n K dX12_does_58 rfl ?_
    refine z_iload_n K dX12_does_59 rfl ?_
    obtain ⟨T2, hc, h⟩ := bd1_e h
    refine z_callVV K (mX12_hangs l hR k0 hc) clX12 k0 ceX12_hangs q1673 ⟨rfl, rfl, rfl, rfl⟩ rfl rfl rfl dX12_does_60 ?_
    refine z_goto K 218 dX12_does_63 (by decide) ?_
    refine Zj.mask [false, true, false, true] ?_
    exact wX12_does_218 K hR k0 _ _ h
set_option maxRecDepth 100000 in
set_option maxHeartbeats 4000000 in
theorem wX12_does_84 {X : Cx} {g : Gl} {l : Launch} {R : Rf} {a0 : Nat} {x1 : Int32} {x2 : Int32} (K : Ok X g l cX12_does RX12 4 (some .int) rmX12_does) (hR : Ty g R) (k0 : kd g a0 = 12) {r : Int32 × Mm} (T : Mm) (xs0 : Int32) (h : pX12_does_84 R a0 x1 x2 T xs0 = some r) : Zj X g 4 (QI X g r.1 R r.2) R T [some (.ref (g.2.2.1 a0)), some (.int x1), some (.int x2), none] [.int xs0] 84 := by
  unfold pX12_does_84 at h
  refine z_istore_n K dX12_does_84 rfl rfl ?_
  refine z_iload_n K dX12_does_85 rfl ?_
  refine z_if_ne K 218 dX12_does_86 (by decide) (fun c => ?_) (fun c => ?_)
  · have h := ite_f h c
    refine Zj.mask [false, true, false, true] ?_
    exact wX12_does_218 K hR k0 _ _ h
  · have h := ite_t h c
    refine z_aload_n K dX12_does_89 rfl ?_
    refine z_getR K clX12 k0 6 rfl rfl q1344 dX12_does_90 ?_
    refine z_bipush K 84 dX12_does_93 rfl ?_
    refine z_iload_n K dX12_does_95 rfl ?_
    refine z_iadd K dX12_does_96 ?_
    refine z_iconst K 3 dX12_does_97 rfl ?_
    obtain ⟨hi, h⟩ := ix_e h
    refine z_iast K (hR.at (k := 6) (t := 20270) k0 rfl rfl) rfl rfl rfl hi dX12_does_98 ?_
    refine z_goto K 218 dX12_does_99 (by decide) ?_
    refine Zj.mask [false, true, false, true] ?_
    exact wX12_does_218 K hR k0 _ _ h
set_option maxRecDepth 100000 in
set_option maxHeartbeats 4000000 in
theorem wX12_does_166 {X : Cx} {g : Gl} {l : Launch} {R : Rf} {a0 : Nat} {x1 : Int32} {x2 : Int32} (K : Ok X g l cX12_does RX12 4 (some .int) rmX12_does) (hR : Ty g R) (k0 : kd g a0 = 12) {r : Int32 × Mm} (T : Mm) (xs0 : Int32) (h : pX12_does_166 R a0 x1 x2 T xs0 = some r) : Zj X g 4 (QI X g r.1 R r.2) R T [some (.ref (g.2.2.1 a0)), some (.int x1), some (.int x2), none] [.int xs0] 166 := by
  unfold pX12_does_166 at h
  refine z_istore_n K dX12_does_166 rfl rfl ?_
  refine z_iload_n K dX12_does_167 rfl ?_
  refine z_if_ne K 218 dX12_does_168 (by decide) (fun c => ?_) (fun c => ?_)
  · have h := ite_f h c
    refine Zj.mask [false, true, false, true] ?_
    exact wX12_does_218 K hR k0 _ _ h
  · have h := ite_t h c
    refine z_aload_n K dX12_does_171 rfl ?_
    refine z_getR K clX12 k0 6 rfl rfl q1344 dX12_does_172 ?_
    refine z_bipush K 82 dX12_does_175 rfl ?_
    refine z_dup2 K dX12_does_177 rfl rfl ?_
    obtain ⟨hi, h⟩ := ix_e h
    refine z_iald K (hR.at (k := 6) (t := 20270) k0 rfl rfl) rfl rfl rfl hi dX12_does_178 ?_
    refine z_iconst K 1 dX12_does_179 rfl ?_
    refine z_iload_n K dX12_does_180 rfl ?_
    refine z_ishl K dX12_does_181 ?_
    refine z_ior K dX12_does_182 ?_
    obtain ⟨hi, h⟩ := ix_e h
    refine z_iast K (hR.at (k := 6) (t := 20270) k0 rfl rfl) rfl rfl rfl hi dX12_does_183 ?_
    refine z_goto K 218 dX12_does_184 (by decide) ?_
    refine Zj.mask [false, true, false, true] ?_
    exact wX12_does_218 K hR k0 _ _ h
set_option maxRecDepth 100000 in
set_option maxHeartbeats 4000000 in
theorem mX12_does {g : Gl} {R : Rf} {T : Mm} {a0 : Nat} {x1 : Int32} {x2 : Int32} (l : Launch) (hR : Ty g R) (k0 : kd g a0 = 12) {r : Int32 × Mm} (h : pX12_does R T a0 x1 x2 = some r) : MI l g yX12_does cX12_does 4 (some .int) rmX12_does [.ref (g.2.2.1 a0), .int x1, .int x2] R T r.1 R r.2 := by
  refine z_metI (own := RX12) (lv := [some (.ref (g.2.2.1 a0)), some (.int x1), some (.int x2), none]) (by decide +kernel) rfl rfl rfl (fun X K => ?_)
  unfold pX12_does at h
  refine z_iconst K 0 dX12_does_0 rfl ?_
  refine z_istore_n K dX12_does_1 rfl rfl ?_
  refine z_iload_n K dX12_does_2 rfl ?_
  rcases ite_or h with ⟨c0, h⟩ | ⟨c0, h⟩
  · refine z_tin K 36 0 c0 dX12_does_3 (by decide) (by decide) rfl (by decide) ?_
    refine z_aload_n K dX12_does_36 rfl ?_
    refine z_getR K clX12 k0 6 rfl rfl q1344 dX12_does_37 ?_
    refine z_bipush K 84 dX12_does_40 rfl ?_
    refine z_iload_n K dX12_does_42 rfl ?_
    refine z_iadd K dX12_does_43 ?_
    obtain ⟨hi, h⟩ := ix_e h
    refine z_iald K (hR.at (k := 6) (t := 20270) k0 rfl rfl) rfl rfl rfl hi dX12_does_44 ?_
    refine z_if_eq K 52 dX12_does_45 (by decide) (fun c => ?_) (fun c => ?_)
    · have h := ite_t h c
      refine z_iconst K 0 dX12_does_52 rfl ?_
      refine Zj.mask [true, true, true, false] ?_
      exact wX12_does_53 K hR k0 _ _ h
    · have h := ite_f h c
      refine z_iconst K 1 dX12_does_48 rfl ?_
      refine z_goto K 53 dX12_does_49 (by decide) ?_
      refine Zj.mask [true, true, true, false] ?_
      exact wX12_does_53 K hR k0 _ _ h
  rcases ite_or h with ⟨c1, h⟩ | ⟨c1, h⟩
  · refine z_tin K 66 1 c1 dX12_does_3 (by decide) (by decide) rfl (by decide) ?_
    refine z_aload_n K dX12_does_66 rfl ?_
    refine z_getR K clX12 k0 6 rfl rfl q1344 dX12_does_67 ?_
    refine z_bipush K 84 dX12_does_70 rfl ?_
    refine z_iload_n K dX12_does_72 rfl ?_
    refine z_iadd K dX12_does_73 ?_
    obtain ⟨hi, h⟩ := ix_e h
    refine z_iald K (hR.at (k := 6) (t := 20270) k0 rfl rfl) rfl rfl rfl hi dX12_does_74 ?_
    refine z_iconst K 2 dX12_does_75 rfl ?_
    refine z_icmp_eq K 83 dX12_does_76 (by decide) (fun c => ?_) (fun c => ?_)
    · have h := ite_t h c
      refine z_iconst K 0 dX12_does_83 rfl ?_
      refine Zj.mask [true, true, true, false] ?_
      exact wX12_does_84 K hR k0 _ _ h
    · have h := ite_f h c
      refine z_iconst K 1 dX12_does_79 rfl ?_
      refine z_goto K 84 dX12_does_80 (by decide) ?_
      refine Zj.mask [true, true, true, false] ?_
      exact wX12_does_84 K hR k0 _ _ h
  rcases ite_or h with ⟨c2, h⟩ | ⟨c2, h⟩
  · refine z_tin K 102 2 c2 dX12_does_3 (by decide) (by decide) rfl (by decide) ?_
    refine z_aload_n K dX12_does_102 rfl ?_
    refine z_iload_n K dX12_does_103 rfl ?_
    obtain ⟨u4, hc, h⟩ := bd1_e h
    refine z_callVI K (mX12_whyUnload l hR k0 hc) clX12 k0 ceX12_whyUnload q1693 ⟨rfl, rfl, rfl, rfl⟩ rfl rfl rfl dX12_does_104 ?_
    refine z_istore_n K dX12_does_107 rfl rfl ?_
    refine z_iload_n K dX12_does_108 rfl ?_
    refine z_if_ne K 218 dX12_does_109 (by decide) (fun c => ?_) (fun c => ?_)
    · have h := ite_f h c
      refine Zj.mask [false, true, false, true] ?_
      exact wX12_does_218 K hR k0 _ _ h
    · have h := ite_t h c
      refine z_aload_n K dX12_does_112 rfl ?_
      refine z_iload_n K dX12_does_113 rfl ?_
      obtain ⟨T5, hc, h⟩ := bd1_e h
      refine z_callVV K (mX12_takesOut l hR k0 hc) clX12 k0 ceX12_takesOut q1701 ⟨rfl, rfl, rfl, rfl⟩ rfl rfl rfl dX12_does_114 ?_
      refine z_goto K 218 dX12_does_117 (by decide) ?_
      refine Zj.mask [false, true, false, true] ?_
      exact wX12_does_218 K hR k0 _ _ h
  rcases ite_or h with ⟨c3, h⟩ | ⟨c3, h⟩
  · refine z_tin K 120 3 c3 dX12_does_3 (by decide) (by decide) rfl (by decide) ?_
    refine z_aload_n K dX12_does_120 rfl ?_
    refine z_iload_n K dX12_does_121 rfl ?_
    obtain ⟨u6, hc, h⟩ := bd1_e h
    refine z_callVI K (mX12_whyLoad l hR k0 hc) clX12 k0 ceX12_whyLoad q1709 ⟨rfl, rfl, rfl, rfl⟩ rfl rfl rfl dX12_does_122 ?_
    refine z_istore_n K dX12_does_125 rfl rfl ?_
    refine z_iload_n K dX12_does_126 rfl ?_
    refine z_if_ne K 218 dX12_does_127 (by decide) (fun c => ?_) (fun c => ?_)
    · have h := ite_f h c
      refine Zj.mask [false, true, false, true] ?_
      exact wX12_does_218 K hR k0 _ _ h
    · have h := ite_t h c
      refine z_aload_n K dX12_does_130 rfl ?_
      refine z_getR K clX12 k0 6 rfl rfl q1344 dX12_does_131 ?_
      refine z_bipush K 81 dX12_does_134 rfl ?_
      refine z_dup2 K dX12_does_136 rfl rfl ?_
      obtain ⟨hi, h⟩ := ix_e h
      refine z_iald K (hR.at (k := 6) (t := 20270) k0 rfl rfl) rfl rfl rfl hi dX12_does_137 ?_
      refine z_iconst K 1 dX12_does_138 rfl ?_
      refine z_iload_n K dX12_does_139 rfl ?_
      refine z_ishl K dX12_does_140 ?_
      refine z_ior K dX12_does_141 ?_
      obtain ⟨hi, h⟩ := ix_e h
      refine z_iast K (hR.at (k := 6) (t := 20270) k0 rfl rfl) rfl rfl rfl hi dX12_does_142 ?_
      refine z_goto K 218 dX12_does_143 (by decide) ?_
      refine Zj.mask [false, true, false, true] ?_
      exact wX12_does_218 K hR k0 _ _ h
  rcases ite_or h with ⟨c4, h⟩ | ⟨c4, h⟩
  · refine z_tin K 146 4 c4 dX12_does_3 (by decide) (by decide) rfl (by decide) ?_
    refine z_iload_n K dX12_does_146 rfl ?_
    refine z_aload_n K dX12_does_147 rfl ?_
    refine z_getR K clX12 k0 6 rfl rfl q1344 dX12_does_148 ?_
    refine z_iconst K 2 dX12_does_151 rfl ?_
    obtain ⟨hi, h⟩ := ix_e h
    refine z_iald K (hR.at (k := 6) (t := 20270) k0 rfl rfl) rfl rfl rfl hi dX12_does_152 ?_
    refine z_icmp_lt K 161 dX12_does_153 (by decide) (fun c => ?_) (fun c => ?_)
    · have h := ite_t h c
      refine z_aload_n K dX12_does_161 rfl ?_
      refine z_iload_n K dX12_does_162 rfl ?_
      obtain ⟨u8, hc, h⟩ := bd1_e h
      refine z_callVI K (mX12_whyBind l hR k0 hc) clX12 k0 ceX12_whyBind q1717 ⟨rfl, rfl, rfl, rfl⟩ rfl rfl rfl dX12_does_163 ?_
      refine Zj.mask [true, true, true, false] ?_
      exact wX12_does_166 K hR k0 _ _ h
    · have h := ite_f h c
      refine z_bipush K 9 dX12_does_156 rfl ?_
      refine z_goto K 166 dX12_does_158 (by decide) ?_
      refine Zj.mask [true, true, true, false] ?_
      exact wX12_does_166 K hR k0 _ _ h
  refine z_tout K 187 5 (lt_p (lt_s (lt_s (lt_s (lt_s (lt_s lt_0 c0) c1) c2) c3) c4)) dX12_does_3 (by decide) (by decide) (by decide) ?_
  refine z_aload_n K dX12_does_187 rfl ?_
  refine z_getR K clX12 k0 6 rfl rfl q1344 dX12_does_188 ?_
  refine z_bipush K 80 dX12_does_191 rfl ?_
  obtain ⟨hi, h⟩ := ix_e h
  refine z_iald K (hR.at (k := 6) (t := 20270) k0 rfl rfl) rfl rfl rfl hi dX12_does_193 ?_
  refine z_iload_n K dX12_does_194 rfl ?_
  refine z_iadd K dX12_does_195 ?_
  refine z_sipush K 400 dX12_does_196 rfl ?_
  refine z_icmp_le K 206 dX12_does_199 (by decide) (fun c => ?_) (fun c => ?_)
  · have h := ite_t h c
    refine z_iconst K 0 dX12_does_206 rfl ?_
    refine Zj.mask [true, true, true, false] ?_
    exact wX12_does_207 K hR k0 _ _ h
  · have h := ite_f h c
    refine z_iconst K 1 dX12_does_202 rfl ?_
    refine z_goto K 207 dX12_does_203 (by decide) ?_
    refine Zj.mask [true, true, true, false] ?_
    exact wX12_does_207 K hR k0 _ _ h
/-! GoingOverModel.book (I)I -/
abbrev rmX12_book : Room := { frames := 7, cells := 0, slots := 0, locals := 154 }
def pX12_book_39 (R : Rf) (a0 : Nat) (x1 : Int32) (e62 : Mm → Option (Int32 × Mm)) (e83 : Mm → Option (Int32 × Mm)) (r39 : Mm → Option (Int32 × Mm)) (T : Mm) : Option (Int32 × Mm) :=
  if (T.1 a0 11) = 0 then e83 T else bd2 (pX12_bookLine R T a0) (fun (u7 : Int32) (T7 : Mm) => if u7 = 0 then e62 T7 else bd2 (pX12_sign R T7 a0 59) (fun (u8 : Int32) (T8 : Mm) => if u8 = 0 then e62 T8 else lt (wI T8 a0 37 ((T8.1 a0 37) + 1)) (fun (T9 : Mm) => r39 T9)))
def pX12_book_62 (R : Rf) (a0 : Nat) (x1 : Int32) (T : Mm) : Option (Int32 × Mm) :=
  some ((-2) - (T.1 a0 16), T)
def pX12_book_89 (R : Rf) (a0 : Nat) (x1 : Int32) (e107 : Mm → Option (Int32 × Mm)) (r89 : Mm → Int32 → Option (Int32 × Mm)) (T : Mm) (x2 : Int32) : Option (Int32 × Mm) :=
  if 4 ≤ x2 then e107 T else ix x2 4 (lt (wI T (R a0 38) x2.toNatClampNeg 0) (fun (T11 : Mm) => lt (x2 + 1) (fun (v12 : Int32) => r89 T11 v12)))
def pX12_book_111 (R : Rf) (a0 : Nat) (x1 : Int32) (e181 : Mm → Int32 → Option (Int32 × Mm)) (r111 : Mm → Int32 → Int32 → Option (Int32 × Mm)) (T : Mm) (x2 : Int32) (x3 : Int32) : Option (Int32 × Mm) :=
  if (T.1 a0 37) ≤ x3 then e181 T x2 else if 0 ≤ x2 then e181 T x2 else ix (3 * x3) 135 (ix ((3 * x3) + 1) 135 (bd2 (pX12_does R T a0 (T.1 (R a0 8) (3 * x3).toNatClampNeg) (T.1 (R a0 8) ((3 * x3) + 1).toNatClampNeg)) (fun (u13 : Int32) (T13 : Mm) => ix 0 4 (lt (wI T13 (R a0 38) (0 : Int32).toNatClampNeg u13) (fun (T14 : Mm) => ix 0 4 (if (T14.1 (R a0 38) (0 : Int32).toNatClampNeg) ≤ 0 then ix 1 4 (ix 1 4 (lt (wI T14 (R a0 38) (1 : Int32).toNatClampNeg ((T14.1 (R a0 38) (1 : Int32).toNatClampNeg) + 1)) (fun (T15 : Mm) => lt (x3 + 1) (fun (v16 : Int32) => r111 T15 x2 v16)))) else lt (x3 + 1) (fun (v17 : Int32) => r111 T14 x3 v17)))))))
def pX12_book_279 (R : Rf) (a0 : Nat) (x1 : Int32) (T : Mm) (x2 : Int32) : Option (Int32 × Mm) :=
  if x1 = 0 then bd1 (pX12_back R T a0) (fun (T21 : Mm) => some (x2, T21)) else some (x2, T)
def pX12_book_245 (R : Rf) (a0 : Nat) (x1 : Int32) (e279 : Mm → Int32 → Option (Int32 × Mm)) (r245 : Mm → Int32 → Int32 → Option (Int32 × Mm)) (T : Mm) (x2 : Int32) (x3 : Int32) : Option (Int32 × Mm) :=
  if 9 ≤ x3 then e279 T x2 else ix x3 9 (ix ((9 * ((T.1 a0 23) - 1)) + x3) 72 (lt (wI T (R a0 21) ((9 * ((T.1 a0 23) - 1)) + x3).toNatClampNeg (T.1 (R a0 22) x3.toNatClampNeg)) (fun (T23 : Mm) => lt (x3 + 1) (fun (v24 : Int32) => r245 T23 x2 v24))))
def pX12_book_181 (R : Rf) (a0 : Nat) (x1 : Int32) (T : Mm) (x2 : Int32) : Option (Int32 × Mm) :=
  ix 80 270 (ix 2 4 (lt (wI T (R a0 38) (2 : Int32).toNatClampNeg (T.1 (R a0 6) (80 : Int32).toNatClampNeg)) (fun (T18 : Mm) => ix 2 270 (ix 82 270 (ix 3 4 (lt (wI T18 (R a0 38) (3 : Int32).toNatClampNeg (((1 <<< ((T18.1 (R a0 6) (2 : Int32).toNatClampNeg) &&& 31)) - 1) &&& ((T18.1 (R a0 6) (82 : Int32).toNatClampNeg) ^^^ (-1)))) (fun (T19 : Mm) => lt (wI T19 a0 39 1) (fun (T20 : Mm) => if x1 = 1 then ix 1 4 (if (T20.1 (R a0 38) (1 : Int32).toNatClampNeg) ≤ 0 then pX12_book_279 R a0 x1 T20 x2 else bd1 (pX12_stores R T20 a0) (fun (T22 : Mm) => zl3 (pX12_book_245 R a0 x1 (pX12_book_279 R a0 x1)) FU T22 x2 0)) else pX12_book_279 R a0 x1 T20 x2))))))))
def pX12_book_107 (R : Rf) (a0 : Nat) (x1 : Int32) (T : Mm) : Option (Int32 × Mm) :=
  zl3 (pX12_book_111 R a0 x1 (pX12_book_181 R a0 x1)) FU T (-1) 0
def pX12_book_83 (R : Rf) (a0 : Nat) (x1 : Int32) (T : Mm) : Option (Int32 × Mm) :=
  bd1 (pX12_tries R T a0) (fun (T10 : Mm) => zl2 (pX12_book_89 R a0 x1 (pX12_book_107 R a0 x1)) FU T10 0)
def pX12_book (R : Rf) (T : Mm) (a0 : Nat) (x1 : Int32) : Option (Int32 × Mm) :=
  lt (wI T a0 0 0) (fun (T1 : Mm) => bd1 (pX12_isIn R T1 x1 0 1) (fun (u2 : Int32) => if u2 = 0 then some ((-1000), T1) else bd1 (pX12_taken R T1 a0 400) (fun (T3 : Mm) => lt (wI T3 a0 15 0) (fun (T4 : Mm) => lt (wI T4 a0 37 0) (fun (T5 : Mm) => bd1 (pX12_next R T5 a0) (fun (T6 : Mm) => zl1 (pX12_book_39 R a0 x1 (pX12_book_62 R a0 x1) (pX12_book_83 R a0 x1)) FU T6))))))
set_option maxRecDepth 100000 in
set_option maxHeartbeats 4000000 in
theorem wX12_book_39 {X : Cx} {g : Gl} {l : Launch} {R : Rf} {a0 : Nat} {x1 : Int32} (K : Ok X g l cX12_book RX12 4 (some .int) rmX12_book) (hR : Ty g R) (k0 : kd g a0 = 12) {r : Int32 × Mm} {e62 : Mm → Option (Int32 × Mm)} (he62 : ∀ (T : Mm), e62 T = some r → Zj X g 4 (QI X g r.1 R r.2) R T [some (.ref (g.2.2.1 a0)), none, none, none] [] 62) {e83 : Mm → Option (Int32 × Mm)} (he83 : ∀ (T : Mm), e83 T = some r → Zj X g 4 (QI X g r.1 R r.2) R T [some (.ref (g.2.2.1 a0)), some (.int x1), none, none] [] 83) : ∀ (n : Nat) (T : Mm), zl1 (pX12_book_39 R a0 x1 e62 e83) n T = some r → Zj X g 4 (QI X g r.1 R r.2) R T [some (.ref (g.2.2.1 a0)), some (.int x1), none, none] [] 39 := by
  intro n
  induction n with
  | zero =>
    intro T h
    exact absurd h (by simp [zl1])
  | succ n hr39 =>
    intro T h
    rw [zl1_s] at h
    unfold pX12_book_39 at h
    refine z_aload_n K dX12_book_39 rfl ?_
    refine z_getI K clX12 k0 11 rfl rfl q1349 dX12_book_40 ?_
    refine z_if_eq K 83 dX12_book_43 (by decide) (fun c => ?_) (fun c => ?_)
    · have h := ite_t h c
      refine Zj.mask [true, true, false, false] ?_
      exact he83 _ h
    · have h := ite_f h c
      refine z_aload_n K dX12_book_46 rfl ?_
      obtain ⟨u7, T7, hc, h⟩ := bd2_e h
      refine z_callVI K (mX12_bookLine l hR k0 hc) clX12 k0 ceX12_bookLine q1889 ⟨rfl, rfl, rfl, rfl⟩ rfl rfl rfl dX12_book_47 ?_
      refine z_if_eq K 62 dX12_book_50 (by decide) (fun c => ?_) (fun c => ?_)
      · have h := ite_t h c
        refine Zj.mask [true, false, false, false] ?_
        exact he62 _ h
      · have h := ite_f h c
        refine z_aload_n K dX12_book_53 rfl ?_
        refine z_bipush K 59 dX12_book_54 rfl ?_
        obtain ⟨u8, T8, hc, h⟩ := bd2_e h
        refine z_callVI K (mX12_sign l hR k0 hc) clX12 k0 ceX12_sign q1574 ⟨rfl, rfl, rfl, rfl⟩ rfl rfl rfl dX12_book_56 ?_
        refine z_if_ne K 70 dX12_book_59 (by decide) (fun c => ?_) (fun c => ?_)
        · have h := ite_f h c
          refine z_aload_n K dX12_book_70 rfl ?_
          refine z_dup K dX12_book_71 rfl ?_
          refine z_getI K clX12 k0 37 rfl rfl q1375 dX12_book_72 ?_
          refine z_iconst K 1 dX12_book_75 rfl ?_
          refine z_iadd K dX12_book_76 ?_
          refine z_putI K clX12 tyX12_ok nmX12 k0 37 rfl rfl q1375 rfl rfl rfl dX12_book_77 ?_
          refine z_goto K 39 dX12_book_80 (by decide) ?_
          refine Zj.mask [true, true, false, false] ?_
          exact hr39 _ h
        · have h := ite_t h c
          refine Zj.mask [true, false, false, false] ?_
          exact he62 _ h
set_option maxRecDepth 100000 in
set_option maxHeartbeats 4000000 in
theorem wX12_book_62 {X : Cx} {g : Gl} {l : Launch} {R : Rf} {a0 : Nat} {x1 : Int32} (K : Ok X g l cX12_book RX12 4 (some .int) rmX12_book) (hR : Ty g R) (k0 : kd g a0 = 12) {r : Int32 × Mm} (T : Mm) (h : pX12_book_62 R a0 x1 T = some r) : Zj X g 4 (QI X g r.1 R r.2) R T [some (.ref (g.2.2.1 a0)), none, none, none] [] 62 := by
  unfold pX12_book_62 at h
  refine z_bipush K (-2) dX12_book_62 rfl ?_
  refine z_aload_n K dX12_book_64 rfl ?_
  refine z_getI K clX12 k0 16 rfl rfl q1354 dX12_book_65 ?_
  refine z_isub K dX12_book_68 ?_
  obtain rfl := Option.some.inj h
  exact z_iret K dX12_book_69
set_option maxRecDepth 100000 in
set_option maxHeartbeats 4000000 in
theorem wX12_book_89 {X : Cx} {g : Gl} {l : Launch} {R : Rf} {a0 : Nat} {x1 : Int32} (K : Ok X g l cX12_book RX12 4 (some .int) rmX12_book) (hR : Ty g R) (k0 : kd g a0 = 12) {r : Int32 × Mm} {e107 : Mm → Option (Int32 × Mm)} (he107 : ∀ (T : Mm), e107 T = some r → Zj X g 4 (QI X g r.1 R r.2) R T [some (.ref (g.2.2.1 a0)), some (.int x1), none, none] [] 107) : ∀ (n : Nat) (T : Mm) (x2 : Int32), zl2 (pX12_book_89 R a0 x1 e107) n T x2 = some r → Zj X g 4 (QI X g r.1 R r.2) R T [some (.ref (g.2.2.1 a0)), some (.int x1), some (.int x2), none] [] 89 := by
  intro n
  induction n with
  | zero =>
    intro T x2 h
    exact absurd h (by simp [zl2])
  | succ n hr89 =>
    intro T x2 h
    rw [zl2_s] at h
    unfold pX12_book_89 at h
    refine z_iload_n K dX12_book_89 rfl ?_
    refine z_iconst K 4 dX12_book_90 rfl ?_
    refine z_icmp_ge K 107 dX12_book_91 (by decide) (fun c => ?_) (fun c => ?_)
    · have h := ite_t h c
      refine Zj.mask [true, true, false, false] ?_
      exact he107 _ h
    · have h := ite_f h c
      refine z_aload_n K dX12_book_94 rfl ?_
      refine z_getR K clX12 k0 38 rfl rfl q1376 dX12_book_95 ?_
      refine z_iload_n K dX12_book_98 rfl ?_
      refine z_iconst K 0 dX12_book_99 rfl ?_
      obtain ⟨hi, h⟩ := ix_e h
      refine z_iast K (hR.at (k := 38) (t := 20004) k0 rfl rfl) rfl rfl rfl hi dX12_book_100 ?_
      refine z_iinc K 1 dX12_book_101 rfl rfl rfl rfl ?_
      refine z_goto K 89 dX12_book_104 (by decide) ?_
      refine Zj.mask [true, true, true, false] ?_
      exact hr89 _ _ h
set_option maxRecDepth 100000 in
set_option maxHeartbeats 4000000 in
theorem wX12_book_111 {X : Cx} {g : Gl} {l : Launch} {R : Rf} {a0 : Nat} {x1 : Int32} (K : Ok X g l cX12_book RX12 4 (some .int) rmX12_book) (hR : Ty g R) (k0 : kd g a0 = 12) {r : Int32 × Mm} {e181 : Mm → Int32 → Option (Int32 × Mm)} (he181 : ∀ (T : Mm) (x2 : Int32), e181 T x2 = some r → Zj X g 4 (QI X g r.1 R r.2) R T [some (.ref (g.2.2.1 a0)), some (.int x1), some (.int x2), none] [] 181) : ∀ (n : Nat) (T : Mm) (x2 : Int32) (x3 : Int32), zl3 (pX12_book_111 R a0 x1 e181) n T x2 x3 = some r → Zj X g 4 (QI X g r.1 R r.2) R T [some (.ref (g.2.2.1 a0)), some (.int x1), some (.int x2), some (.int x3)] [] 111 := by
  intro n
  induction n with
  | zero =>
    intro T x2 x3 h
    exact absurd h (by simp [zl3])
  | succ n hr111 =>
    intro T x2 x3 h
    rw [zl3_s] at h
    unfold pX12_book_111 at h
    refine z_iload_n K dX12_book_111 rfl ?_
    refine z_aload_n K dX12_book_112 rfl ?_
    refine z_getI K clX12 k0 37 rfl rfl q1375 dX12_book_113 ?_
    refine z_icmp_ge K 181 dX12_book_116 (by decide) (fun c => ?_) (fun c => ?_)
    · have h := ite_t h c
      refine Zj.mask [true, true, true, false] ?_
      exact he181 _ _ h
    · have h := ite_f h c
      refine z_iload_n K dX12_book_119 rfl ?_
      refine z_if_ge K 181 dX12_book_120 (by decide) (fun c => ?_) (fun c => ?_)
      · have h := ite_t h c
        refine Zj.mask [true, true, true, false] ?_
        exact he181 _ _ h
      · have h := ite_f h c
        refine z_aload_n K dX12_book_123 rfl ?_
        refine z_getR K clX12 k0 38 rfl rfl q1376 dX12_book_124 ?_
        refine z_iconst K 0 dX12_book_127 rfl ?_
        refine z_aload_n K dX12_book_128 rfl ?_
        refine z_aload_n K dX12_book_129 rfl ?_
        refine z_getR K clX12 k0 8 rfl rfl q1346 dX12_book_130 ?_
        refine z_iconst K 3 dX12_book_133 rfl ?_
        refine z_iload_n K dX12_book_134 rfl ?_
        refine z_imul K dX12_book_135 ?_
        obtain ⟨hi, h⟩ := ix_e h
        refine z_iald K (hR.at (k := 8) (t := 20135) k0 rfl rfl) rfl rfl rfl hi dX12_book_136 ?_
        refine z_aload_n K dX12_book_137 rfl ?_
        refine z_getR K clX12 k0 8 rfl rfl q1346 dX12_book_138 ?_
        refine z_iconst K 3 dX12_book_141 rfl ?_
        refine z_iload_n K dX12_book_142 rfl ?_
        refine z_imul K dX12_book_143 ?_
        refine z_iconst K 1 dX12_book_144 rfl ?_
        refine z_iadd K dX12_book_145 ?_
        obtain ⟨hi, h⟩ := ix_e h
        refine z_iald K (hR.at (k := 8) (t := 20135) k0 rfl rfl) rfl rfl rfl hi dX12_book_146 ?_
        obtain ⟨u13, T13, hc, h⟩ := bd2_e h
        refine z_callVI K (mX12_does l hR k0 hc) clX12 k0 ceX12_does q1893 ⟨rfl, rfl, rfl, rfl⟩ rfl rfl rfl dX12_book_147 ?_
        obtain ⟨hi, h⟩ := ix_e h
        refine z_iast K (hR.at (k := 38) (t := 20004) k0 rfl rfl) rfl rfl rfl hi dX12_book_150 ?_
        refine z_aload_n K dX12_book_151 rfl ?_
        refine z_getR K clX12 k0 38 rfl rfl q1376 dX12_book_152 ?_
        refine z_iconst K 0 dX12_book_155 rfl ?_
        obtain ⟨hi, h⟩ := ix_e h
        refine z_iald K (hR.at (k := 38) (t := 20004) k0 rfl rfl) rfl rfl rfl hi dX12_book_156 ?_
        refine z_if_le K 165 dX12_book_157 (by decide) (fun c => ?_) (fun c => ?_)
        · have h := ite_t h c
          refine z_aload_n K dX12_book_165 rfl ?_
          refine z_getR K clX12 k0 38 rfl rfl q1376 dX12_book_166 ?_
          refine z_iconst K 1 dX12_book_169 rfl ?_
          refine z_dup2 K dX12_book_170 rfl rfl ?_
          obtain ⟨hi, h⟩ := ix_e h
          refine z_iald K (hR.at (k := 38) (t := 20004) k0 rfl rfl) rfl rfl rfl hi dX12_book_171 ?_
          refine z_iconst K 1 dX12_book_172 rfl ?_
          refine z_iadd K dX12_book_173 ?_
          obtain ⟨hi, h⟩ := ix_e h
          refine z_iast K (hR.at (k := 38) (t := 20004) k0 rfl rfl) rfl rfl rfl hi dX12_book_174 ?_
          refine z_iinc K 1 dX12_book_175 rfl rfl rfl rfl ?_
          refine z_goto K 111 dX12_book_178 (by decide) ?_
          refine Zj.mask [true, true, true, true] ?_
          exact hr111 _ _ _ h
        · have h := ite_f h c
          refine z_iload_n K dX12_book_160 rfl ?_
          refine z_istore_n K dX12_book_161 rfl rfl ?_
          refine z_goto K 175 dX12_book_162 (by decide) ?_
          refine z_iinc K 1 dX12_book_175 rfl rfl rfl rfl ?_
          refine z_goto K 111 dX12_book_178 (by decide) ?_
          refine Zj.mask [true, true, true, true] ?_
          exact hr111 _ _ _ h
set_option maxRecDepth 100000 in
set_option maxHeartbeats 4000000 in
theorem wX12_book_279 {X : Cx} {g : Gl} {l : Launch} {R : Rf} {a0 : Nat} {x1 : Int32} (K : Ok X g l cX12_book RX12 4 (some .int) rmX12_book) (hR : Ty g R) (k0 : kd g a0 = 12) {r : Int32 × Mm} (T : Mm) (x2 : Int32) (h : pX12_book_279 R a0 x1 T x2 = some r) : Zj X g 4 (QI X g r.1 R r.2) R T [some (.ref (g.2.2.1 a0)), some (.int x1), some (.int x2), none] [] 279 := by
  unfold pX12_book_279 at h
  refine z_iload_n K dX12_book_279 rfl ?_
  refine z_if_ne K 287 dX12_book_280 (by decide) (fun c => ?_) (fun c => ?_)
  · have h := ite_f h c
    refine z_iload_n K dX12_book_287 rfl ?_
    obtain rfl := Option.some.inj h
    exact z_iret K dX12_book_288
  · have h := ite_t h c
    refine z_aload_n K dX12_book_283 rfl ?_
    obtain ⟨T21, hc, h⟩ := bd1_e h
    refine z_callVV K (mX12_back l hR k0 hc) clX12 k0 ceX12_back q1881 ⟨rfl, rfl, rfl, rfl⟩ rfl rfl rfl dX12_book_284 ?_
    refine z_iload_n K dX12_book_287 rfl ?_
    obtain rfl := Option.some.inj h
    exact z_iret K dX12_book_288
set_option maxRecDepth 100000 in
set_option maxHeartbeats 4000000 in
theorem wX12_book_245 {X : Cx} {g : Gl} {l : Launch} {R : Rf} {a0 : Nat} {x1 : Int32} (K : Ok X g l cX12_book RX12 4 (some .int) rmX12_book) (hR : Ty g R) (k0 : kd g a0 = 12) {r : Int32 × Mm} {e279 : Mm → Int32 → Option (Int32 × Mm)} (he279 : ∀ (T : Mm) (x2 : Int32), e279 T x2 = some r → Zj X g 4 (QI X g r.1 R r.2) R T [some (.ref (g.2.2.1 a0)), some (.int x1), some (.int x2), none] [] 279) : ∀ (n : Nat) (T : Mm) (x2 : Int32) (x3 : Int32), zl3 (pX12_book_245 R a0 x1 e279) n T x2 x3 = some r → Zj X g 4 (QI X g r.1 R r.2) R T [some (.ref (g.2.2.1 a0)), some (.int x1), some (.int x2), some (.int x3)] [] 245 := by
  intro n
  induction n with
  | zero =>
    intro T x2 x3 h
    exact absurd h (by simp [zl3])
  | succ n hr245 =>
    intro T x2 x3 h
    rw [zl3_s] at h
    unfold pX12_book_245 at h
    refine z_iload_n K dX12_book_245 rfl ?_
    refine z_bipush K 9 dX12_book_246 rfl ?_
    refine z_icmp_ge K 279 dX12_book_248 (by decide) (fun c => ?_) (fun c => ?_)
    · have h := ite_t h c
      refine Zj.mask [true, true, true, false] ?_
      exact he279 _ _ h
    · have h := ite_f h c
      refine z_aload_n K dX12_book_251 rfl ?_
      refine z_getR K clX12 k0 21 rfl rfl q1359 dX12_book_252 ?_
      refine z_bipush K 9 dX12_book_255 rfl ?_
      refine z_aload_n K dX12_book_257 rfl ?_
      refine z_getI K clX12 k0 23 rfl rfl q1361 dX12_book_258 ?_
      refine z_iconst K 1 dX12_book_261 rfl ?_
      refine z_isub K dX12_book_262 ?_
      refine z_imul K dX12_book_263 ?_
      refine z_iload_n K dX12_book_264 rfl ?_
      refine z_iadd K dX12_book_265 ?_
      refine z_aload_n K dX12_book_266 rfl ?_
      refine z_getR K clX12 k0 22 rfl rfl q1360 dX12_book_267 ?_
      refine z_iload_n K dX12_book_270 rfl ?_
      obtain ⟨hi, h⟩ := ix_e h
      refine z_iald K (hR.at (k := 22) (t := 20009) k0 rfl rfl) rfl rfl rfl hi dX12_book_271 ?_
      obtain ⟨hi, h⟩ := ix_e h
      refine z_iast K (hR.at (k := 21) (t := 20072) k0 rfl rfl) rfl rfl rfl hi dX12_book_272 ?_
      refine z_iinc K 1 dX12_book_273 rfl rfl rfl rfl ?_
      refine z_goto K 245 dX12_book_276 (by decide) ?_
      refine Zj.mask [true, true, true, true] ?_
      exact hr245 _ _ _ h
set_option maxRecDepth 100000 in
set_option maxHeartbeats 4000000 in
theorem wX12_book_181 {X : Cx} {g : Gl} {l : Launch} {R : Rf} {a0 : Nat} {x1 : Int32} (K : Ok X g l cX12_book RX12 4 (some .int) rmX12_book) (hR : Ty g R) (k0 : kd g a0 = 12) {r : Int32 × Mm} (T : Mm) (x2 : Int32) (h : pX12_book_181 R a0 x1 T x2 = some r) : Zj X g 4 (QI X g r.1 R r.2) R T [some (.ref (g.2.2.1 a0)), some (.int x1), some (.int x2), none] [] 181 := by
  unfold pX12_book_181 at h
  refine z_aload_n K dX12_book_181 rfl ?_
  refine z_getR K clX12 k0 38 rfl rfl q1376 dX12_book_182 ?_
  refine z_iconst K 2 dX12_book_185 rfl ?_
  refine z_aload_n K dX12_book_186 rfl ?_
  refine z_getR K clX12 k0 6 rfl rfl q1344 dX12_book_187 ?_
  refine z_bipush K 80 dX12_book_190 rfl ?_
  obtain ⟨hi, h⟩ := ix_e h
  refine z_iald K (hR.at (k := 6) (t := 20270) k0 rfl rfl) rfl rfl rfl hi dX12_book_192 ?_
  obtain ⟨hi, h⟩ := ix_e h
  refine z_iast K (hR.at (k := 38) (t := 20004) k0 rfl rfl) rfl rfl rfl hi dX12_book_193 ?_
  refine z_aload_n K dX12_book_194 rfl ?_
  refine z_getR K clX12 k0 38 rfl rfl q1376 dX12_book_195 ?_
  refine z_iconst K 3 dX12_book_198 rfl ?_
  refine z_iconst K 1 dX12_book_199 rfl ?_
  refine z_aload_n K dX12_book_200 rfl ?_
  refine z_getR K clX12 k0 6 rfl rfl q1344 dX12_book_201 ?_
  refine z_iconst K 2 dX12_book_204 rfl ?_
  obtain ⟨hi, h⟩ := ix_e h
  refine z_iald K (hR.at (k := 6) (t := 20270) k0 rfl rfl) rfl rfl rfl hi dX12_book_205 ?_
  refine z_ishl K dX12_book_206 ?_
  refine z_iconst K 1 dX12_book_207 rfl ?_
  refine z_isub K dX12_book_208 ?_
  refine z_aload_n K dX12_book_209 rfl ?_
  refine z_getR K clX12 k0 6 rfl rfl q1344 dX12_book_210 ?_
  refine z_bipush K 82 dX12_book_213 rfl ?_
  obtain ⟨hi, h⟩ := ix_e h
  refine z_iald K (hR.at (k := 6) (t := 20270) k0 rfl rfl) rfl rfl rfl hi dX12_book_215 ?_
  refine z_iconst K (-1) dX12_book_216 rfl ?_
  refine z_ixor K dX12_book_217 ?_
  refine z_iand K dX12_book_218 ?_
  obtain ⟨hi, h⟩ := ix_e h
  refine z_iast K (hR.at (k := 38) (t := 20004) k0 rfl rfl) rfl rfl rfl hi dX12_book_219 ?_
  refine z_aload_n K dX12_book_220 rfl ?_
  refine z_iconst K 1 dX12_book_221 rfl ?_
  refine z_putI K clX12 tyX12_ok nmX12 k0 39 rfl rfl q1377 rfl rfl rfl dX12_book_222 ?_
  refine z_iload_n K dX12_book_225 rfl ?_
  refine z_iconst K 1 dX12_book_226 rfl ?_
  refine z_icmp_ne K 279 dX12_book_227 (by decide) (fun c => ?_) (fun c => ?_)
  · have h := ite_f h c
    refine Zj.mask [true, true, true, false] ?_
    exact wX12_book_279 K hR k0 _ _ h
  · have h := ite_t h c
    refine z_aload_n K dX12_book_230 rfl ?_
    refine z_getR K clX12 k0 38 rfl rfl q1376 dX12_book_231 ?_
    refine z_iconst K 1 dX12_book_234 rfl ?_
    obtain ⟨hi, h⟩ := ix_e h
    refine z_iald K (hR.at (k := 38) (t := 20004) k0 rfl rfl) rfl rfl rfl hi dX12_book_235 ?_
    refine z_if_le K 279 dX12_book_236 (by decide) (fun c => ?_) (fun c => ?_)
    · have h := ite_t h c
      refine Zj.mask [true, true, true, false] ?_
      exact wX12_book_279 K hR k0 _ _ h
    · have h := ite_f h c
      refine z_aload_n K dX12_book_239 rfl ?_
      obtain ⟨T22, hc, h⟩ := bd1_e h
      refine z_callVV K (mX12_stores l hR k0 hc) clX12 k0 ceX12_stores q1669 ⟨rfl, rfl, rfl, rfl⟩ rfl rfl rfl dX12_book_240 ?_
      refine z_iconst K 0 dX12_book_243 rfl ?_
      refine z_istore_n K dX12_book_244 rfl rfl ?_
      refine Zj.mask [true, true, true, true] ?_
      exact wX12_book_245 K hR k0 (wX12_book_279 K hR k0) FU _ _ _ h
set_option maxRecDepth 100000 in
set_option maxHeartbeats 4000000 in
theorem wX12_book_107 {X : Cx} {g : Gl} {l : Launch} {R : Rf} {a0 : Nat} {x1 : Int32} (K : Ok X g l cX12_book RX12 4 (some .int) rmX12_book) (hR : Ty g R) (k0 : kd g a0 = 12) {r : Int32 × Mm} (T : Mm) (h : pX12_book_107 R a0 x1 T = some r) : Zj X g 4 (QI X g r.1 R r.2) R T [some (.ref (g.2.2.1 a0)), some (.int x1), none, none] [] 107 := by
  unfold pX12_book_107 at h
  refine z_iconst K (-1) dX12_book_107 rfl ?_
  refine z_istore_n K dX12_book_108 rfl rfl ?_
  refine z_iconst K 0 dX12_book_109 rfl ?_
  refine z_istore_n K dX12_book_110 rfl rfl ?_
  refine Zj.mask [true, true, true, true] ?_
  exact wX12_book_111 K hR k0 (wX12_book_181 K hR k0) FU _ _ _ h
set_option maxRecDepth 100000 in
set_option maxHeartbeats 4000000 in
theorem wX12_book_83 {X : Cx} {g : Gl} {l : Launch} {R : Rf} {a0 : Nat} {x1 : Int32} (K : Ok X g l cX12_book RX12 4 (some .int) rmX12_book) (hR : Ty g R) (k0 : kd g a0 = 12) {r : Int32 × Mm} (T : Mm) (h : pX12_book_83 R a0 x1 T = some r) : Zj X g 4 (QI X g r.1 R r.2) R T [some (.ref (g.2.2.1 a0)), some (.int x1), none, none] [] 83 := by
  unfold pX12_book_83 at h
  refine z_aload_n K dX12_book_83 rfl ?_
  obtain ⟨T10, hc, h⟩ := bd1_e h
  refine z_callVV K (mX12_tries l hR k0 hc) clX12 k0 ceX12_tries q1877 ⟨rfl, rfl, rfl, rfl⟩ rfl rfl rfl dX12_book_84 ?_
  refine z_iconst K 0 dX12_book_87 rfl ?_
  refine z_istore_n K dX12_book_88 rfl rfl ?_
  refine Zj.mask [true, true, true, false] ?_
  exact wX12_book_89 K hR k0 (wX12_book_107 K hR k0) FU _ _ h
set_option maxRecDepth 100000 in
set_option maxHeartbeats 4000000 in
theorem mX12_book {g : Gl} {R : Rf} {T : Mm} {a0 : Nat} {x1 : Int32} (l : Launch) (hR : Ty g R) (k0 : kd g a0 = 12) {r : Int32 × Mm} (h : pX12_book R T a0 x1 = some r) : MI l g yX12_book cX12_book 4 (some .int) rmX12_book [.ref (g.2.2.1 a0), .int x1] R T r.1 R r.2 := by
  refine z_metI (own := RX12) (lv := [some (.ref (g.2.2.1 a0)), some (.int x1), none, none]) (by decide +kernel) rfl rfl rfl (fun X K => ?_)
  unfold pX12_book at h
  refine z_aload_n K dX12_book_0 rfl ?_
  refine z_iconst K 0 dX12_book_1 rfl ?_
  refine z_putI K clX12 tyX12_ok nmX12 k0 0 rfl rfl q1338 rfl rfl rfl dX12_book_2 ?_
  refine z_iload_n K dX12_book_5 rfl ?_
  refine z_iconst K 0 dX12_book_6 rfl ?_
  refine z_iconst K 1 dX12_book_7 rfl ?_
  obtain ⟨u2, hc, h⟩ := bd1_e h
  refine z_callSI K (mX12_isIn l hR hc) ceX12_isIn q1539 ⟨rfl, rfl, rfl, rfl⟩ rfl rfl rfl dX12_book_8 ?_
  refine z_if_ne K 18 dX12_book_11 (by decide) (fun c => ?_) (fun c => ?_)
  · have h := ite_f h c
    refine z_aload_n K dX12_book_18 rfl ?_
    refine z_sipush K 400 dX12_book_19 rfl ?_
    obtain ⟨T3, hc, h⟩ := bd1_e h
    refine z_callVV K (mX12_taken l hR k0 hc) clX12 k0 ceX12_taken q1494 ⟨rfl, rfl, rfl, rfl⟩ rfl rfl rfl dX12_book_22 ?_
    refine z_aload_n K dX12_book_25 rfl ?_
    refine z_iconst K 0 dX12_book_26 rfl ?_
    refine z_putI K clX12 tyX12_ok nmX12 k0 15 rfl rfl q1353 rfl rfl rfl dX12_book_27 ?_
    refine z_aload_n K dX12_book_30 rfl ?_
    refine z_iconst K 0 dX12_book_31 rfl ?_
    refine z_putI K clX12 tyX12_ok nmX12 k0 37 rfl rfl q1375 rfl rfl rfl dX12_book_32 ?_
    refine z_aload_n K dX12_book_35 rfl ?_
    obtain ⟨T6, hc, h⟩ := bd1_e h
    refine z_callVV K (mX12_next l hR k0 hc) clX12 k0 ceX12_next q1498 ⟨rfl, rfl, rfl, rfl⟩ rfl rfl rfl dX12_book_36 ?_
    refine Zj.mask [true, true, false, false] ?_
    exact wX12_book_39 K hR k0 (wX12_book_62 K hR k0) (wX12_book_83 K hR k0) FU _ h
  · have h := ite_t h c
    refine z_sipush K (-1000) dX12_book_14 rfl ?_
    obtain rfl := Option.some.inj h
    exact z_iret K dX12_book_17
/-! GoingOverModel.told (I)I -/
abbrev rmX12_told : Room := { frames := 1, cells := 0, slots := 0, locals := 22 }
def pX12_told (R : Rf) (T : Mm) (a0 : Nat) (x1 : Int32) : Option (Int32 × Mm) :=
  lt (wI T a0 0 0) (fun (T1 : Mm) => if (T1.1 a0 39) = 0 then some ((-1), T1) else bd1 (pX12_isIn R T1 x1 0 3) (fun (u2 : Int32) => if u2 = 0 then some ((-1), T1) else ix x1 4 (some (T1.1 (R a0 38) x1.toNatClampNeg, T1))))
set_option maxRecDepth 100000 in
set_option maxHeartbeats 4000000 in
theorem mX12_told {g : Gl} {R : Rf} {T : Mm} {a0 : Nat} {x1 : Int32} (l : Launch) (hR : Ty g R) (k0 : kd g a0 = 12) {r : Int32 × Mm} (h : pX12_told R T a0 x1 = some r) : MI l g yX12_told cX12_told 2 (some .int) rmX12_told [.ref (g.2.2.1 a0), .int x1] R T r.1 R r.2 := by
  refine z_metI (own := RX12) (lv := [some (.ref (g.2.2.1 a0)), some (.int x1)]) (by decide +kernel) rfl rfl rfl (fun X K => ?_)
  unfold pX12_told at h
  refine z_aload_n K dX12_told_0 rfl ?_
  refine z_iconst K 0 dX12_told_1 rfl ?_
  refine z_putI K clX12 tyX12_ok nmX12 k0 0 rfl rfl q1338 rfl rfl rfl dX12_told_2 ?_
  refine z_aload_n K dX12_told_5 rfl ?_
  refine z_getI K clX12 k0 39 rfl rfl q1377 dX12_told_6 ?_
  refine z_if_eq K 30 dX12_told_9 (by decide) (fun c => ?_) (fun c => ?_)
  · have h := ite_t h c
    refine z_iconst K (-1) dX12_told_30 rfl ?_
    obtain rfl := Option.some.inj h
    exact z_iret K dX12_told_31
  · have h := ite_f h c
    refine z_iload_n K dX12_told_12 rfl ?_
    refine z_iconst K 0 dX12_told_13 rfl ?_
    refine z_iconst K 3 dX12_told_14 rfl ?_
    obtain ⟨u2, hc, h⟩ := bd1_e h
    refine z_callSI K (mX12_isIn l hR hc) ceX12_isIn q1539 ⟨rfl, rfl, rfl, rfl⟩ rfl rfl rfl dX12_told_15 ?_
    refine z_if_eq K 30 dX12_told_18 (by decide) (fun c => ?_) (fun c => ?_)
    · have h := ite_t h c
      refine z_iconst K (-1) dX12_told_30 rfl ?_
      obtain rfl := Option.some.inj h
      exact z_iret K dX12_told_31
    · have h := ite_f h c
      refine z_aload_n K dX12_told_21 rfl ?_
      refine z_getR K clX12 k0 38 rfl rfl q1376 dX12_told_22 ?_
      refine z_iload_n K dX12_told_25 rfl ?_
      obtain ⟨hi, h⟩ := ix_e h
      refine z_iald K (hR.at (k := 38) (t := 20004) k0 rfl rfl) rfl rfl rfl hi dX12_told_26 ?_
      refine z_goto K 31 dX12_told_27 (by decide) ?_
      obtain rfl := Option.some.inj h
      exact z_iret K dX12_told_31
/-! GoingOverModel.code (III)V -/
abbrev rmX12_code : Room := { frames := 0, cells := 0, slots := 0, locals := 0 }
def pX12_code (R : Rf) (T : Mm) (a0 : Nat) (x1 : Int32) (x2 : Int32) (x3 : Int32) : Option (Mm) :=
  ix (3 * (T.1 a0 41)) 135 (lt (wI T (R a0 8) (3 * (T.1 a0 41)).toNatClampNeg x1) (fun (T1 : Mm) => ix ((3 * (T1.1 a0 41)) + 1) 135 (lt (wI T1 (R a0 8) ((3 * (T1.1 a0 41)) + 1).toNatClampNeg x2) (fun (T2 : Mm) => ix ((3 * (T2.1 a0 41)) + 2) 135 (lt (wI T2 (R a0 8) ((3 * (T2.1 a0 41)) + 2).toNatClampNeg x3) (fun (T3 : Mm) => lt (wI T3 a0 41 ((T3.1 a0 41) + 1)) (fun (T4 : Mm) => some T4)))))))
set_option maxRecDepth 100000 in
set_option maxHeartbeats 4000000 in
theorem mX12_code {g : Gl} {R : Rf} {T : Mm} {a0 : Nat} {x1 : Int32} {x2 : Int32} {x3 : Int32} (l : Launch) (hR : Ty g R) (k0 : kd g a0 = 12) {r : Mm} (h : pX12_code R T a0 x1 x2 x3 = some r) : MV l g yX12_code cX12_code 4 none rmX12_code [.ref (g.2.2.1 a0), .int x1, .int x2, .int x3] R T R r := by
  refine z_metV (own := RX12) (lv := [some (.ref (g.2.2.1 a0)), some (.int x1), some (.int x2), some (.int x3)]) (by decide +kernel) rfl rfl rfl (fun X K => ?_)
  unfold pX12_code at h
  refine z_aload_n K dX12_code_0 rfl ?_
  refine z_getR K clX12 k0 8 rfl rfl q1346 dX12_code_1 ?_
  refine z_iconst K 3 dX12_code_4 rfl ?_
  refine z_aload_n K dX12_code_5 rfl ?_
  refine z_getI K clX12 k0 41 rfl rfl q1379 dX12_code_6 ?_
  refine z_imul K dX12_code_9 ?_
  refine z_iload_n K dX12_code_10 rfl ?_
  obtain ⟨hi, h⟩ := ix_e h
  refine z_iast K (hR.at (k := 8) (t := 20135) k0 rfl rfl) rfl rfl rfl hi dX12_code_11 ?_
  refine z_aload_n K dX12_code_12 rfl ?_
  refine z_getR K clX12 k0 8 rfl rfl q1346 dX12_code_13 ?_
  refine z_iconst K 3 dX12_code_16 rfl ?_
  refine z_aload_n K dX12_code_17 rfl ?_
  refine z_getI K clX12 k0 41 rfl rfl q1379 dX12_code_18 ?_
  refine z_imul K dX12_code_21 ?_
  refine z_iconst K 1 dX12_code_22 rfl ?_
  refine z_iadd K dX12_code_23 ?_
  refine z_iload_n K dX12_code_24 rfl ?_
  obtain ⟨hi, h⟩ := ix_e h
  refine z_iast K (hR.at (k := 8) (t := 20135) k0 rfl rfl) rfl rfl rfl hi dX12_code_25 ?_
  refine z_aload_n K dX12_code_26 rfl ?_
  refine z_getR K clX12 k0 8 rfl rfl q1346 dX12_code_27 ?_
  refine z_iconst K 3 dX12_code_30 rfl ?_
  refine z_aload_n K dX12_code_31 rfl ?_
  refine z_getI K clX12 k0 41 rfl rfl q1379 dX12_code_32 ?_
  refine z_imul K dX12_code_35 ?_
  refine z_iconst K 2 dX12_code_36 rfl ?_
  refine z_iadd K dX12_code_37 ?_
  refine z_iload_n K dX12_code_38 rfl ?_
  obtain ⟨hi, h⟩ := ix_e h
  refine z_iast K (hR.at (k := 8) (t := 20135) k0 rfl rfl) rfl rfl rfl hi dX12_code_39 ?_
  refine z_aload_n K dX12_code_40 rfl ?_
  refine z_dup K dX12_code_41 rfl ?_
  refine z_getI K clX12 k0 41 rfl rfl q1379 dX12_code_42 ?_
  refine z_iconst K 1 dX12_code_45 rfl ?_
  refine z_iadd K dX12_code_46 ?_
  refine z_putI K clX12 tyX12_ok nmX12 k0 41 rfl rfl q1379 rfl rfl rfl dX12_code_47 ?_
  obtain rfl := Option.some.inj h
  exact z_vret K dX12_code_50
/-! GoingOverModel.joins (I)V -/
abbrev rmX12_joins : Room := { frames := 1, cells := 0, slots := 0, locals := 23 }
def pX12_joins_45 (R : Rf) (a0 : Nat) (x1 : Int32) (r0 : Mm → Option (Mm)) (e73 : Mm → Option (Mm)) (T : Mm) : Option (Mm) :=
  lt (wI T a0 43 ((T.1 a0 43) - 1)) (fun (T1 : Mm) => ix (T1.1 a0 43) 45 (bd1 (pX12_code R T1 a0 (T1.1 (R a0 40) (T1.1 a0 43).toNatClampNeg) 0 0) (fun (T2 : Mm) => r0 T2)))
def pX12_joins_0 (R : Rf) (a0 : Nat) (x1 : Int32) (e73 : Mm → Option (Mm)) (r0 : Mm → Option (Mm)) (T : Mm) : Option (Mm) :=
  if (T.1 a0 43) ≤ 0 then e73 T else ix ((T.1 a0 43) - 1) 45 (if (T.1 (R a0 40) ((T.1 a0 43) - 1).toNatClampNeg) = 21 then pX12_joins_45 R a0 x1 r0 e73 T else ix ((T.1 a0 43) - 1) 45 (if (T.1 (R a0 40) ((T.1 a0 43) - 1).toNatClampNeg) = 22 then if x1 = 22 then pX12_joins_45 R a0 x1 r0 e73 T else e73 T else e73 T))
def pX12_joins_73 (R : Rf) (a0 : Nat) (x1 : Int32) (T : Mm) : Option (Mm) :=
  some T
def pX12_joins (R : Rf) (T : Mm) (a0 : Nat) (x1 : Int32) : Option (Mm) :=
  zl1 (pX12_joins_0 R a0 x1 (pX12_joins_73 R a0 x1)) FU T
set_option maxRecDepth 100000 in
set_option maxHeartbeats 4000000 in
theorem wX12_joins_45 {X : Cx} {g : Gl} {l : Launch} {R : Rf} {a0 : Nat} {x1 : Int32} (K : Ok X g l cX12_joins RX12 2 none rmX12_joins) (hR : Ty g R) (k0 : kd g a0 = 12) {r : Mm} {r0 : Mm → Option (Mm)} (hr0 : ∀ (T : Mm), r0 T = some r → Zj X g 2 (QV X g R r) R T [some (.ref (g.2.2.1 a0)), some (.int x1)] [] 0) {e73 : Mm → Option (Mm)} (he73 : ∀ (T : Mm), e73 T = some r → Zj X g 2 (QV X g R r) R T [none, none] [] 73) (T : Mm) (h : pX12_joins_45 R a0 x1 r0 e73 T = some r) : Zj X g 2 (QV X g R r) R T [some (.ref (g.2.2.1 a0)), some (.int x1)] [] 45 := by
  unfold pX12_joins_45 at h
  refine z_aload_n K dX12_joins_45 rfl ?_
  refine z_dup K dX12_joins_46 rfl ?_
  refine z_getI K clX12 k0 43 rfl rfl q1381 dX12_joins_47 ?_
  refine z_iconst K 1 dX12_joins_50 rfl ?_
  refine z_isub K dX12_joins_51 ?_
  refine z_putI K clX12 tyX12_ok nmX12 k0 43 rfl rfl q1381 rfl rfl rfl dX12_joins_52 ?_
  refine z_aload_n K dX12_joins_55 rfl ?_
  refine z_aload_n K dX12_joins_56 rfl ?_
  refine z_getR K clX12 k0 40 rfl rfl q1378 dX12_joins_57 ?_
  refine z_aload_n K dX12_joins_60 rfl ?_
  refine z_getI K clX12 k0 43 rfl rfl q1381 dX12_joins_61 ?_
  obtain ⟨hi, h⟩ := ix_e h
  refine z_iald K (hR.at (k := 40) (t := 20045) k0 rfl rfl) rfl rfl rfl hi dX12_joins_64 ?_
  refine z_iconst K 0 dX12_joins_65 rfl ?_
  refine z_iconst K 0 dX12_joins_66 rfl ?_
  obtain ⟨T2, hc, h⟩ := bd1_e h
  refine z_callVV K (mX12_code l hR k0 hc) clX12 k0 ceX12_code q1909 ⟨rfl, rfl, rfl, rfl⟩ rfl rfl rfl dX12_joins_67 ?_
  refine z_goto K 0 dX12_joins_70 (by decide) ?_
  refine Zj.mask [true, true] ?_
  exact hr0 _ h
set_option maxRecDepth 100000 in
set_option maxHeartbeats 4000000 in
theorem wX12_joins_0 {X : Cx} {g : Gl} {l : Launch} {R : Rf} {a0 : Nat} {x1 : Int32} (K : Ok X g l cX12_joins RX12 2 none rmX12_joins) (hR : Ty g R) (k0 : kd g a0 = 12) {r : Mm} {e73 : Mm → Option (Mm)} (he73 : ∀ (T : Mm), e73 T = some r → Zj X g 2 (QV X g R r) R T [none, none] [] 73) : ∀ (n : Nat) (T : Mm), zl1 (pX12_joins_0 R a0 x1 e73) n T = some r → Zj X g 2 (QV X g R r) R T [some (.ref (g.2.2.1 a0)), some (.int x1)] [] 0 := by
  intro n
  induction n with
  | zero =>
    intro T h
    exact absurd h (by simp [zl1])
  | succ n hr0 =>
    intro T h
    rw [zl1_s] at h
    unfold pX12_joins_0 at h
    refine z_aload_n K dX12_joins_0 rfl ?_
    refine z_getI K clX12 k0 43 rfl rfl q1381 dX12_joins_1 ?_
    refine z_if_le K 73 dX12_joins_4 (by decide) (fun c => ?_) (fun c => ?_)
    · have h := ite_t h c
      refine Zj.mask [false, false] ?_
      exact he73 _ h
    · have h := ite_f h c
      refine z_aload_n K dX12_joins_7 rfl ?_
      refine z_getR K clX12 k0 40 rfl rfl q1378 dX12_joins_8 ?_
      refine z_aload_n K dX12_joins_11 rfl ?_
      refine z_getI K clX12 k0 43 rfl rfl q1381 dX12_joins_12 ?_
      refine z_iconst K 1 dX12_joins_15 rfl ?_
      refine z_isub K dX12_joins_16 ?_
      obtain ⟨hi, h⟩ := ix_e h
      refine z_iald K (hR.at (k := 40) (t := 20045) k0 rfl rfl) rfl rfl rfl hi dX12_joins_17 ?_
      refine z_bipush K 21 dX12_joins_18 rfl ?_
      refine z_icmp_eq K 45 dX12_joins_20 (by decide) (fun c => ?_) (fun c => ?_)
      · have h := ite_t h c
        refine Zj.mask [true, true] ?_
        exact wX12_joins_45 K hR k0 hr0 he73 _ h
      · have h := ite_f h c
        refine z_aload_n K dX12_joins_23 rfl ?_
        refine z_getR K clX12 k0 40 rfl rfl q1378 dX12_joins_24 ?_
        refine z_aload_n K dX12_joins_27 rfl ?_
        refine z_getI K clX12 k0 43 rfl rfl q1381 dX12_joins_28 ?_
        refine z_iconst K 1 dX12_joins_31 rfl ?_
        refine z_isub K dX12_joins_32 ?_
        obtain ⟨hi, h⟩ := ix_e h
        refine z_iald K (hR.at (k := 40) (t := 20045) k0 rfl rfl) rfl rfl rfl hi dX12_joins_33 ?_
        refine z_bipush K 22 dX12_joins_34 rfl ?_
        refine z_icmp_ne K 73 dX12_joins_36 (by decide) (fun c => ?_) (fun c => ?_)
        · have h := ite_f h c
          refine Zj.mask [false, false] ?_
          exact he73 _ h
        · have h := ite_t h c
          refine z_iload_n K dX12_joins_39 rfl ?_
          refine z_bipush K 22 dX12_joins_40 rfl ?_
          refine z_icmp_ne K 73 dX12_joins_42 (by decide) (fun c => ?_) (fun c => ?_)
          · have h := ite_f h c
            refine Zj.mask [false, false] ?_
            exact he73 _ h
          · have h := ite_t h c
            refine Zj.mask [true, true] ?_
            exact wX12_joins_45 K hR k0 hr0 he73 _ h
set_option maxRecDepth 100000 in
set_option maxHeartbeats 4000000 in
theorem wX12_joins_73 {X : Cx} {g : Gl} {l : Launch} {R : Rf} {a0 : Nat} {x1 : Int32} (K : Ok X g l cX12_joins RX12 2 none rmX12_joins) (hR : Ty g R) (k0 : kd g a0 = 12) {r : Mm} (T : Mm) (h : pX12_joins_73 R a0 x1 T = some r) : Zj X g 2 (QV X g R r) R T [none, none] [] 73 := by
  unfold pX12_joins_73 at h
  obtain rfl := Option.some.inj h
  exact z_vret K dX12_joins_73
set_option maxRecDepth 100000 in
set_option maxHeartbeats 4000000 in
theorem mX12_joins {g : Gl} {R : Rf} {T : Mm} {a0 : Nat} {x1 : Int32} (l : Launch) (hR : Ty g R) (k0 : kd g a0 = 12) {r : Mm} (h : pX12_joins R T a0 x1 = some r) : MV l g yX12_joins cX12_joins 2 none rmX12_joins [.ref (g.2.2.1 a0), .int x1] R T R r := by
  refine z_metV (own := RX12) (lv := [some (.ref (g.2.2.1 a0)), some (.int x1)]) (by decide +kernel) rfl rfl rfl (fun X K => ?_)
  unfold pX12_joins at h
  refine Zj.mask [true, true] ?_
  exact wX12_joins_0 K hR k0 (wX12_joins_73 K hR k0) FU _ h
/-! GoingOverModel.nots ()V -/
abbrev rmX12_nots : Room := { frames := 1, cells := 0, slots := 0, locals := 23 }
def pX12_nots_0 (R : Rf) (a0 : Nat) (e54 : Mm → Option (Mm)) (r0 : Mm → Option (Mm)) (T : Mm) : Option (Mm) :=
  if (T.1 a0 43) ≤ 0 then e54 T else ix ((T.1 a0 43) - 1) 45 (if (T.1 (R a0 40) ((T.1 a0 43) - 1).toNatClampNeg) = 20 then lt (wI T a0 43 ((T.1 a0 43) - 1)) (fun (T1 : Mm) => lt (wI T1 a0 44 ((T1.1 a0 44) - 1)) (fun (T2 : Mm) => bd1 (pX12_code R T2 a0 20 0 0) (fun (T3 : Mm) => r0 T3))) else e54 T)
def pX12_nots_54 (R : Rf) (a0 : Nat) (T : Mm) : Option (Mm) :=
  some T
def pX12_nots (R : Rf) (T : Mm) (a0 : Nat) : Option (Mm) :=
  zl1 (pX12_nots_0 R a0 (pX12_nots_54 R a0)) FU T
set_option maxRecDepth 100000 in
set_option maxHeartbeats 4000000 in
theorem wX12_nots_0 {X : Cx} {g : Gl} {l : Launch} {R : Rf} {a0 : Nat} (K : Ok X g l cX12_nots RX12 1 none rmX12_nots) (hR : Ty g R) (k0 : kd g a0 = 12) {r : Mm} {e54 : Mm → Option (Mm)} (he54 : ∀ (T : Mm), e54 T = some r → Zj X g 1 (QV X g R r) R T [none] [] 54) : ∀ (n : Nat) (T : Mm), zl1 (pX12_nots_0 R a0 e54) n T = some r → Zj X g 1 (QV X g R r) R T [some (.ref (g.2.2.1 a0))] [] 0 := by
  intro n
  induction n with
  | zero =>
    intro T h
    exact absurd h (by simp [zl1])
  | succ n hr0 =>
    intro T h
    rw [zl1_s] at h
    unfold pX12_nots_0 at h
    refine z_aload_n K dX12_nots_0 rfl ?_
    refine z_getI K clX12 k0 43 rfl rfl q1381 dX12_nots_1 ?_
    refine z_if_le K 54 dX12_nots_4 (by decide) (fun c => ?_) (fun c => ?_)
    · have h := ite_t h c
      refine Zj.mask [false] ?_
      exact he54 _ h
    · have h := ite_f h c
      refine z_aload_n K dX12_nots_7 rfl ?_
      refine z_getR K clX12 k0 40 rfl rfl q1378 dX12_nots_8 ?_
      refine z_aload_n K dX12_nots_11 rfl ?_
      refine z_getI K clX12 k0 43 rfl rfl q1381 dX12_nots_12 ?_
      refine z_iconst K 1 dX12_nots_15 rfl ?_
      refine z_isub K dX12_nots_16 ?_
      obtain ⟨hi, h⟩ := ix_e h
      refine z_iald K (hR.at (k := 40) (t := 20045) k0 rfl rfl) rfl rfl rfl hi dX12_nots_17 ?_
      refine z_bipush K 20 dX12_nots_18 rfl ?_
      refine z_icmp_ne K 54 dX12_nots_20 (by decide) (fun c => ?_) (fun c => ?_)
      · have h := ite_f h c
        refine Zj.mask [false] ?_
        exact he54 _ h
      · have h := ite_t h c
        refine z_aload_n K dX12_nots_23 rfl ?_
        refine z_dup K dX12_nots_24 rfl ?_
        refine z_getI K clX12 k0 43 rfl rfl q1381 dX12_nots_25 ?_
        refine z_iconst K 1 dX12_nots_28 rfl ?_
        refine z_isub K dX12_nots_29 ?_
        refine z_putI K clX12 tyX12_ok nmX12 k0 43 rfl rfl q1381 rfl rfl rfl dX12_nots_30 ?_
        refine z_aload_n K dX12_nots_33 rfl ?_
        refine z_dup K dX12_nots_34 rfl ?_
        refine z_getI K clX12 k0 44 rfl rfl q1382 dX12_nots_35 ?_
        refine z_iconst K 1 dX12_nots_38 rfl ?_
        refine z_isub K dX12_nots_39 ?_
        refine z_putI K clX12 tyX12_ok nmX12 k0 44 rfl rfl q1382 rfl rfl rfl dX12_nots_40 ?_
        refine z_aload_n K dX12_nots_43 rfl ?_
        refine z_bipush K 20 dX12_nots_44 rfl ?_
        refine z_iconst K 0 dX12_nots_46 rfl ?_
        refine z_iconst K 0 dX12_nots_47 rfl ?_
        obtain ⟨T3, hc, h⟩ := bd1_e h
        refine z_callVV K (mX12_code l hR k0 hc) clX12 k0 ceX12_code q1909 ⟨rfl, rfl, rfl, rfl⟩ rfl rfl rfl dX12_nots_48 ?_
        refine z_goto K 0 dX12_nots_51 (by decide) ?_
        refine Zj.mask [true] ?_
        exact hr0 _ h
set_option maxRecDepth 100000 in
set_option maxHeartbeats 4000000 in
theorem wX12_nots_54 {X : Cx} {g : Gl} {l : Launch} {R : Rf} {a0 : Nat} (K : Ok X g l cX12_nots RX12 1 none rmX12_nots) (hR : Ty g R) (k0 : kd g a0 = 12) {r : Mm} (T : Mm) (h : pX12_nots_54 R a0 T = some r) : Zj X g 1 (QV X g R r) R T [none] [] 54 := by
  unfold pX12_nots_54 at h
  obtain rfl := Option.some.inj h
  exact z_vret K dX12_nots_54
set_option maxRecDepth 100000 in
set_option maxHeartbeats 4000000 in
theorem mX12_nots {g : Gl} {R : Rf} {T : Mm} {a0 : Nat} (l : Launch) (hR : Ty g R) (k0 : kd g a0 = 12) {r : Mm} (h : pX12_nots R T a0 = some r) : MV l g yX12_nots cX12_nots 1 none rmX12_nots [.ref (g.2.2.1 a0)] R T R r := by
  refine z_metV (own := RX12) (lv := [some (.ref (g.2.2.1 a0))]) (by decide +kernel) rfl rfl rfl (fun X K => ?_)
  unfold pX12_nots at h
  refine Zj.mask [true] ?_
  exact wX12_nots_0 K hR k0 (wX12_nots_54 K hR k0) FU _ h
