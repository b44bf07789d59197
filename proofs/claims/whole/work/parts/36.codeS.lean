/-! GoingOver$Tag.put (Ljava/lang/String;)V -/
abbrev rmX9_put : Room := { frames := 4, cells := 0, slots := 0, locals := 141 }
def pX9_put_2 (R : Rf) (a0 : Nat) (z1 : Nat) (e25 : Mm → Option (Mm)) (r2 : Mm → Int32 → Option (Mm)) (T : Mm) (x2 : Int32) : Option (Mm) :=
  if (nI (lnS z1)) ≤ x2 then e25 T else ix x2 (lnS z1) (bd1 (pX9_put_ R T a0 (chS z1 x2.toNatClampNeg)) (fun (T1 : Mm) => lt (x2 + 1) (fun (v2 : Int32) => r2 T1 v2)))
def pX9_put_25 (R : Rf) (a0 : Nat) (z1 : Nat) (T : Mm) : Option (Mm) :=
  some T
def pX9_put (R : Rf) (T : Mm) (a0 : Nat) (z1 : Nat) : Option (Mm) :=
  zl2 (pX9_put_2 R a0 z1 (pX9_put_25 R a0 z1)) FU T 0
set_option maxRecDepth 100000 in
set_option maxHeartbeats 4000000 in
theorem wX9_put_2 {X : Cx} {g : Gl} {l : Launch} {R : Rf} {a0 : Nat} {z1 : Nat} (K : Ok X g l cX9_put RX9 3 none rmX9_put) (hR : Ty g R) {adK adV : Nat → Nat} {sz : Nat} (hSt : SH g adK adV sz) (hXs : ∀ q : Nat, X.2.2.2.2.2.2.2.2.2.2.2.2 q → sz ≤ q) (k0 : kd g a0 = 9) (k1 : z1 < 5) {r : Mm} {e25 : Mm → Option (Mm)} (he25 : ∀ (T : Mm), e25 T = some r → Zj X g 3 (QV X g R r) R T [none, none, none] [] 25) : ∀ (n : Nat) (T : Mm) (x2 : Int32), zl2 (pX9_put_2 R a0 z1 e25) n T x2 = some r → Zj X g 3 (QV X g R r) R T [some (.ref (g.2.2.1 a0)), some (.ref (adK z1)), some (.int x2)] [] 2 := by
  intro n
  induction n with
  | zero =>
    intro T x2 h
    exact absurd h (by simp [zl2])
  | succ n hr2 =>
    intro T x2 h
    rw [zl2_s] at h
    unfold pX9_put_2 at h
    refine z_iload_n K dX9_put_2 rfl ?_
    refine z_aload_n K dX9_put_3 rfl ?_
    refine z_callVIr K (mJ_length hSt k1) (s_recv K hSt hXs k1) ceJ0_length_8abf5 q1041 ⟨rfl, rfl, rfl, rfl⟩ rfl rfl rfl dX9_put_4 ?_
    refine z_icmp_ge K 25 dX9_put_7 (by decide) (fun c => ?_) (fun c => ?_)
    · have h := ite_t h c
      refine Zj.mask [false, false, false] ?_
      exact he25 _ h
    · have h := ite_f h c
      refine z_aload_n K dX9_put_10 rfl ?_
      refine z_aload_n K dX9_put_11 rfl ?_
      refine z_iload_n K dX9_put_12 rfl ?_
      obtain ⟨hi, h⟩ := ix_e h
      refine z_callVIr K (mJ_charAt hSt k1 hi) (s_recv K hSt hXs k1) ceJ0_charAt_5068e q1042 ⟨rfl, rfl, rfl, rfl⟩ rfl rfl rfl dX9_put_13 ?_
      obtain ⟨T1, hc, h⟩ := bd1_e h
      refine z_callVV K (mX9_put_ l hR k0 hc) clX9 k0 ceX9_put_ q1029 ⟨rfl, rfl, rfl, rfl⟩ rfl rfl rfl dX9_put_16 ?_
      refine z_iinc K 1 dX9_put_19 rfl rfl rfl rfl ?_
      refine z_goto K 2 dX9_put_22 (by decide) ?_
      refine Zj.mask [true, true, true] ?_
      exact hr2 _ _ h
set_option maxRecDepth 100000 in
set_option maxHeartbeats 4000000 in
theorem wX9_put_25 {X : Cx} {g : Gl} {l : Launch} {R : Rf} {a0 : Nat} {z1 : Nat} (K : Ok X g l cX9_put RX9 3 none rmX9_put) (hR : Ty g R) {adK adV : Nat → Nat} {sz : Nat} (hSt : SH g adK adV sz) (hXs : ∀ q : Nat, X.2.2.2.2.2.2.2.2.2.2.2.2 q → sz ≤ q) (k0 : kd g a0 = 9) (k1 : z1 < 5) {r : Mm} (T : Mm) (h : pX9_put_25 R a0 z1 T = some r) : Zj X g 3 (QV X g R r) R T [none, none, none] [] 25 := by
  unfold pX9_put_25 at h
  obtain rfl := Option.some.inj h
  exact z_vret K dX9_put_25
set_option maxRecDepth 100000 in
set_option maxHeartbeats 4000000 in
theorem mX9_put {g : Gl} {R : Rf} {T : Mm} {a0 : Nat} {z1 : Nat} (l : Launch) (hR : Ty g R) {adK adV : Nat → Nat} {sz : Nat} (hSt : SH g adK adV sz) (k0 : kd g a0 = 9) (k1 : z1 < 5) {r : Mm} (h : pX9_put R T a0 z1 = some r) : MV l g yX9_put cX9_put 3 none rmX9_put [.ref (g.2.2.1 a0), .ref (adK z1)] R T R r := by
  refine z_metVX (own := RX9) (lv := [some (.ref (g.2.2.1 a0)), some (.ref (adK z1)), none]) (by decide +kernel) rfl rfl rfl (fun X K hXA => ?_)
  unfold pX9_put at h
  have hXs : ∀ q : Nat, X.2.2.2.2.2.2.2.2.2.2.2.2 q → sz ≤ q := fun q h => hSt.2 q (hXA q h)
  refine z_iconst K 0 dX9_put_0 rfl ?_
  refine z_istore_n K dX9_put_1 rfl rfl ?_
  refine Zj.mask [true, true, true] ?_
  exact wX9_put_2 K hR hSt hXs k0 k1 (wX9_put_25 K hR hSt hXs k0 k1) FU _ _ h
/-! GoingOver$Tag.write (JII)V -/
abbrev rmX9_write : Room := { frames := 5, cells := 0, slots := 0, locals := 163 }
def pX9_write_9 (R : Rf) (a0 : Nat) (j1 : Int64) (x3 : Int32) (x4 : Int32) (e47 : Mm → Option (Mm)) (r9 : Mm → Int32 → Option (Mm)) (T : Mm) (x5 : Int32) : Option (Mm) :=
  if x5 < 0 then e47 T else lt (((j1 >>> (x5.toInt64 &&& 63)) &&& 31).toInt32) (fun (v2 : Int32) => if v2 = 0 then lt (x5 + (-5)) (fun (v3 : Int32) => r9 T v3) else bd1 (pX9_put_ R T a0 ((97 + v2) - 1)) (fun (T4 : Mm) => lt (x5 + (-5)) (fun (v5 : Int32) => r9 T4 v5)))
def pX9_write_106 (R : Rf) (a0 : Nat) (j1 : Int64) (x3 : Int32) (x4 : Int32) (T : Mm) : Option (Mm) :=
  bd1 (pX9_put_ R T a0 (48 + (x4 - x4 / 10 * 10))) (fun (T7 : Mm) => some T7)
def pX9_write_79 (R : Rf) (a0 : Nat) (j1 : Int64) (x3 : Int32) (x4 : Int32) (T : Mm) (as0 : Nat) (zs1 : Nat) : Option (Mm) :=
  bd1 (pX9_put R T as0 zs1) (fun (T6 : Mm) => if x3 < 2 then some T6 else if x4 < 10 then pX9_write_106 R a0 j1 x3 x4 T6 else bd1 (pX9_put_ R T6 a0 (48 + (x4 / 10))) (fun (T8 : Mm) => pX9_write_106 R a0 j1 x3 x4 T8))
def pX9_write_47 (R : Rf) (a0 : Nat) (j1 : Int64) (x3 : Int32) (x4 : Int32) (T : Mm) : Option (Mm) :=
  if x3 = 0 then pX9_write_79 R a0 j1 x3 x4 T a0 1 else if x3 = 1 then pX9_write_79 R a0 j1 x3 x4 T a0 2 else if x3 = 2 then pX9_write_79 R a0 j1 x3 x4 T a0 3 else pX9_write_79 R a0 j1 x3 x4 T a0 4
def pX9_write (R : Rf) (T : Mm) (a0 : Nat) (j1 : Int64) (x3 : Int32) (x4 : Int32) : Option (Mm) :=
  lt (wI T a0 1 0) (fun (T1 : Mm) => zl2 (pX9_write_9 R a0 j1 x3 x4 (pX9_write_47 R a0 j1 x3 x4)) FU T1 30)
set_option maxRecDepth 100000 in
set_option maxHeartbeats 4000000 in
theorem wX9_write_9 {X : Cx} {g : Gl} {l : Launch} {R : Rf} {a0 : Nat} {j1 : Int64} {x3 : Int32} {x4 : Int32} (K : Ok X g l cX9_write RX9 7 none rmX9_write) (hR : Ty g R) {adK adV : Nat → Nat} {sz : Nat} (hSt : SH g adK adV sz) (hXs : ∀ q : Nat, X.2.2.2.2.2.2.2.2.2.2.2.2 q → sz ≤ q) (k0 : kd g a0 = 9) {r : Mm} {e47 : Mm → Option (Mm)} (he47 : ∀ (T : Mm), e47 T = some r → Zj X g 7 (QV X g R r) R T [some (.ref (g.2.2.1 a0)), none, none, some (.int x3), some (.int x4), none, none] [] 47) : ∀ (n : Nat) (T : Mm) (x5 : Int32), zl2 (pX9_write_9 R a0 j1 x3 x4 e47) n T x5 = some r → Zj X g 7 (QV X g R r) R T [some (.ref (g.2.2.1 a0)), some (.long j1), none, some (.int x3), some (.int x4), some (.int x5), none] [] 9 := by
  intro n
  induction n with
  | zero =>
    intro T x5 h
    exact absurd h (by simp [zl2])
  | succ n hr9 =>
    intro T x5 h
    rw [zl2_s] at h
    unfold pX9_write_9 at h
    refine z_iload K dX9_write_9 rfl ?_
    refine z_if_lt K 47 dX9_write_11 (by decide) (fun c => ?_) (fun c => ?_)
    · have h := ite_t h c
      refine Zj.mask [true, false, false, true, true, false, false] ?_
      exact he47 _ h
    · have h := ite_f h c
      refine z_lload_n K dX9_write_14 rfl ?_
      refine z_iload K dX9_write_15 rfl ?_
      refine z_lshr K dX9_write_17 ?_
      refine z_ldc2 K 31 q1028 dX9_write_18 ?_
      refine z_land K dX9_write_21 ?_
      refine z_l2i K dX9_write_22 ?_
      refine z_istore K dX9_write_23 rfl rfl ?_
      refine z_iload K dX9_write_25 rfl ?_
      refine z_if_eq K 41 dX9_write_27 (by decide) (fun c => ?_) (fun c => ?_)
      · have h := ite_t h c
        refine z_iinc K (-5) dX9_write_41 rfl rfl rfl rfl ?_
        refine z_goto K 9 dX9_write_44 (by decide) ?_
        refine Zj.mask [true, true, false, true, true, true, false] ?_
        exact hr9 _ _ h
      · have h := ite_f h c
        refine z_aload_n K dX9_write_30 rfl ?_
        refine z_bipush K 97 dX9_write_31 rfl ?_
        refine z_iload K dX9_write_33 rfl ?_
        refine z_iadd K dX9_write_35 ?_
        refine z_iconst K 1 dX9_write_36 rfl ?_
        refine z_isub K dX9_write_37 ?_
        obtain ⟨T4, hc, h⟩ := bd1_e h
        refine z_callVV K (mX9_put_ l hR k0 hc) clX9 k0 ceX9_put_ q1029 ⟨rfl, rfl, rfl, rfl⟩ rfl rfl rfl dX9_write_38 ?_
        refine z_iinc K (-5) dX9_write_41 rfl rfl rfl rfl ?_
        refine z_goto K 9 dX9_write_44 (by decide) ?_
        refine Zj.mask [true, true, false, true, true, true, false] ?_
        exact hr9 _ _ h
set_option maxRecDepth 100000 in
set_option maxHeartbeats 4000000 in
theorem wX9_write_106 {X : Cx} {g : Gl} {l : Launch} {R : Rf} {a0 : Nat} {j1 : Int64} {x3 : Int32} {x4 : Int32} (K : Ok X g l cX9_write RX9 7 none rmX9_write) (hR : Ty g R) {adK adV : Nat → Nat} {sz : Nat} (hSt : SH g adK adV sz) (hXs : ∀ q : Nat, X.2.2.2.2.2.2.2.2.2.2.2.2 q → sz ≤ q) (k0 : kd g a0 = 9) {r : Mm} (T : Mm) (h : pX9_write_106 R a0 j1 x3 x4 T = some r) : Zj X g 7 (QV X g R r) R T [some (.ref (g.2.2.1 a0)), none, none, none, some (.int x4), none, none] [] 106 := by
  unfold pX9_write_106 at h
  refine z_aload_n K dX9_write_106 rfl ?_
  refine z_bipush K 48 dX9_write_107 rfl ?_
  refine z_iload K dX9_write_109 rfl ?_
  refine z_bipush K 10 dX9_write_111 rfl ?_
  refine z_irem K dX9_write_113 (by decide) ?_
  refine z_iadd K dX9_write_114 ?_
  obtain ⟨T7, hc, h⟩ := bd1_e h
  refine z_callVV K (mX9_put_ l hR k0 hc) clX9 k0 ceX9_put_ q1029 ⟨rfl, rfl, rfl, rfl⟩ rfl rfl rfl dX9_write_115 ?_
  obtain rfl := Option.some.inj h
  exact z_vret K dX9_write_118
set_option maxRecDepth 100000 in
set_option maxHeartbeats 4000000 in
theorem wX9_write_79 {X : Cx} {g : Gl} {l : Launch} {R : Rf} {a0 : Nat} {j1 : Int64} {x3 : Int32} {x4 : Int32} (K : Ok X g l cX9_write RX9 7 none rmX9_write) (hR : Ty g R) {adK adV : Nat → Nat} {sz : Nat} (hSt : SH g adK adV sz) (hXs : ∀ q : Nat, X.2.2.2.2.2.2.2.2.2.2.2.2 q → sz ≤ q) (k0 : kd g a0 = 9) {r : Mm} (T : Mm) (as0 : Nat) (zs1 : Nat) (ks0 : kd g as0 = 9) (ks1 : zs1 < 5) (h : pX9_write_79 R a0 j1 x3 x4 T as0 zs1 = some r) : Zj X g 7 (QV X g R r) R T [some (.ref (g.2.2.1 a0)), none, none, some (.int x3), some (.int x4), none, none] [.ref (adK zs1), .ref (g.2.2.1 as0)] 79 := by
  unfold pX9_write_79 at h
  obtain ⟨T6, hc, h⟩ := bd1_e h
  refine z_callVV K (mX9_put l hR hSt ks0 ks1 hc) clX9 ks0 ceX9_put q1037 ⟨rfl, rfl, rfl, rfl⟩ rfl rfl rfl dX9_write_79 ?_
  refine z_iload_n K dX9_write_82 rfl ?_
  refine z_iconst K 2 dX9_write_83 rfl ?_
  refine z_icmp_lt K 118 dX9_write_84 (by decide) (fun c => ?_) (fun c => ?_)
  · have h := ite_t h c
    obtain rfl := Option.some.inj h
    exact z_vret K dX9_write_118
  · have h := ite_f h c
    refine z_iload K dX9_write_87 rfl ?_
    refine z_bipush K 10 dX9_write_89 rfl ?_
    refine z_icmp_lt K 106 dX9_write_91 (by decide) (fun c => ?_) (fun c => ?_)
    · have h := ite_t h c
      refine Zj.mask [true, false, false, false, true, false, false] ?_
      exact wX9_write_106 K hR hSt hXs k0 _ h
    · have h := ite_f h c
      refine z_aload_n K dX9_write_94 rfl ?_
      refine z_bipush K 48 dX9_write_95 rfl ?_
      refine z_iload K dX9_write_97 rfl ?_
      refine z_bipush K 10 dX9_write_99 rfl ?_
      refine z_idiv K dX9_write_101 (by decide) ?_
      refine z_iadd K dX9_write_102 ?_
      obtain ⟨T8, hc, h⟩ := bd1_e h
      refine z_callVV K (mX9_put_ l hR k0 hc) clX9 k0 ceX9_put_ q1029 ⟨rfl, rfl, rfl, rfl⟩ rfl rfl rfl dX9_write_103 ?_
      refine Zj.mask [true, false, false, false, true, false, false] ?_
      exact wX9_write_106 K hR hSt hXs k0 _ h
set_option maxRecDepth 100000 in
set_option maxHeartbeats 4000000 in
theorem wX9_write_47 {X : Cx} {g : Gl} {l : Launch} {R : Rf} {a0 : Nat} {j1 : Int64} {x3 : Int32} {x4 : Int32} (K : Ok X g l cX9_write RX9 7 none rmX9_write) (hR : Ty g R) {adK adV : Nat → Nat} {sz : Nat} (hSt : SH g adK adV sz) (hXs : ∀ q : Nat, X.2.2.2.2.2.2.2.2.2.2.2.2 q → sz ≤ q) (k0 : kd g a0 = 9) {r : Mm} (T : Mm) (h : pX9_write_47 R a0 j1 x3 x4 T = some r) : Zj X g 7 (QV X g R r) R T [some (.ref (g.2.2.1 a0)), none, none, some (.int x3), some (.int x4), none, none] [] 47 := by
  unfold pX9_write_47 at h
  refine z_aload_n K dX9_write_47 rfl ?_
  refine z_iload_n K dX9_write_48 rfl ?_
  refine z_if_ne K 57 dX9_write_49 (by decide) (fun c => ?_) (fun c => ?_)
  · have h := ite_f h c
    refine z_iload_n K dX9_write_57 rfl ?_
    refine z_iconst K 1 dX9_write_58 rfl ?_
    refine z_icmp_ne K 67 dX9_write_59 (by decide) (fun c => ?_) (fun c => ?_)
    · have h := ite_f h c
      refine z_iload_n K dX9_write_67 rfl ?_
      refine z_iconst K 2 dX9_write_68 rfl ?_
      refine z_icmp_ne K 77 dX9_write_69 (by decide) (fun c => ?_) (fun c => ?_)
      · have h := ite_f h c
        refine z_ldcS K (sx_of K hSt).2.2.2.2.2.2.2 dX9_write_77 ?_
        refine Zj.mask [true, false, false, true, true, false, false] ?_
        exact wX9_write_79 K hR hSt hXs k0 _ _ _ k0 (by decide) h
      · have h := ite_t h c
        refine z_ldcS K (sx_of K hSt).2.2.2.2.2.2.1 dX9_write_72 ?_
        refine z_goto K 79 dX9_write_74 (by decide) ?_
        refine Zj.mask [true, false, false, true, true, false, false] ?_
        exact wX9_write_79 K hR hSt hXs k0 _ _ _ k0 (by decide) h
    · have h := ite_t h c
      refine z_ldcS K (sx_of K hSt).2.2.2.2.2.1 dX9_write_62 ?_
      refine z_goto K 79 dX9_write_64 (by decide) ?_
      refine Zj.mask [true, false, false, true, true, false, false] ?_
      exact wX9_write_79 K hR hSt hXs k0 _ _ _ k0 (by decide) h
  · have h := ite_t h c
    refine z_ldcS K (sx_of K hSt).2.2.2.2.1 dX9_write_52 ?_
    refine z_goto K 79 dX9_write_54 (by decide) ?_
    refine Zj.mask [true, false, false, true, true, false, false] ?_
    exact wX9_write_79 K hR hSt hXs k0 _ _ _ k0 (by decide) h
set_option maxRecDepth 100000 in
set_option maxHeartbeats 4000000 in
theorem mX9_write {g : Gl} {R : Rf} {T : Mm} {a0 : Nat} {j1 : Int64} {x3 : Int32} {x4 : Int32} (l : Launch) (hR : Ty g R) {adK adV : Nat → Nat} {sz : Nat} (hSt : SH g adK adV sz) (k0 : kd g a0 = 9) {r : Mm} (h : pX9_write R T a0 j1 x3 x4 = some r) : MV l g yX9_write cX9_write 7 none rmX9_write [.ref (g.2.2.1 a0), .long j1, .int x3, .int x4] R T R r := by
  refine z_metVX (own := RX9) (lv := [some (.ref (g.2.2.1 a0)), some (.long j1), none, some (.int x3), some (.int x4), none, none]) (by decide +kernel) rfl rfl rfl (fun X K hXA => ?_)
  unfold pX9_write at h
  have hXs : ∀ q : Nat, X.2.2.2.2.2.2.2.2.2.2.2.2 q → sz ≤ q := fun q h => hSt.2 q (hXA q h)
  refine z_aload_n K dX9_write_0 rfl ?_
  refine z_iconst K 0 dX9_write_1 rfl ?_
  refine z_putI K clX9 tyX9_ok nmX9 k0 1 rfl rfl q440 rfl rfl rfl dX9_write_2 ?_
  refine z_bipush K 30 dX9_write_5 rfl ?_
  refine z_istore K dX9_write_7 rfl rfl ?_
  refine Zj.mask [true, true, false, true, true, true, false] ?_
  exact wX9_write_9 K hR hSt hXs k0 (wX9_write_47 K hR hSt hXs k0) FU _ _ h
/-! GoingOver.tag (I)I -/
abbrev rmX11_tag : Room := { frames := 6, cells := 0, slots := 0, locals := 189 }
def pX11_tag (R : Rf) (T : Mm) (a0 : Nat) (x1 : Int32) : Option (Int32 × Mm) :=
  bd1 (pX3_hasPerson R T (R a0 11) x1) (fun (u1 : Int32) => if u1 = 0 then some ((-1), T) else ix x1 5 (ix x1 5 (bd2 (pX6_asTheyAre R T (R a0 5) (R a0 11) (R a0 1) x1) (fun (u2 : Int32) (T2 : Mm) => bd1 (pX9_write R T2 (R a0 8) (T.2 (R (R a0 11) 6) x1.toNatClampNeg) (T.1 (R (R a0 1) 4) x1.toNatClampNeg) u2) (fun (T3 : Mm) => some (T3.1 (R a0 8) 1, T3))))))
set_option maxRecDepth 100000 in
set_option maxHeartbeats 4000000 in
theorem mX11_tag {g : Gl} {R : Rf} {T : Mm} {a0 : Nat} {x1 : Int32} (l : Launch) (hR : Ty g R) {adK adV : Nat → Nat} {sz : Nat} (hSt : SH g adK adV sz) (k0 : kd g a0 = 11) {r : Int32 × Mm} (h : pX11_tag R T a0 x1 = some r) : MI l g yX11_tag cX11_tag 2 (some .int) rmX11_tag [.ref (g.2.2.1 a0), .int x1] R T r.1 R r.2 := by
  refine z_metIX (own := RX11) (lv := [some (.ref (g.2.2.1 a0)), some (.int x1)]) (by decide +kernel) rfl rfl rfl (fun X K hXA => ?_)
  unfold pX11_tag at h
  have hXs : ∀ q : Nat, X.2.2.2.2.2.2.2.2.2.2.2.2 q → sz ≤ q := fun q h => hSt.2 q (hXA q h)
  refine z_aload_n K dX11_tag_0 rfl ?_
  refine z_getR K clX11 k0 11 rfl rfl q511 dX11_tag_1 ?_
  refine z_iload_n K dX11_tag_4 rfl ?_
  obtain ⟨u1, hc, h⟩ := bd1_e h
  refine z_callVI K (mX3_hasPerson l hR (hR.at (k := 11) (t := 3) k0 rfl rfl) hc) clX3 (hR.at (k := 11) (t := 3) k0 rfl rfl) ceX3_hasPerson q786 ⟨rfl, rfl, rfl, rfl⟩ rfl rfl rfl dX11_tag_5 ?_
  refine z_if_ne K 13 dX11_tag_8 (by decide) (fun c => ?_) (fun c => ?_)
  · have h := ite_f h c
    refine z_aload_n K dX11_tag_13 rfl ?_
    refine z_getR K clX11 k0 8 rfl rfl q508 dX11_tag_14 ?_
    refine z_aload_n K dX11_tag_17 rfl ?_
    refine z_getR K clX11 k0 11 rfl rfl q511 dX11_tag_18 ?_
    refine z_getR K clX3 (hR.at (k := 11) (t := 3) k0 rfl rfl) 6 rfl rfl q271 dX11_tag_21 ?_
    refine z_iload_n K dX11_tag_24 rfl ?_
    obtain ⟨hi, h⟩ := ix_e h
    refine z_lald K (hR.at (k := 6) (t := 30005) (hR.at (k := 11) (t := 3) k0 rfl rfl) rfl rfl) rfl rfl rfl hi dX11_tag_25 ?_
    refine z_aload_n K dX11_tag_26 rfl ?_
    refine z_getR K clX11 k0 1 rfl rfl q501 dX11_tag_27 ?_
    refine z_getR K clX1 (hR.at (k := 1) (t := 1) k0 rfl rfl) 4 rfl rfl q347 dX11_tag_30 ?_
    refine z_iload_n K dX11_tag_33 rfl ?_
    obtain ⟨hi, h⟩ := ix_e h
    refine z_iald K (hR.at (k := 4) (t := 20005) (hR.at (k := 1) (t := 1) k0 rfl rfl) rfl rfl) rfl rfl rfl hi dX11_tag_34 ?_
    refine z_aload_n K dX11_tag_35 rfl ?_
    refine z_getR K clX11 k0 5 rfl rfl q505 dX11_tag_36 ?_
    refine z_aload_n K dX11_tag_39 rfl ?_
    refine z_getR K clX11 k0 11 rfl rfl q511 dX11_tag_40 ?_
    refine z_aload_n K dX11_tag_43 rfl ?_
    refine z_getR K clX11 k0 1 rfl rfl q501 dX11_tag_44 ?_
    refine z_iload_n K dX11_tag_47 rfl ?_
    obtain ⟨u2, T2, hc, h⟩ := bd2_e h
    refine z_callVI K (mX6_asTheyAre l hR (hR.at (k := 5) (t := 6) k0 rfl rfl) (hR.at (k := 11) (t := 3) k0 rfl rfl) (hR.at (k := 1) (t := 1) k0 rfl rfl) hc) clX6 (hR.at (k := 5) (t := 6) k0 rfl rfl) ceX6_asTheyAre q1019 ⟨rfl, rfl, rfl, rfl⟩ rfl rfl rfl dX11_tag_48 ?_
    obtain ⟨T3, hc, h⟩ := bd1_e h
    refine z_callVV K (mX9_write l hR hSt (hR.at (k := 8) (t := 9) k0 rfl rfl) hc) clX9 (hR.at (k := 8) (t := 9) k0 rfl rfl) ceX9_write q1024 ⟨rfl, rfl, rfl, rfl⟩ rfl rfl rfl dX11_tag_51 ?_
    refine z_aload_n K dX11_tag_54 rfl ?_
    refine z_getR K clX11 k0 8 rfl rfl q508 dX11_tag_55 ?_
    refine z_getI K clX9 (hR.at (k := 8) (t := 9) k0 rfl rfl) 1 rfl rfl q441 dX11_tag_58 ?_
    obtain rfl := Option.some.inj h
    exact z_iret K dX11_tag_61
  · have h := ite_t h c
    refine z_iconst K (-1) dX11_tag_11 rfl ?_
    obtain rfl := Option.some.inj h
    exact z_iret K dX11_tag_12
