/-! GoingOverModel.now (I)I -/
abbrev rmX12_now : Room := { frames := 2, cells := 0, slots := 0, locals := 41 }
def pX12_now (R : Rf) (T : Mm) (a0 : Nat) (x1 : Int32) : Option (Int32 × Mm) :=
  lt (wI T a0 0 0) (fun (T1 : Mm) => if x1 = 0 then ix 80 270 (some (T1.1 (R a0 6) (80 : Int32).toNatClampNeg, T1)) else if x1 = 1 then bd1 (pX12_flowNow R T1 a0) (fun (u2 : Int32) => some (u2, T1)) else if x1 = 2 then bd1 (pX12_who0 R T1 a0 0) (fun (u3 : Int32) => some (u3, T1)) else if x1 = 3 then bd1 (pX12_who0 R T1 a0 1) (fun (u4 : Int32) => some (u4, T1)) else if x1 = 4 then bd1 (pX12_who0 R T1 a0 2) (fun (u5 : Int32) => some (u5, T1)) else if x1 = 5 then bd1 (pX12_who0 R T1 a0 3) (fun (u6 : Int32) => some (u6, T1)) else if x1 = 6 then ix 2 270 (ix 82 270 (some (((1 <<< ((T1.1 (R a0 6) (2 : Int32).toNatClampNeg) &&& 31)) - 1) &&& ((T1.1 (R a0 6) (82 : Int32).toNatClampNeg) ^^^ (-1)), T1))) else if x1 = 7 then ix 83 270 (some (T1.1 (R a0 6) (83 : Int32).toNatClampNeg, T1)) else some ((-1), T1))
set_option maxRecDepth 100000 in
set_option maxHeartbeats 4000000 in
theorem mX12_now {g : Gl} {R : Rf} {T : Mm} {a0 : Nat} {x1 : Int32} (l : Launch) (hR : Ty g R) (k0 : kd g a0 = 12) {r : Int32 × Mm} (h : pX12_now R T a0 x1 = some r) : MI l g yX12_now cX12_now 2 (some .int) rmX12_now [.ref (g.2.2.1 a0), .int x1] R T r.1 R r.2 := by
  refine z_metI (own := RX12) (lv := [some (.ref (g.2.2.1 a0)), some (.int x1)]) (by decide +kernel) rfl rfl rfl (fun X K => ?_)
  unfold pX12_now at h
  refine z_aload_n K dX12_now_0 rfl ?_
  refine z_iconst K 0 dX12_now_1 rfl ?_
  refine z_putI K clX12 tyX12_ok nmX12 k0 0 rfl rfl q1338 rfl rfl rfl dX12_now_2 ?_
  refine z_iload_n K dX12_now_5 rfl ?_
  rcases ite_or h with ⟨c0, h⟩ | ⟨c0, h⟩
  · refine z_tin K 52 0 c0 dX12_now_6 (by decide) (by decide) rfl (by decide) ?_
    refine z_aload_n K dX12_now_52 rfl ?_
    refine z_getR K clX12 k0 6 rfl rfl q1344 dX12_now_53 ?_
    refine z_bipush K 80 dX12_now_56 rfl ?_
    obtain ⟨hi, h⟩ := ix_e h
    refine z_iald K (hR.at (k := 6) (t := 20270) k0 rfl rfl) rfl rfl rfl hi dX12_now_58 ?_
    obtain rfl := Option.some.inj h
    exact z_iret K dX12_now_59
  rcases ite_or h with ⟨c1, h⟩ | ⟨c1, h⟩
  · refine z_tin K 60 1 c1 dX12_now_6 (by decide) (by decide) rfl (by decide) ?_
    refine z_aload_n K dX12_now_60 rfl ?_
    obtain ⟨u2, hc, h⟩ := bd1_e h
    refine z_callVI K (mX12_flowNow l hR k0 hc) clX12 k0 ceX12_flowNow q1653 ⟨rfl, rfl, rfl, rfl⟩ rfl rfl rfl dX12_now_61 ?_
    obtain rfl := Option.some.inj h
    exact z_iret K dX12_now_64
  rcases ite_or h with ⟨c2, h⟩ | ⟨c2, h⟩
  · refine z_tin K 65 2 c2 dX12_now_6 (by decide) (by decide) rfl (by decide) ?_
    refine z_aload_n K dX12_now_65 rfl ?_
    refine z_iconst K 0 dX12_now_66 rfl ?_
    obtain ⟨u3, hc, h⟩ := bd1_e h
    refine z_callVI K (mX12_who0 l hR k0 hc) clX12 k0 ceX12_who0 q1661 ⟨rfl, rfl, rfl, rfl⟩ rfl rfl rfl dX12_now_67 ?_
    obtain rfl := Option.some.inj h
    exact z_iret K dX12_now_70
  rcases ite_or h with ⟨c3, h⟩ | ⟨c3, h⟩
  · refine z_tin K 71 3 c3 dX12_now_6 (by decide) (by decide) rfl (by decide) ?_
    refine z_aload_n K dX12_now_71 rfl ?_
    refine z_iconst K 1 dX12_now_72 rfl ?_
    obtain ⟨u4, hc, h⟩ := bd1_e h
    refine z_callVI K (mX12_who0 l hR k0 hc) clX12 k0 ceX12_who0 q1661 ⟨rfl, rfl, rfl, rfl⟩ rfl rfl rfl dX12_now_73 ?_
    obtain rfl := Option.some.inj h
    exact z_iret K dX12_now_76
  rcases ite_or h with ⟨c4, h⟩ | ⟨c4, h⟩
  · refine z_tin K 77 4 c4 dX12_now_6 (by decide) (by decide) rfl (by decide) ?_
    refine z_aload_n K dX12_now_77 rfl ?_
    refine z_iconst K 2 dX12_now_78 rfl ?_
    obtain ⟨u5, hc, h⟩ := bd1_e h
    refine z_callVI K (mX12_who0 l hR k0 hc) clX12 k0 ceX12_who0 q1661 ⟨rfl, rfl, rfl, rfl⟩ rfl rfl rfl dX12_now_79 ?_
    obtain rfl := Option.some.inj h
    exact z_iret K dX12_now_82
  rcases ite_or h with ⟨c5, h⟩ | ⟨c5, h⟩
  · refine z_tin K 83 5 c5 dX12_now_6 (by decide) (by decide) rfl (by decide) ?_
    refine z_aload_n K dX12_now_83 rfl ?_
    refine z_iconst K 3 dX12_now_84 rfl ?_
    obtain ⟨u6, hc, h⟩ := bd1_e h
    refine z_callVI K (mX12_who0 l hR k0 hc) clX12 k0 ceX12_who0 q1661 ⟨rfl, rfl, rfl, rfl⟩ rfl rfl rfl dX12_now_85 ?_
    obtain rfl := Option.some.inj h
    exact z_iret K dX12_now_88
  rcases ite_or h with ⟨c6, h⟩ | ⟨c6, h⟩
  · refine z_tin K 89 6 c6 dX12_now_6 (by decide) (by decide) rfl (by decide) ?_
    refine z_iconst K 1 dX12_now_89 rfl ?_
    refine z_aload_n K dX12_now_90 rfl ?_
    refine z_getR K clX12 k0 6 rfl rfl q1344 dX12_now_91 ?_
    refine z_iconst K 2 dX12_now_94 rfl ?_
    obtain ⟨hi, h⟩ := ix_e h
    refine z_iald K (hR.at (k := 6) (t := 20270) k0 rfl rfl) rfl rfl rfl hi dX12_now_95 ?_
    refine z_ishl K dX12_now_96 ?_
    refine z_iconst K 1 dX12_now_97 rfl ?_
    refine z_isub K dX12_now_98 ?_
    refine z_aload_n K dX12_now_99 rfl ?_
    refine z_getR K clX12 k0 6 rfl rfl q1344 dX12_now_100 ?_
    refine z_bipush K 82 dX12_now_103 rfl ?_
    obtain ⟨hi, h⟩ := ix_e h
    refine z_iald K (hR.at (k := 6) (t := 20270) k0 rfl rfl) rfl rfl rfl hi dX12_now_105 ?_
    refine z_iconst K (-1) dX12_now_106 rfl ?_
    refine z_ixor K dX12_now_107 ?_
    refine z_iand K dX12_now_108 ?_
    obtain rfl := Option.some.inj h
    exact z_iret K dX12_now_109
  rcases ite_or h with ⟨c7, h⟩ | ⟨c7, h⟩
  · refine z_tin K 110 7 c7 dX12_now_6 (by decide) (by decide) rfl (by decide) ?_
    refine z_aload_n K dX12_now_110 rfl ?_
    refine z_getR K clX12 k0 6 rfl rfl q1344 dX12_now_111 ?_
    refine z_bipush K 83 dX12_now_114 rfl ?_
    obtain ⟨hi, h⟩ := ix_e h
    refine z_iald K (hR.at (k := 6) (t := 20270) k0 rfl rfl) rfl rfl rfl hi dX12_now_116 ?_
    obtain rfl := Option.some.inj h
    exact z_iret K dX12_now_117
  refine z_tout K 118 8 (lt_p (lt_s (lt_s (lt_s (lt_s (lt_s (lt_s (lt_s (lt_s lt_0 c0) c1) c2) c3) c4) c5) c6) c7)) dX12_now_6 (by decide) (by decide) (by decide) ?_
  refine z_iconst K (-1) dX12_now_118 rfl ?_
  obtain rfl := Option.some.inj h
  exact z_iret K dX12_now_119
/-! GoingOverModel.plunges (I)V -/
abbrev rmX12_plunges : Room := { frames := 2, cells := 0, slots := 0, locals := 44 }
def pX12_plunges_23 (R : Rf) (a0 : Nat) (x1 : Int32) (e83 : Mm → Option (Mm)) (r23 : Mm → Int32 → Int32 → Option (Mm)) (T : Mm) (x2 : Int32) (x3 : Int32) : Option (Mm) :=
  ix 2 270 (if (T.1 (R a0 6) (2 : Int32).toNatClampNeg) ≤ x3 then e83 T else ix (32 + x3) 270 (ix (12 + (T.1 (R a0 6) (32 + x3).toNatClampNeg)) 270 (if (T.1 (R a0 6) (12 + (T.1 (R a0 6) (32 + x3).toNatClampNeg)).toNatClampNeg) = x1 then bd1 (pX12_bitOf R T x2 x3) (fun (u3 : Int32) => if u3 = 0 then ix 82 270 (ix 82 270 (lt (wI T (R a0 6) (82 : Int32).toNatClampNeg ((T.1 (R a0 6) (82 : Int32).toNatClampNeg) &&& ((1 <<< (x3 &&& 31)) ^^^ (-1)))) (fun (T5 : Mm) => lt (x3 + 1) (fun (v6 : Int32) => r23 T5 x2 v6)))) else lt (x3 + 1) (fun (v4 : Int32) => r23 T x2 v4)) else lt (x3 + 1) (fun (v2 : Int32) => r23 T x2 v2))))
def pX12_plunges_83 (R : Rf) (a0 : Nat) (x1 : Int32) (T : Mm) : Option (Mm) :=
  ix (84 + x1) 270 (lt (wI T (R a0 6) (84 + x1).toNatClampNeg 2) (fun (T7 : Mm) => ix 83 270 (ix 83 270 (lt (wI T7 (R a0 6) (83 : Int32).toNatClampNeg ((T7.1 (R a0 6) (83 : Int32).toNatClampNeg) + 1)) (fun (T8 : Mm) => some T8)))))
def pX12_plunges (R : Rf) (T : Mm) (a0 : Nat) (x1 : Int32) : Option (Mm) :=
  ix 3 270 (ix (7 + x1) 270 (bd1 (pX12_joinsFrom R T a0 ((T.1 (R a0 6) (3 : Int32).toNatClampNeg) - (T.1 (R a0 6) (7 + x1).toNatClampNeg))) (fun (u1 : Int32) => zl3 (pX12_plunges_23 R a0 x1 (pX12_plunges_83 R a0 x1)) FU T u1 0)))
set_option maxRecDepth 100000 in
set_option maxHeartbeats 4000000 in
theorem wX12_plunges_23 {X : Cx} {g : Gl} {l : Launch} {R : Rf} {a0 : Nat} {x1 : Int32} (K : Ok X g l cX12_plunges RX12 4 none rmX12_plunges) (hR : Ty g R) (k0 : kd g a0 = 12) {r : Mm} {e83 : Mm → Option (Mm)} (he83 : ∀ (T : Mm), e83 T = some r → Zj X g 4 (QV X g R r) R T [some (.ref (g.2.2.1 a0)), some (.int x1), none, none] [] 83) : ∀ (n : Nat) (T : Mm) (x2 : Int32) (x3 : Int32), zl3 (pX12_plunges_23 R a0 x1 e83) n T x2 x3 = some r → Zj X g 4 (QV X g R r) R T [some (.ref (g.2.2.1 a0)), some (.int x1), some (.int x2), some (.int x3)] [] 23 := by
  intro n
  induction n with
  | zero =>
    intro T x2 x3 h
    exact absurd h (by simp [zl3])
  | succ n hr23 =>
    intro T x2 x3 h
    rw [zl3_s] at h
    unfold pX12_plunges_23 at h
    refine z_iload_n K dX12_plunges_23 rfl ?_
    refine z_aload_n K dX12_plunges_24 rfl ?_
    refine z_getR K clX12 k0 6 rfl rfl q1344 dX12_plunges_25 ?_
    refine z_iconst K 2 dX12_plunges_28 rfl ?_
    obtain ⟨hi, h⟩ := ix_e h
    refine z_iald K (hR.at (k := 6) (t := 20270) k0 rfl rfl) rfl rfl rfl hi dX12_plunges_29 ?_
    refine z_icmp_ge K 83 dX12_plunges_30 (by decide) (fun c => ?_) (fun c => ?_)
    · have h := ite_t h c
      refine Zj.mask [true, true, false, false] ?_
      exact he83 _ h
    · have h := ite_f h c
      refine z_aload_n K dX12_plunges_33 rfl ?_
      refine z_getR K clX12 k0 6 rfl rfl q1344 dX12_plunges_34 ?_
      refine z_bipush K 12 dX12_plunges_37 rfl ?_
      refine z_aload_n K dX12_plunges_39 rfl ?_
      refine z_getR K clX12 k0 6 rfl rfl q1344 dX12_plunges_40 ?_
      refine z_bipush K 32 dX12_plunges_43 rfl ?_
      refine z_iload_n K dX12_plunges_45 rfl ?_
      refine z_iadd K dX12_plunges_46 ?_
      obtain ⟨hi, h⟩ := ix_e h
      refine z_iald K (hR.at (k := 6) (t := 20270) k0 rfl rfl) rfl rfl rfl hi dX12_plunges_47 ?_
      refine z_iadd K dX12_plunges_48 ?_
      obtain ⟨hi, h⟩ := ix_e h
      refine z_iald K (hR.at (k := 6) (t := 20270) k0 rfl rfl) rfl rfl rfl hi dX12_plunges_49 ?_
      refine z_iload_n K dX12_plunges_50 rfl ?_
      refine z_icmp_ne K 77 dX12_plunges_51 (by decide) (fun c => ?_) (fun c => ?_)
      · have h := ite_f h c
        refine z_iinc K 1 dX12_plunges_77 rfl rfl rfl rfl ?_
        refine z_goto K 23 dX12_plunges_80 (by decide) ?_
        refine Zj.mask [true, true, true, true] ?_
        exact hr23 _ _ _ h
      · have h := ite_t h c
        refine z_iload_n K dX12_plunges_54 rfl ?_
        refine z_iload_n K dX12_plunges_55 rfl ?_
        obtain ⟨u3, hc, h⟩ := bd1_e h
        refine z_callSI K (mX12_bitOf l hR hc) ceX12_bitOf q1524 ⟨rfl, rfl, rfl, rfl⟩ rfl rfl rfl dX12_plunges_56 ?_
        refine z_if_ne K 77 dX12_plunges_59 (by decide) (fun c => ?_) (fun c => ?_)
        · have h := ite_f h c
          refine z_iinc K 1 dX12_plunges_77 rfl rfl rfl rfl ?_
          refine z_goto K 23 dX12_plunges_80 (by decide) ?_
          refine Zj.mask [true, true, true, true] ?_
          exact hr23 _ _ _ h
        · have h := ite_t h c
          refine z_aload_n K dX12_plunges_62 rfl ?_
          refine z_getR K clX12 k0 6 rfl rfl q1344 dX12_plunges_63 ?_
          refine z_bipush K 82 dX12_plunges_66 rfl ?_
          refine z_dup2 K dX12_plunges_68 rfl rfl ?_
          obtain ⟨hi, h⟩ := ix_e h
          refine z_iald K (hR.at (k := 6) (t := 20270) k0 rfl rfl) rfl rfl rfl hi dX12_plunges_69 ?_
          refine z_iconst K 1 dX12_plunges_70 rfl ?_
          refine z_iload_n K dX12_plunges_71 rfl ?_
          refine z_ishl K dX12_plunges_72 ?_
          refine z_iconst K (-1) dX12_plunges_73 rfl ?_
          refine z_ixor K dX12_plunges_74 ?_
          refine z_iand K dX12_plunges_75 ?_
          obtain ⟨hi, h⟩ := ix_e h
          refine z_iast K (hR.at (k := 6) (t := 20270) k0 rfl rfl) rfl rfl rfl hi dX12_plunges_76 ?_
          refine z_iinc K 1 dX12_plunges_77 rfl rfl rfl rfl ?_
          refine z_goto K 23 dX12_plunges_80 (by decide) ?_
          refine Zj.mask [true, true, true, true] ?_
          exact hr23 _ _ _ h
set_option maxRecDepth 100000 in
set_option maxHeartbeats 4000000 in
theorem wX12_plunges_83 {X : Cx} {g : Gl} {l : Launch} {R : Rf} {a0 : Nat} {x1 : Int32} (K : Ok X g l cX12_plunges RX12 4 none rmX12_plunges) (hR : Ty g R) (k0 : kd g a0 = 12) {r : Mm} (T : Mm) (h : pX12_plunges_83 R a0 x1 T = some r) : Zj X g 4 (QV X g R r) R T [some (.ref (g.2.2.1 a0)), some (.int x1), none, none] [] 83 := by
  unfold pX12_plunges_83 at h
  refine z_aload_n K dX12_plunges_83 rfl ?_
  refine z_getR K clX12 k0 6 rfl rfl q1344 dX12_plunges_84 ?_
  refine z_bipush K 84 dX12_plunges_87 rfl ?_
  refine z_iload_n K dX12_plunges_89 rfl ?_
  refine z_iadd K dX12_plunges_90 ?_
  refine z_iconst K 2 dX12_plunges_91 rfl ?_
  obtain ⟨hi, h⟩ := ix_e h
  refine z_iast K (hR.at (k := 6) (t := 20270) k0 rfl rfl) rfl rfl rfl hi dX12_plunges_92 ?_
  refine z_aload_n K dX12_plunges_93 rfl ?_
  refine z_getR K clX12 k0 6 rfl rfl q1344 dX12_plunges_94 ?_
  refine z_bipush K 83 dX12_plunges_97 rfl ?_
  refine z_dup2 K dX12_plunges_99 rfl rfl ?_
  obtain ⟨hi, h⟩ := ix_e h
  refine z_iald K (hR.at (k := 6) (t := 20270) k0 rfl rfl) rfl rfl rfl hi dX12_plunges_100 ?_
  refine z_iconst K 1 dX12_plunges_101 rfl ?_
  refine z_iadd K dX12_plunges_102 ?_
  obtain ⟨hi, h⟩ := ix_e h
  refine z_iast K (hR.at (k := 6) (t := 20270) k0 rfl rfl) rfl rfl rfl hi dX12_plunges_103 ?_
  obtain rfl := Option.some.inj h
  exact z_vret K dX12_plunges_104
set_option maxRecDepth 100000 in
set_option maxHeartbeats 4000000 in
theorem mX12_plunges {g : Gl} {R : Rf} {T : Mm} {a0 : Nat} {x1 : Int32} (l : Launch) (hR : Ty g R) (k0 : kd g a0 = 12) {r : Mm} (h : pX12_plunges R T a0 x1 = some r) : MV l g yX12_plunges cX12_plunges 4 none rmX12_plunges [.ref (g.2.2.1 a0), .int x1] R T R r := by
  refine z_metV (own := RX12) (lv := [some (.ref (g.2.2.1 a0)), some (.int x1), none, none]) (by decide +kernel) rfl rfl rfl (fun X K => ?_)
  unfold pX12_plunges at h
  refine z_aload_n K dX12_plunges_0 rfl ?_
  refine z_aload_n K dX12_plunges_1 rfl ?_
  refine z_getR K clX12 k0 6 rfl rfl q1344 dX12_plunges_2 ?_
  refine z_iconst K 3 dX12_plunges_5 rfl ?_
  obtain ⟨hi, h⟩ := ix_e h
  refine z_iald K (hR.at (k := 6) (t := 20270) k0 rfl rfl) rfl rfl rfl hi dX12_plunges_6 ?_
  refine z_aload_n K dX12_plunges_7 rfl ?_
  refine z_getR K clX12 k0 6 rfl rfl q1344 dX12_plunges_8 ?_
  refine z_bipush K 7 dX12_plunges_11 rfl ?_
  refine z_iload_n K dX12_plunges_13 rfl ?_
  refine z_iadd K dX12_plunges_14 ?_
  obtain ⟨hi, h⟩ := ix_e h
  refine z_iald K (hR.at (k := 6) (t := 20270) k0 rfl rfl) rfl rfl rfl hi dX12_plunges_15 ?_
  refine z_isub K dX12_plunges_16 ?_
  obtain ⟨u1, hc, h⟩ := bd1_e h
  refine z_callVI K (mX12_joinsFrom l hR k0 hc) clX12 k0 ceX12_joinsFrom q1681 ⟨rfl, rfl, rfl, rfl⟩ rfl rfl rfl dX12_plunges_17 ?_
  refine z_istore_n K dX12_plunges_20 rfl rfl ?_
  refine z_iconst K 0 dX12_plunges_21 rfl ?_
  refine z_istore_n K dX12_plunges_22 rfl rfl ?_
  refine Zj.mask [true, true, true, true] ?_
  exact wX12_plunges_23 K hR k0 (wX12_plunges_83 K hR k0) FU _ _ _ h
/-! GoingOverModel.hangs (I)V -/
abbrev rmX12_hangs : Room := { frames := 3, cells := 0, slots := 0, locals := 67 }
def pX12_hangs (R : Rf) (T : Mm) (a0 : Nat) (x1 : Int32) : Option (Mm) :=
  ix (84 + x1) 270 (lt (wI T (R a0 6) (84 + x1).toNatClampNeg 1) (fun (T1 : Mm) => bd1 (pX12_weightOf R T1 a0 x1) (fun (u2 : Int32) => bd1 (pX12_flowNow R T1 a0) (fun (u3 : Int32) => if u3 < u2 then some T1 else bd1 (pX12_plunges R T1 a0 x1) (fun (T4 : Mm) => some T4)))))
set_option maxRecDepth 100000 in
set_option maxHeartbeats 4000000 in
theorem mX12_hangs {g : Gl} {R : Rf} {T : Mm} {a0 : Nat} {x1 : Int32} (l : Launch) (hR : Ty g R) (k0 : kd g a0 = 12) {r : Mm} (h : pX12_hangs R T a0 x1 = some r) : MV l g yX12_hangs cX12_hangs 2 none rmX12_hangs [.ref (g.2.2.1 a0), .int x1] R T R r := by
  refine z_metV (own := RX12) (lv := [some (.ref (g.2.2.1 a0)), some (.int x1)]) (by decide +kernel) rfl rfl rfl (fun X K => ?_)
  unfold pX12_hangs at h
  refine z_aload_n K dX12_hangs_0 rfl ?_
  refine z_getR K clX12 k0 6 rfl rfl q1344 dX12_hangs_1 ?_
  refine z_bipush K 84 dX12_hangs_4 rfl ?_
  refine z_iload_n K dX12_hangs_6 rfl ?_
  refine z_iadd K dX12_hangs_7 ?_
  refine z_iconst K 1 dX12_hangs_8 rfl ?_
  obtain ⟨hi, h⟩ := ix_e h
  refine z_iast K (hR.at (k := 6) (t := 20270) k0 rfl rfl) rfl rfl rfl hi dX12_hangs_9 ?_
  refine z_aload_n K dX12_hangs_10 rfl ?_
  refine z_iload_n K dX12_hangs_11 rfl ?_
  obtain ⟨u2, hc, h⟩ := bd1_e h
  refine z_callVI K (mX12_weightOf l hR k0 hc) clX12 k0 ceX12_weightOf q1598 ⟨rfl, rfl, rfl, rfl⟩ rfl rfl rfl dX12_hangs_12 ?_
  refine z_aload_n K dX12_hangs_15 rfl ?_
  obtain ⟨u3, hc, h⟩ := bd1_e h
  refine z_callVI K (mX12_flowNow l hR k0 hc) clX12 k0 ceX12_flowNow q1653 ⟨rfl, rfl, rfl, rfl⟩ rfl rfl rfl dX12_hangs_16 ?_
  refine z_icmp_gt K 27 dX12_hangs_19 (by decide) (fun c => ?_) (fun c => ?_)
  · have h := ite_t h c
    obtain rfl := Option.some.inj h
    exact z_vret K dX12_hangs_27
  · have h := ite_f h c
    refine z_aload_n K dX12_hangs_22 rfl ?_
    refine z_iload_n K dX12_hangs_23 rfl ?_
    obtain ⟨T4, hc, h⟩ := bd1_e h
    refine z_callVV K (mX12_plunges l hR k0 hc) clX12 k0 ceX12_plunges q1677 ⟨rfl, rfl, rfl, rfl⟩ rfl rfl rfl dX12_hangs_24 ?_
    obtain rfl := Option.some.inj h
    exact z_vret K dX12_hangs_27
/-! GoingOverModel.whyUnload (I)I -/
abbrev rmX12_whyUnload : Room := { frames := 1, cells := 0, slots := 0, locals := 21 }
def pX12_whyUnload (R : Rf) (T : Mm) (a0 : Nat) (x1 : Int32) : Option (Int32) :=
  ix 81 270 (bd1 (pX12_bitOf R T (T.1 (R a0 6) (81 : Int32).toNatClampNeg) x1) (fun (u1 : Int32) => if u1 = 0 then some 1 else ix (12 + x1) 270 (bd1 (pX12_isDown R T a0 (T.1 (R a0 6) (12 + x1).toNatClampNeg)) (fun (u2 : Int32) => if u2 = 0 then some 0 else some 2))))
set_option maxRecDepth 100000 in
set_option maxHeartbeats 4000000 in
theorem mX12_whyUnload {g : Gl} {R : Rf} {T : Mm} {a0 : Nat} {x1 : Int32} (l : Launch) (hR : Ty g R) (k0 : kd g a0 = 12) {r : Int32} (h : pX12_whyUnload R T a0 x1 = some r) : MI l g yX12_whyUnload cX12_whyUnload 2 (some .int) rmX12_whyUnload [.ref (g.2.2.1 a0), .int x1] R T r R T := by
  refine z_metI (own := RX12) (lv := [some (.ref (g.2.2.1 a0)), some (.int x1)]) (by decide +kernel) rfl rfl rfl (fun X K => ?_)
  unfold pX12_whyUnload at h
  refine z_aload_n K dX12_whyUnload_0 rfl ?_
  refine z_getR K clX12 k0 6 rfl rfl q1344 dX12_whyUnload_1 ?_
  refine z_bipush K 81 dX12_whyUnload_4 rfl ?_
  obtain ⟨hi, h⟩ := ix_e h
  refine z_iald K (hR.at (k := 6) (t := 20270) k0 rfl rfl) rfl rfl rfl hi dX12_whyUnload_6 ?_
  refine z_iload_n K dX12_whyUnload_7 rfl ?_
  obtain ⟨u1, hc, h⟩ := bd1_e h
  refine z_callSI K (mX12_bitOf l hR hc) ceX12_bitOf q1524 ⟨rfl, rfl, rfl, rfl⟩ rfl rfl rfl dX12_whyUnload_8 ?_
  refine z_if_ne K 18 dX12_whyUnload_11 (by decide) (fun c => ?_) (fun c => ?_)
  · have h := ite_f h c
    refine z_aload_n K dX12_whyUnload_18 rfl ?_
    refine z_aload_n K dX12_whyUnload_19 rfl ?_
    refine z_getR K clX12 k0 6 rfl rfl q1344 dX12_whyUnload_20 ?_
    refine z_bipush K 12 dX12_whyUnload_23 rfl ?_
    refine z_iload_n K dX12_whyUnload_25 rfl ?_
    refine z_iadd K dX12_whyUnload_26 ?_
    obtain ⟨hi, h⟩ := ix_e h
    refine z_iald K (hR.at (k := 6) (t := 20270) k0 rfl rfl) rfl rfl rfl hi dX12_whyUnload_27 ?_
    obtain ⟨u2, hc, h⟩ := bd1_e h
    refine z_callVI K (mX12_isDown l hR k0 hc) clX12 k0 ceX12_isDown q1697 ⟨rfl, rfl, rfl, rfl⟩ rfl rfl rfl dX12_whyUnload_28 ?_
    refine z_if_eq K 38 dX12_whyUnload_31 (by decide) (fun c => ?_) (fun c => ?_)
    · have h := ite_t h c
      refine z_iconst K 0 dX12_whyUnload_38 rfl ?_
      obtain rfl := Option.some.inj h
      exact z_iret K dX12_whyUnload_39
    · have h := ite_f h c
      refine z_iconst K 2 dX12_whyUnload_34 rfl ?_
      refine z_goto K 39 dX12_whyUnload_35 (by decide) ?_
      obtain rfl := Option.some.inj h
      exact z_iret K dX12_whyUnload_39
  · have h := ite_t h c
    refine z_iconst K 1 dX12_whyUnload_14 rfl ?_
    refine z_goto K 39 dX12_whyUnload_15 (by decide) ?_
    obtain rfl := Option.some.inj h
    exact z_iret K dX12_whyUnload_39
/-! GoingOverModel.takesOut (I)V -/
abbrev rmX12_takesOut : Room := { frames := 4, cells := 0, slots := 0, locals := 88 }
def pX12_takesOut_53 (R : Rf) (a0 : Nat) (x1 : Int32) (r17 : Mm → Int32 → Option (Mm)) (e74 : Mm → Option (Mm)) (T : Mm) (x2 : Int32) : Option (Mm) :=
  ix 82 270 (ix 82 270 (lt (wI T (R a0 6) (82 : Int32).toNatClampNeg ((T.1 (R a0 6) (82 : Int32).toNatClampNeg) &&& ((1 <<< (x2 &&& 31)) ^^^ (-1)))) (fun (T2 : Mm) => lt (x2 + 1) (fun (v3 : Int32) => r17 T2 v3))))
def pX12_takesOut_17 (R : Rf) (a0 : Nat) (x1 : Int32) (e74 : Mm → Option (Mm)) (r17 : Mm → Int32 → Option (Mm)) (T : Mm) (x2 : Int32) : Option (Mm) :=
  ix 2 270 (if (T.1 (R a0 6) (2 : Int32).toNatClampNeg) ≤ x2 then e74 T else ix (32 + x2) 270 (if (T.1 (R a0 6) (32 + x2).toNatClampNeg) = x1 then pX12_takesOut_53 R a0 x1 r17 e74 T x2 else ix (48 + x2) 270 (if (T.1 (R a0 6) (48 + x2).toNatClampNeg) = x1 then pX12_takesOut_53 R a0 x1 r17 e74 T x2 else lt (x2 + 1) (fun (v4 : Int32) => r17 T v4))))
def pX12_takesOut_74 (R : Rf) (a0 : Nat) (x1 : Int32) (T : Mm) : Option (Mm) :=
  ix (12 + x1) 270 (ix (84 + (T.1 (R a0 6) (12 + x1).toNatClampNeg)) 270 (if (T.1 (R a0 6) (84 + (T.1 (R a0 6) (12 + x1).toNatClampNeg)).toNatClampNeg) = 1 then ix (12 + x1) 270 (bd1 (pX12_hangs R T a0 (T.1 (R a0 6) (12 + x1).toNatClampNeg)) (fun (T5 : Mm) => some T5)) else some T))
def pX12_takesOut (R : Rf) (T : Mm) (a0 : Nat) (x1 : Int32) : Option (Mm) :=
  ix 81 270 (ix 81 270 (lt (wI T (R a0 6) (81 : Int32).toNatClampNeg ((T.1 (R a0 6) (81 : Int32).toNatClampNeg) &&& ((1 <<< (x1 &&& 31)) ^^^ (-1)))) (fun (T1 : Mm) => zl2 (pX12_takesOut_17 R a0 x1 (pX12_takesOut_74 R a0 x1)) FU T1 0)))
set_option maxRecDepth 100000 in
set_option maxHeartbeats 4000000 in
theorem wX12_takesOut_53 {X : Cx} {g : Gl} {l : Launch} {R : Rf} {a0 : Nat} {x1 : Int32} (K : Ok X g l cX12_takesOut RX12 3 none rmX12_takesOut) (hR : Ty g R) (k0 : kd g a0 = 12) {r : Mm} {r17 : Mm → Int32 → Option (Mm)} (hr17 : ∀ (T : Mm) (x2 : Int32), r17 T x2 = some r → Zj X g 3 (QV X g R r) R T [some (.ref (g.2.2.1 a0)), some (.int x1), some (.int x2)] [] 17) {e74 : Mm → Option (Mm)} (he74 : ∀ (T : Mm), e74 T = some r → Zj X g 3 (QV X g R r) R T [some (.ref (g.2.2.1 a0)), some (.int x1), none] [] 74) (T : Mm) (x2 : Int32) (h : pX12_takesOut_53 R a0 x1 r17 e74 T x2 = some r) : Zj X g 3 (QV X g R r) R T [some (.ref (g.2.2.1 a0)), some (.int x1), some (.int x2)] [] 53 := by
  unfold pX12_takesOut_53 at h
  refine z_aload_n K dX12_takesOut_53 rfl ?_
  refine z_getR K clX12 k0 6 rfl rfl q1344 dX12_takesOut_54 ?_
  refine z_bipush K 82 dX12_takesOut_57 rfl ?_
  refine z_dup2 K dX12_takesOut_59 rfl rfl ?_
  obtain ⟨hi, h⟩ := ix_e h
  refine z_iald K (hR.at (k := 6) (t := 20270) k0 rfl rfl) rfl rfl rfl hi dX12_takesOut_60 ?_
  refine z_iconst K 1 dX12_takesOut_61 rfl ?_
  refine z_iload_n K dX12_takesOut_62 rfl ?_
  refine z_ishl K dX12_takesOut_63 ?_
  refine z_iconst K (-1) dX12_takesOut_64 rfl ?_
  refine z_ixor K dX12_takesOut_65 ?_
  refine z_iand K dX12_takesOut_66 ?_
  obtain ⟨hi, h⟩ := ix_e h
  refine z_iast K (hR.at (k := 6) (t := 20270) k0 rfl rfl) rfl rfl rfl hi dX12_takesOut_67 ?_
  refine z_iinc K 1 dX12_takesOut_68 rfl rfl rfl rfl ?_
  refine z_goto K 17 dX12_takesOut_71 (by decide) ?_
  refine Zj.mask [true, true, true] ?_
  exact hr17 _ _ h
set_option maxRecDepth 100000 in
set_option maxHeartbeats 4000000 in
theorem wX12_takesOut_17 {X : Cx} {g : Gl} {l : Launch} {R : Rf} {a0 : Nat} {x1 : Int32} (K : Ok X g l cX12_takesOut RX12 3 none rmX12_takesOut) (hR : Ty g R) (k0 : kd g a0 = 12) {r : Mm} {e74 : Mm → Option (Mm)} (he74 : ∀ (T : Mm), e74 T = some r → Zj X g 3 (QV X g R r) R T [some (.ref (g.2.2.1 a0)), some (.int x1), none] [] 74) : ∀ (n : Nat) (T : Mm) (x2 : Int32), zl2 (pX12_takesOut_17 R a0 x1 e74) n T x2 = some r → Zj X g 3 (QV X g R r) R T [some (.ref (g.2.2.1 a0)), some (.int x1), some (.int x2)] [] 17 := by
  intro n
  induction n with
  | zero =>
    intro T x2 h
    exact absurd h (by simp [zl2])
  | succ n hr17 =>
    intro T x2 h
    rw [zl2_s] at h
    unfold pX12_takesOut_17 at h
    refine z_iload_n K dX12_takesOut_17 rfl ?_
    refine z_aload_n K dX12_takesOut_18 rfl ?_
    refine z_getR K clX12 k0 6 rfl rfl q1344 dX12_takesOut_19 ?_
    refine z_iconst K 2 dX12_takesOut_22 rfl ?_
    obtain ⟨hi, h⟩ := ix_e h
    refine z_iald K (hR.at (k := 6) (t := 20270) k0 rfl rfl) rfl rfl rfl hi dX12_takesOut_23 ?_
    refine z_icmp_ge K 74 dX12_takesOut_24 (by decide) (fun c => ?_) (fun c => ?_)
    · have h := ite_t h c
      refine Zj.mask [true, true, false] ?_
      exact he74 _ h
    · have h := ite_f h c
      refine z_aload_n K dX12_takesOut_27 rfl ?_
      refine z_getR K clX12 k0 6 rfl rfl q1344 dX12_takesOut_28 ?_
      refine z_bipush K 32 dX12_takesOut_31 rfl ?_
      refine z_iload_n K dX12_takesOut_33 rfl ?_
      refine z_iadd K dX12_takesOut_34 ?_
      obtain ⟨hi, h⟩ := ix_e h
      refine z_iald K (hR.at (k := 6) (t := 20270) k0 rfl rfl) rfl rfl rfl hi dX12_takesOut_35 ?_
      refine z_iload_n K dX12_takesOut_36 rfl ?_
      refine z_icmp_eq K 53 dX12_takesOut_37 (by decide) (fun c => ?_) (fun c => ?_)
      · have h := ite_t h c
        refine Zj.mask [true, true, true] ?_
        exact wX12_takesOut_53 K hR k0 hr17 he74 _ _ h
      · have h := ite_f h c
        refine z_aload_n K dX12_takesOut_40 rfl ?_
        refine z_getR K clX12 k0 6 rfl rfl q1344 dX12_takesOut_41 ?_
        refine z_bipush K 48 dX12_takesOut_44 rfl ?_
        refine z_iload_n K dX12_takesOut_46 rfl ?_
        refine z_iadd K dX12_takesOut_47 ?_
        obtain ⟨hi, h⟩ := ix_e h
        refine z_iald K (hR.at (k := 6) (t := 20270) k0 rfl rfl) rfl rfl rfl hi dX12_takesOut_48 ?_
        refine z_iload_n K dX12_takesOut_49 rfl ?_
        refine z_icmp_ne K 68 dX12_takesOut_50 (by decide) (fun c => ?_) (fun c => ?_)
        · have h := ite_f h c
          refine z_iinc K 1 dX12_takesOut_68 rfl rfl rfl rfl ?_
          refine z_goto K 17 dX12_takesOut_71 (by decide) ?_
          refine Zj.mask [true, true, true] ?_
          exact hr17 _ _ h
        · have h := ite_t h c
          refine Zj.mask [true, true, true] ?_
          exact wX12_takesOut_53 K hR k0 hr17 he74 _ _ h
set_option maxRecDepth 100000 in
set_option maxHeartbeats 4000000 in
theorem wX12_takesOut_74 {X : Cx} {g : Gl} {l : Launch} {R : Rf} {a0 : Nat} {x1 : Int32} (K : Ok X g l cX12_takesOut RX12 3 none rmX12_takesOut) (hR : Ty g R) (k0 : kd g a0 = 12) {r : Mm} (T : Mm) (h : pX12_takesOut_74 R a0 x1 T = some r) : Zj X g 3 (QV X g R r) R T [some (.ref (g.2.2.1 a0)), some (.int x1), none] [] 74 := by
  unfold pX12_takesOut_74 at h
  refine z_aload_n K dX12_takesOut_74 rfl ?_
  refine z_getR K clX12 k0 6 rfl rfl q1344 dX12_takesOut_75 ?_
  refine z_bipush K 84 dX12_takesOut_78 rfl ?_
  refine z_aload_n K dX12_takesOut_80 rfl ?_
  refine z_getR K clX12 k0 6 rfl rfl q1344 dX12_takesOut_81 ?_
  refine z_bipush K 12 dX12_takesOut_84 rfl ?_
  refine z_iload_n K dX12_takesOut_86 rfl ?_
  refine z_iadd K dX12_takesOut_87 ?_
  obtain ⟨hi, h⟩ := ix_e h
  refine z_iald K (hR.at (k := 6) (t := 20270) k0 rfl rfl) rfl rfl rfl hi dX12_takesOut_88 ?_
  refine z_iadd K dX12_takesOut_89 ?_
  obtain ⟨hi, h⟩ := ix_e h
  refine z_iald K (hR.at (k := 6) (t := 20270) k0 rfl rfl) rfl rfl rfl hi dX12_takesOut_90 ?_
  refine z_iconst K 1 dX12_takesOut_91 rfl ?_
  refine z_icmp_ne K 108 dX12_takesOut_92 (by decide) (fun c => ?_) (fun c => ?_)
  · have h := ite_f h c
    obtain rfl := Option.some.inj h
    exact z_vret K dX12_takesOut_108
  · have h := ite_t h c
    refine z_aload_n K dX12_takesOut_95 rfl ?_
    refine z_aload_n K dX12_takesOut_96 rfl ?_
    refine z_getR K clX12 k0 6 rfl rfl q1344 dX12_takesOut_97 ?_
    refine z_bipush K 12 dX12_takesOut_100 rfl ?_
    refine z_iload_n K dX12_takesOut_102 rfl ?_
    refine z_iadd K dX12_takesOut_103 ?_
    obtain ⟨hi, h⟩ := ix_e h
    refine z_iald K (hR.at (k := 6) (t := 20270) k0 rfl rfl) rfl rfl rfl hi dX12_takesOut_104 ?_
    obtain ⟨T5, hc, h⟩ := bd1_e h
    refine z_callVV K (mX12_hangs l hR k0 hc) clX12 k0 ceX12_hangs q1673 ⟨rfl, rfl, rfl, rfl⟩ rfl rfl rfl dX12_takesOut_105 ?_
    obtain rfl := Option.some.inj h
    exact z_vret K dX12_takesOut_108
set_option maxRecDepth 100000 in
set_option maxHeartbeats 4000000 in
theorem mX12_takesOut {g : Gl} {R : Rf} {T : Mm} {a0 : Nat} {x1 : Int32} (l : Launch) (hR : Ty g R) (k0 : kd g a0 = 12) {r : Mm} (h : pX12_takesOut R T a0 x1 = some r) : MV l g yX12_takesOut cX12_takesOut 3 none rmX12_takesOut [.ref (g.2.2.1 a0), .int x1] R T R r := by
  refine z_metV (own := RX12) (lv := [some (.ref (g.2.2.1 a0)), some (.int x1), none]) (by decide +kernel) rfl rfl rfl (fun X K => ?_)
  unfold pX12_takesOut at h
  refine z_aload_n K dX12_takesOut_0 rfl ?_
  refine z_getR K clX12 k0 6 rfl rfl q1344 dX12_takesOut_1 ?_
  refine z_bipush K 81 dX12_takesOut_4 rfl ?_
  refine z_dup2 K dX12_takesOut_6 rfl rfl ?_
  obtain ⟨hi, h⟩ := ix_e h
  refine z_iald K (hR.at (k := 6) (t := 20270) k0 rfl rfl) rfl rfl rfl hi dX12_takesOut_7 ?_
  refine z_iconst K 1 dX12_takesOut_8 rfl ?_
  refine z_iload_n K dX12_takesOut_9 rfl ?_
  refine z_ishl K dX12_takesOut_10 ?_
  refine z_iconst K (-1) dX12_takesOut_11 rfl ?_
  refine z_ixor K dX12_takesOut_12 ?_
  refine z_iand K dX12_takesOut_13 ?_
  obtain ⟨hi, h⟩ := ix_e h
  refine z_iast K (hR.at (k := 6) (t := 20270) k0 rfl rfl) rfl rfl rfl hi dX12_takesOut_14 ?_
  refine z_iconst K 0 dX12_takesOut_15 rfl ?_
  refine z_istore_n K dX12_takesOut_16 rfl rfl ?_
  refine Zj.mask [true, true, true] ?_
  exact wX12_takesOut_17 K hR k0 (wX12_takesOut_74 K hR k0) FU _ _ h
/-! GoingOverModel.whyLoad (I)I -/
abbrev rmX12_whyLoad : Room := { frames := 1, cells := 0, slots := 0, locals := 21 }
def pX12_whyLoad (R : Rf) (T : Mm) (a0 : Nat) (x1 : Int32) : Option (Int32) :=
  ix 81 270 (bd1 (pX12_bitOf R T (T.1 (R a0 6) (81 : Int32).toNatClampNeg) x1) (fun (u1 : Int32) => if u1 = 0 then ix (12 + x1) 270 (ix (84 + (T.1 (R a0 6) (12 + x1).toNatClampNeg)) 270 (if (T.1 (R a0 6) (84 + (T.1 (R a0 6) (12 + x1).toNatClampNeg)).toNatClampNeg) = 0 then some 0 else some 2)) else some 1))
set_option maxRecDepth 100000 in
set_option maxHeartbeats 4000000 in
theorem mX12_whyLoad {g : Gl} {R : Rf} {T : Mm} {a0 : Nat} {x1 : Int32} (l : Launch) (hR : Ty g R) (k0 : kd g a0 = 12) {r : Int32} (h : pX12_whyLoad R T a0 x1 = some r) : MI l g yX12_whyLoad cX12_whyLoad 2 (some .int) rmX12_whyLoad [.ref (g.2.2.1 a0), .int x1] R T r R T := by
  refine z_metI (own := RX12) (lv := [some (.ref (g.2.2.1 a0)), some (.int x1)]) (by decide +kernel) rfl rfl rfl (fun X K => ?_)
  unfold pX12_whyLoad at h
  refine z_aload_n K dX12_whyLoad_0 rfl ?_
  refine z_getR K clX12 k0 6 rfl rfl q1344 dX12_whyLoad_1 ?_
  refine z_bipush K 81 dX12_whyLoad_4 rfl ?_
  obtain ⟨hi, h⟩ := ix_e h
  refine z_iald K (hR.at (k := 6) (t := 20270) k0 rfl rfl) rfl rfl rfl hi dX12_whyLoad_6 ?_
  refine z_iload_n K dX12_whyLoad_7 rfl ?_
  obtain ⟨u1, hc, h⟩ := bd1_e h
  refine z_callSI K (mX12_bitOf l hR hc) ceX12_bitOf q1524 ⟨rfl, rfl, rfl, rfl⟩ rfl rfl rfl dX12_whyLoad_8 ?_
  refine z_if_eq K 18 dX12_whyLoad_11 (by decide) (fun c => ?_) (fun c => ?_)
  · have h := ite_t h c
    refine z_aload_n K dX12_whyLoad_18 rfl ?_
    refine z_getR K clX12 k0 6 rfl rfl q1344 dX12_whyLoad_19 ?_
    refine z_bipush K 84 dX12_whyLoad_22 rfl ?_
    refine z_aload_n K dX12_whyLoad_24 rfl ?_
    refine z_getR K clX12 k0 6 rfl rfl q1344 dX12_whyLoad_25 ?_
    refine z_bipush K 12 dX12_whyLoad_28 rfl ?_
    refine z_iload_n K dX12_whyLoad_30 rfl ?_
    refine z_iadd K dX12_whyLoad_31 ?_
    obtain ⟨hi, h⟩ := ix_e h
    refine z_iald K (hR.at (k := 6) (t := 20270) k0 rfl rfl) rfl rfl rfl hi dX12_whyLoad_32 ?_
    refine z_iadd K dX12_whyLoad_33 ?_
    obtain ⟨hi, h⟩ := ix_e h
    refine z_iald K (hR.at (k := 6) (t := 20270) k0 rfl rfl) rfl rfl rfl hi dX12_whyLoad_34 ?_
    refine z_if_eq K 42 dX12_whyLoad_35 (by decide) (fun c => ?_) (fun c => ?_)
    · have h := ite_t h c
      refine z_iconst K 0 dX12_whyLoad_42 rfl ?_
      obtain rfl := Option.some.inj h
      exact z_iret K dX12_whyLoad_43
    · have h := ite_f h c
      refine z_iconst K 2 dX12_whyLoad_38 rfl ?_
      refine z_goto K 43 dX12_whyLoad_39 (by decide) ?_
      obtain rfl := Option.some.inj h
      exact z_iret K dX12_whyLoad_43
  · have h := ite_f h c
    refine z_iconst K 1 dX12_whyLoad_14 rfl ?_
    refine z_goto K 43 dX12_whyLoad_15 (by decide) ?_
    obtain rfl := Option.some.inj h
    exact z_iret K dX12_whyLoad_43
/-! GoingOverModel.whyBind (I)I -/
abbrev rmX12_whyBind : Room := { frames := 1, cells := 0, slots := 0, locals := 21 }
def pX12_whyBind (R : Rf) (T : Mm) (a0 : Nat) (x1 : Int32) : Option (Int32) :=
  ix 82 270 (bd1 (pX12_bitOf R T (T.1 (R a0 6) (82 : Int32).toNatClampNeg) x1) (fun (u1 : Int32) => if u1 = 0 then ix 81 270 (ix (32 + x1) 270 (bd1 (pX12_bitOf R T (T.1 (R a0 6) (81 : Int32).toNatClampNeg) (T.1 (R a0 6) (32 + x1).toNatClampNeg)) (fun (u2 : Int32) => if u2 = 0 then some 2 else ix 81 270 (ix (48 + x1) 270 (bd1 (pX12_bitOf R T (T.1 (R a0 6) (81 : Int32).toNatClampNeg) (T.1 (R a0 6) (48 + x1).toNatClampNeg)) (fun (u3 : Int32) => if u3 = 0 then some 2 else ix (32 + x1) 270 (ix (12 + (T.1 (R a0 6) (32 + x1).toNatClampNeg)) 270 (ix (84 + (T.1 (R a0 6) (12 + (T.1 (R a0 6) (32 + x1).toNatClampNeg)).toNatClampNeg)) 270 (if (T.1 (R a0 6) (84 + (T.1 (R a0 6) (12 + (T.1 (R a0 6) (32 + x1).toNatClampNeg)).toNatClampNeg)).toNatClampNeg) = 0 then some 0 else some 3))))))))) else some 1))
set_option maxRecDepth 100000 in
set_option maxHeartbeats 4000000 in
theorem mX12_whyBind {g : Gl} {R : Rf} {T : Mm} {a0 : Nat} {x1 : Int32} (l : Launch) (hR : Ty g R) (k0 : kd g a0 = 12) {r : Int32} (h : pX12_whyBind R T a0 x1 = some r) : MI l g yX12_whyBind cX12_whyBind 2 (some .int) rmX12_whyBind [.ref (g.2.2.1 a0), .int x1] R T r R T := by
  refine z_metI (own := RX12) (lv := [some (.ref (g.2.2.1 a0)), some (.int x1)]) (by decide +kernel) rfl rfl rfl (fun X K => ?_)
  unfold pX12_whyBind at h
  refine z_aload_n K dX12_whyBind_0 rfl ?_
  refine z_getR K clX12 k0 6 rfl rfl q1344 dX12_whyBind_1 ?_
  refine z_bipush K 82 dX12_whyBind_4 rfl ?_
  obtain ⟨hi, h⟩ := ix_e h
  refine z_iald K (hR.at (k := 6) (t := 20270) k0 rfl rfl) rfl rfl rfl hi dX12_whyBind_6 ?_
  refine z_iload_n K dX12_whyBind_7 rfl ?_
  obtain ⟨u1, hc, h⟩ := bd1_e h
  refine z_callSI K (mX12_bitOf l hR hc) ceX12_bitOf q1524 ⟨rfl, rfl, rfl, rfl⟩ rfl rfl rfl dX12_whyBind_8 ?_
  refine z_if_eq K 16 dX12_whyBind_11 (by decide) (fun c => ?_) (fun c => ?_)
  · have h := ite_t h c
    refine z_aload_n K dX12_whyBind_16 rfl ?_
    refine z_getR K clX12 k0 6 rfl rfl q1344 dX12_whyBind_17 ?_
    refine z_bipush K 81 dX12_whyBind_20 rfl ?_
    obtain ⟨hi, h⟩ := ix_e h
    refine z_iald K (hR.at (k := 6) (t := 20270) k0 rfl rfl) rfl rfl rfl hi dX12_whyBind_22 ?_
    refine z_aload_n K dX12_whyBind_23 rfl ?_
    refine z_getR K clX12 k0 6 rfl rfl q1344 dX12_whyBind_24 ?_
    refine z_bipush K 32 dX12_whyBind_27 rfl ?_
    refine z_iload_n K dX12_whyBind_29 rfl ?_
    refine z_iadd K dX12_whyBind_30 ?_
    obtain ⟨hi, h⟩ := ix_e h
    refine z_iald K (hR.at (k := 6) (t := 20270) k0 rfl rfl) rfl rfl rfl hi dX12_whyBind_31 ?_
    obtain ⟨u2, hc, h⟩ := bd1_e h
    refine z_callSI K (mX12_bitOf l hR hc) ceX12_bitOf q1524 ⟨rfl, rfl, rfl, rfl⟩ rfl rfl rfl dX12_whyBind_32 ?_
    refine z_if_eq K 60 dX12_whyBind_35 (by decide) (fun c => ?_) (fun c => ?_)
    · have h := ite_t h c
      refine z_iconst K 2 dX12_whyBind_60 rfl ?_
      obtain rfl := Option.some.inj h
      exact z_iret K dX12_whyBind_61
    · have h := ite_f h c
      refine z_aload_n K dX12_whyBind_38 rfl ?_
      refine z_getR K clX12 k0 6 rfl rfl q1344 dX12_whyBind_39 ?_
      refine z_bipush K 81 dX12_whyBind_42 rfl ?_
      obtain ⟨hi, h⟩ := ix_e h
      refine z_iald K (hR.at (k := 6) (t := 20270) k0 rfl rfl) rfl rfl rfl hi dX12_whyBind_44 ?_
      refine z_aload_n K dX12_whyBind_45 rfl ?_
      refine z_getR K clX12 k0 6 rfl rfl q1344 dX12_whyBind_46 ?_
      refine z_bipush K 48 dX12_whyBind_49 rfl ?_
      refine z_iload_n K dX12_whyBind_51 rfl ?_
      refine z_iadd K dX12_whyBind_52 ?_
      obtain ⟨hi, h⟩ := ix_e h
      refine z_iald K (hR.at (k := 6) (t := 20270) k0 rfl rfl) rfl rfl rfl hi dX12_whyBind_53 ?_
      obtain ⟨u3, hc, h⟩ := bd1_e h
      refine z_callSI K (mX12_bitOf l hR hc) ceX12_bitOf q1524 ⟨rfl, rfl, rfl, rfl⟩ rfl rfl rfl dX12_whyBind_54 ?_
      refine z_if_ne K 62 dX12_whyBind_57 (by decide) (fun c => ?_) (fun c => ?_)
      · have h := ite_f h c
        refine z_aload_n K dX12_whyBind_62 rfl ?_
        refine z_getR K clX12 k0 6 rfl rfl q1344 dX12_whyBind_63 ?_
        refine z_bipush K 84 dX12_whyBind_66 rfl ?_
        refine z_aload_n K dX12_whyBind_68 rfl ?_
        refine z_getR K clX12 k0 6 rfl rfl q1344 dX12_whyBind_69 ?_
        refine z_bipush K 12 dX12_whyBind_72 rfl ?_
        refine z_aload_n K dX12_whyBind_74 rfl ?_
        refine z_getR K clX12 k0 6 rfl rfl q1344 dX12_whyBind_75 ?_
        refine z_bipush K 32 dX12_whyBind_78 rfl ?_
        refine z_iload_n K dX12_whyBind_80 rfl ?_
        refine z_iadd K dX12_whyBind_81 ?_
        obtain ⟨hi, h⟩ := ix_e h
        refine z_iald K (hR.at (k := 6) (t := 20270) k0 rfl rfl) rfl rfl rfl hi dX12_whyBind_82 ?_
        refine z_iadd K dX12_whyBind_83 ?_
        obtain ⟨hi, h⟩ := ix_e h
        refine z_iald K (hR.at (k := 6) (t := 20270) k0 rfl rfl) rfl rfl rfl hi dX12_whyBind_84 ?_
        refine z_iadd K dX12_whyBind_85 ?_
        obtain ⟨hi, h⟩ := ix_e h
        refine z_iald K (hR.at (k := 6) (t := 20270) k0 rfl rfl) rfl rfl rfl hi dX12_whyBind_86 ?_
        refine z_if_eq K 94 dX12_whyBind_87 (by decide) (fun c => ?_) (fun c => ?_)
        · have h := ite_t h c
          refine z_iconst K 0 dX12_whyBind_94 rfl ?_
          obtain rfl := Option.some.inj h
          exact z_iret K dX12_whyBind_95
        · have h := ite_f h c
          refine z_iconst K 3 dX12_whyBind_90 rfl ?_
          refine z_goto K 95 dX12_whyBind_91 (by decide) ?_
          obtain rfl := Option.some.inj h
          exact z_iret K dX12_whyBind_95
      · have h := ite_t h c
        refine z_iconst K 2 dX12_whyBind_60 rfl ?_
        obtain rfl := Option.some.inj h
        exact z_iret K dX12_whyBind_61
  · have h := ite_f h c
    refine z_iconst K 1 dX12_whyBind_14 rfl ?_
    obtain rfl := Option.some.inj h
    exact z_iret K dX12_whyBind_15
/-! GoingOverModel.day ()V -/
abbrev rmX12_day : Room := { frames := 4, cells := 0, slots := 0, locals := 88 }
def pX12_day_13 (R : Rf) (a0 : Nat) (e47 : Mm → Option (Mm)) (r13 : Mm → Int32 → Option (Mm)) (T : Mm) (x1 : Int32) : Option (Mm) :=
  ix 0 270 (if (T.1 (R a0 6) (0 : Int32).toNatClampNeg) ≤ x1 then e47 T else ix (84 + x1) 270 (if (T.1 (R a0 6) (84 + x1).toNatClampNeg) = 1 then bd1 (pX12_hangs R T a0 x1) (fun (T3 : Mm) => lt (x1 + 1) (fun (v4 : Int32) => r13 T3 v4)) else lt (x1 + 1) (fun (v2 : Int32) => r13 T v2)))
def pX12_day_47 (R : Rf) (a0 : Nat) (T : Mm) : Option (Mm) :=
  some T
def pX12_day (R : Rf) (T : Mm) (a0 : Nat) : Option (Mm) :=
  ix 80 270 (ix 80 270 (lt (wI T (R a0 6) (80 : Int32).toNatClampNeg ((T.1 (R a0 6) (80 : Int32).toNatClampNeg) + 1)) (fun (T1 : Mm) => zl2 (pX12_day_13 R a0 (pX12_day_47 R a0)) FU T1 0)))
set_option maxRecDepth 100000 in
set_option maxHeartbeats 4000000 in
theorem wX12_day_13 {X : Cx} {g : Gl} {l : Launch} {R : Rf} {a0 : Nat} (K : Ok X g l cX12_day RX12 2 none rmX12_day) (hR : Ty g R) (k0 : kd g a0 = 12) {r : Mm} {e47 : Mm → Option (Mm)} (he47 : ∀ (T : Mm), e47 T = some r → Zj X g 2 (QV X g R r) R T [none, none] [] 47) : ∀ (n : Nat) (T : Mm) (x1 : Int32), zl2 (pX12_day_13 R a0 e47) n T x1 = some r → Zj X g 2 (QV X g R r) R T [some (.ref (g.2.2.1 a0)), some (.int x1)] [] 13 := by
  intro n
  induction n with
  | zero =>
    intro T x1 h
    exact absurd h (by simp [zl2])
  | succ n hr13 =>
    intro T x1 h
    rw [zl2_s] at h
    unfold pX12_day_13 at h
    refine z_iload_n K dX12_day_13 rfl ?_
    refine z_aload_n K dX12_day_14 rfl ?_
    refine z_getR K clX12 k0 6 rfl rfl q1344 dX12_day_15 ?_
    refine z_iconst K 0 dX12_day_18 rfl ?_
    obtain ⟨hi, h⟩ := ix_e h
    refine z_iald K (hR.at (k := 6) (t := 20270) k0 rfl rfl) rfl rfl rfl hi dX12_day_19 ?_
    refine z_icmp_ge K 47 dX12_day_20 (by decide) (fun c => ?_) (fun c => ?_)
    · have h := ite_t h c
      refine Zj.mask [false, false] ?_
      exact he47 _ h
    · have h := ite_f h c
      refine z_aload_n K dX12_day_23 rfl ?_
      refine z_getR K clX12 k0 6 rfl rfl q1344 dX12_day_24 ?_
      refine z_bipush K 84 dX12_day_27 rfl ?_
      refine z_iload_n K dX12_day_29 rfl ?_
      refine z_iadd K dX12_day_30 ?_
      obtain ⟨hi, h⟩ := ix_e h
      refine z_iald K (hR.at (k := 6) (t := 20270) k0 rfl rfl) rfl rfl rfl hi dX12_day_31 ?_
      refine z_iconst K 1 dX12_day_32 rfl ?_
      refine z_icmp_ne K 41 dX12_day_33 (by decide) (fun c => ?_) (fun c => ?_)
      · have h := ite_f h c
        refine z_iinc K 1 dX12_day_41 rfl rfl rfl rfl ?_
        refine z_goto K 13 dX12_day_44 (by decide) ?_
        refine Zj.mask [true, true] ?_
        exact hr13 _ _ h
      · have h := ite_t h c
        refine z_aload_n K dX12_day_36 rfl ?_
        refine z_iload_n K dX12_day_37 rfl ?_
        obtain ⟨T3, hc, h⟩ := bd1_e h
        refine z_callVV K (mX12_hangs l hR k0 hc) clX12 k0 ceX12_hangs q1673 ⟨rfl, rfl, rfl, rfl⟩ rfl rfl rfl dX12_day_38 ?_
        refine z_iinc K 1 dX12_day_41 rfl rfl rfl rfl ?_
        refine z_goto K 13 dX12_day_44 (by decide) ?_
        refine Zj.mask [true, true] ?_
        exact hr13 _ _ h
set_option maxRecDepth 100000 in
set_option maxHeartbeats 4000000 in
theorem wX12_day_47 {X : Cx} {g : Gl} {l : Launch} {R : Rf} {a0 : Nat} (K : Ok X g l cX12_day RX12 2 none rmX12_day) (hR : Ty g R) (k0 : kd g a0 = 12) {r : Mm} (T : Mm) (h : pX12_day_47 R a0 T = some r) : Zj X g 2 (QV X g R r) R T [none, none] [] 47 := by
  unfold pX12_day_47 at h
  obtain rfl := Option.some.inj h
  exact z_vret K dX12_day_47
set_option maxRecDepth 100000 in
set_option maxHeartbeats 4000000 in
theorem mX12_day {g : Gl} {R : Rf} {T : Mm} {a0 : Nat} (l : Launch) (hR : Ty g R) (k0 : kd g a0 = 12) {r : Mm} (h : pX12_day R T a0 = some r) : MV l g yX12_day cX12_day 2 none rmX12_day [.ref (g.2.2.1 a0)] R T R r := by
  refine z_metV (own := RX12) (lv := [some (.ref (g.2.2.1 a0)), none]) (by decide +kernel) rfl rfl rfl (fun X K => ?_)
  unfold pX12_day at h
  refine z_aload_n K dX12_day_0 rfl ?_
  refine z_getR K clX12 k0 6 rfl rfl q1344 dX12_day_1 ?_
  refine z_bipush K 80 dX12_day_4 rfl ?_
  refine z_dup2 K dX12_day_6 rfl rfl ?_
  obtain ⟨hi, h⟩ := ix_e h
  refine z_iald K (hR.at (k := 6) (t := 20270) k0 rfl rfl) rfl rfl rfl hi dX12_day_7 ?_
  refine z_iconst K 1 dX12_day_8 rfl ?_
  refine z_iadd K dX12_day_9 ?_
  obtain ⟨hi, h⟩ := ix_e h
  refine z_iast K (hR.at (k := 6) (t := 20270) k0 rfl rfl) rfl rfl rfl hi dX12_day_10 ?_
  refine z_iconst K 0 dX12_day_11 rfl ?_
  refine z_istore_n K dX12_day_12 rfl rfl ?_
  refine Zj.mask [true, true] ?_
  exact wX12_day_13 K hR k0 (wX12_day_47 K hR k0) FU _ _ h
/-! GoingOverModel.goesOn (I)I -/
abbrev rmX12_goesOn : Room := { frames := 5, cells := 0, slots := 0, locals := 109 }
def pX12_goesOn_2 (R : Rf) (a0 : Nat) (x1 : Int32) (e30 : Mm → Int32 → Option (Int32 × Mm)) (r2 : Mm → Int32 → Option (Int32 × Mm)) (T : Mm) (x2 : Int32) : Option (Int32 × Mm) :=
  if x1 ≤ x2 then e30 T x2 else ix 80 270 (if 400 ≤ (T.1 (R a0 6) (80 : Int32).toNatClampNeg) then e30 T x2 else bd1 (pX12_day R T a0) (fun (T1 : Mm) => lt (x2 + 1) (fun (v2 : Int32) => r2 T1 v2)))
def pX12_goesOn_30 (R : Rf) (a0 : Nat) (x1 : Int32) (T : Mm) (x2 : Int32) : Option (Int32 × Mm) :=
  some (x2, T)
def pX12_goesOn (R : Rf) (T : Mm) (a0 : Nat) (x1 : Int32) : Option (Int32 × Mm) :=
  zl2 (pX12_goesOn_2 R a0 x1 (pX12_goesOn_30 R a0 x1)) FU T 0
set_option maxRecDepth 100000 in
set_option maxHeartbeats 4000000 in
theorem wX12_goesOn_2 {X : Cx} {g : Gl} {l : Launch} {R : Rf} {a0 : Nat} {x1 : Int32} (K : Ok X g l cX12_goesOn RX12 3 (some .int) rmX12_goesOn) (hR : Ty g R) (k0 : kd g a0 = 12) {r : Int32 × Mm} {e30 : Mm → Int32 → Option (Int32 × Mm)} (he30 : ∀ (T : Mm) (x2 : Int32), e30 T x2 = some r → Zj X g 3 (QI X g r.1 R r.2) R T [none, none, some (.int x2)] [] 30) : ∀ (n : Nat) (T : Mm) (x2 : Int32), zl2 (pX12_goesOn_2 R a0 x1 e30) n T x2 = some r → Zj X g 3 (QI X g r.1 R r.2) R T [some (.ref (g.2.2.1 a0)), some (.int x1), some (.int x2)] [] 2 := by
  intro n
  induction n with
  | zero =>
    intro T x2 h
    exact absurd h (by simp [zl2])
  | succ n hr2 =>
    intro T x2 h
    rw [zl2_s] at h
    unfold pX12_goesOn_2 at h
    refine z_iload_n K dX12_goesOn_2 rfl ?_
    refine z_iload_n K dX12_goesOn_3 rfl ?_
    refine z_icmp_ge K 30 dX12_goesOn_4 (by decide) (fun c => ?_) (fun c => ?_)
    · have h := ite_t h c
      refine Zj.mask [false, false, true] ?_
      exact he30 _ _ h
    · have h := ite_f h c
      refine z_aload_n K dX12_goesOn_7 rfl ?_
      refine z_getR K clX12 k0 6 rfl rfl q1344 dX12_goesOn_8 ?_
      refine z_bipush K 80 dX12_goesOn_11 rfl ?_
      obtain ⟨hi, h⟩ := ix_e h
      refine z_iald K (hR.at (k := 6) (t := 20270) k0 rfl rfl) rfl rfl rfl hi dX12_goesOn_13 ?_
      refine z_sipush K 400 dX12_goesOn_14 rfl ?_
      refine z_icmp_ge K 30 dX12_goesOn_17 (by decide) (fun c => ?_) (fun c => ?_)
      · have h := ite_t h c
        refine Zj.mask [false, false, true] ?_
        exact he30 _ _ h
      · have h := ite_f h c
        refine z_aload_n K dX12_goesOn_20 rfl ?_
        obtain ⟨T1, hc, h⟩ := bd1_e h
        refine z_callVV K (mX12_day l hR k0 hc) clX12 k0 ceX12_day q1729 ⟨rfl, rfl, rfl, rfl⟩ rfl rfl rfl dX12_goesOn_21 ?_
        refine z_iinc K 1 dX12_goesOn_24 rfl rfl rfl rfl ?_
        refine z_goto K 2 dX12_goesOn_27 (by decide) ?_
        refine Zj.mask [true, true, true] ?_
        exact hr2 _ _ h
set_option maxRecDepth 100000 in
set_option maxHeartbeats 4000000 in
theorem wX12_goesOn_30 {X : Cx} {g : Gl} {l : Launch} {R : Rf} {a0 : Nat} {x1 : Int32} (K : Ok X g l cX12_goesOn RX12 3 (some .int) rmX12_goesOn) (hR : Ty g R) (k0 : kd g a0 = 12) {r : Int32 × Mm} (T : Mm) (x2 : Int32) (h : pX12_goesOn_30 R a0 x1 T x2 = some r) : Zj X g 3 (QI X g r.1 R r.2) R T [none, none, some (.int x2)] [] 30 := by
  unfold pX12_goesOn_30 at h
  refine z_iload_n K dX12_goesOn_30 rfl ?_
  obtain rfl := Option.some.inj h
  exact z_iret K dX12_goesOn_31
set_option maxRecDepth 100000 in
set_option maxHeartbeats 4000000 in
theorem mX12_goesOn {g : Gl} {R : Rf} {T : Mm} {a0 : Nat} {x1 : Int32} (l : Launch) (hR : Ty g R) (k0 : kd g a0 = 12) {r : Int32 × Mm} (h : pX12_goesOn R T a0 x1 = some r) : MI l g yX12_goesOn cX12_goesOn 3 (some .int) rmX12_goesOn [.ref (g.2.2.1 a0), .int x1] R T r.1 R r.2 := by
  refine z_metI (own := RX12) (lv := [some (.ref (g.2.2.1 a0)), some (.int x1), none]) (by decide +kernel) rfl rfl rfl (fun X K => ?_)
  unfold pX12_goesOn at h
  refine z_iconst K 0 dX12_goesOn_0 rfl ?_
  refine z_istore_n K dX12_goesOn_1 rfl rfl ?_
  refine Zj.mask [true, true, true] ?_
  exact wX12_goesOn_2 K hR k0 (wX12_goesOn_30 K hR k0) FU _ _ h
/-! GoingOverModel.stores ()V -/
abbrev rmX12_stores : Room := { frames := 0, cells := 0, slots := 0, locals := 0 }
def pX12_stores_46 (R : Rf) (a0 : Nat) (e81 : Mm → Option (Mm)) (r46 : Mm → Int32 → Option (Mm)) (T : Mm) (x1 : Int32) : Option (Mm) :=
  if 9 ≤ x1 then e81 T else ix (80 + x1) 270 (ix ((9 * (T.1 a0 23)) + x1) 72 (lt (wI T (R a0 21) ((9 * (T.1 a0 23)) + x1).toNatClampNeg (T.1 (R a0 6) (80 + x1).toNatClampNeg)) (fun (T1 : Mm) => lt (x1 + 1) (fun (v2 : Int32) => r46 T1 v2))))
def pX12_stores_81 (R : Rf) (a0 : Nat) (T : Mm) : Option (Mm) :=
  lt (wI T a0 23 ((T.1 a0 23) + 1)) (fun (T3 : Mm) => some T3)
def pX12_stores_11 (R : Rf) (a0 : Nat) (e38 : Mm → Option (Mm)) (r11 : Mm → Int32 → Option (Mm)) (T : Mm) (x1 : Int32) : Option (Mm) :=
  if 63 ≤ x1 then e38 T else ix (x1 + 9) 72 (ix x1 72 (lt (wI T (R a0 21) x1.toNatClampNeg (T.1 (R a0 21) (x1 + 9).toNatClampNeg)) (fun (T4 : Mm) => lt (x1 + 1) (fun (v5 : Int32) => r11 T4 v5))))
def pX12_stores_38 (R : Rf) (a0 : Nat) (T : Mm) : Option (Mm) :=
  lt (wI T a0 23 7) (fun (T6 : Mm) => zl2 (pX12_stores_46 R a0 (pX12_stores_81 R a0)) FU T6 0)
def pX12_stores (R : Rf) (T : Mm) (a0 : Nat) : Option (Mm) :=
  if (T.1 a0 23) = 8 then zl2 (pX12_stores_11 R a0 (pX12_stores_38 R a0)) FU T 0 else zl2 (pX12_stores_46 R a0 (pX12_stores_81 R a0)) FU T 0
set_option maxRecDepth 100000 in
set_option maxHeartbeats 4000000 in
theorem wX12_stores_46 {X : Cx} {g : Gl} {l : Launch} {R : Rf} {a0 : Nat} (K : Ok X g l cX12_stores RX12 2 none rmX12_stores) (hR : Ty g R) (k0 : kd g a0 = 12) {r : Mm} {e81 : Mm → Option (Mm)} (he81 : ∀ (T : Mm), e81 T = some r → Zj X g 2 (QV X g R r) R T [some (.ref (g.2.2.1 a0)), none] [] 81) : ∀ (n : Nat) (T : Mm) (x1 : Int32), zl2 (pX12_stores_46 R a0 e81) n T x1 = some r → Zj X g 2 (QV X g R r) R T [some (.ref (g.2.2.1 a0)), some (.int x1)] [] 46 := by
  intro n
  induction n with
  | zero =>
    intro T x1 h
    exact absurd h (by simp [zl2])
  | succ n hr46 =>
    intro T x1 h
    rw [zl2_s] at h
    unfold pX12_stores_46 at h
    refine z_iload_n K dX12_stores_46 rfl ?_
    refine z_bipush K 9 dX12_stores_47 rfl ?_
    refine z_icmp_ge K 81 dX12_stores_49 (by decide) (fun c => ?_) (fun c => ?_)
    · have h := ite_t h c
      refine Zj.mask [true, false] ?_
      exact he81 _ h
    · have h := ite_f h c
      refine z_aload_n K dX12_stores_52 rfl ?_
      refine z_getR K clX12 k0 21 rfl rfl q1359 dX12_stores_53 ?_
      refine z_bipush K 9 dX12_stores_56 rfl ?_
      refine z_aload_n K dX12_stores_58 rfl ?_
      refine z_getI K clX12 k0 23 rfl rfl q1361 dX12_stores_59 ?_
      refine z_imul K dX12_stores_62 ?_
      refine z_iload_n K dX12_stores_63 rfl ?_
      refine z_iadd K dX12_stores_64 ?_
      refine z_aload_n K dX12_stores_65 rfl ?_
      refine z_getR K clX12 k0 6 rfl rfl q1344 dX12_stores_66 ?_
      refine z_bipush K 80 dX12_stores_69 rfl ?_
      refine z_iload_n K dX12_stores_71 rfl ?_
      refine z_iadd K dX12_stores_72 ?_
      obtain ⟨hi, h⟩ := ix_e h
      refine z_iald K (hR.at (k := 6) (t := 20270) k0 rfl rfl) rfl rfl rfl hi dX12_stores_73 ?_
      obtain ⟨hi, h⟩ := ix_e h
      refine z_iast K (hR.at (k := 21) (t := 20072) k0 rfl rfl) rfl rfl rfl hi dX12_stores_74 ?_
      refine z_iinc K 1 dX12_stores_75 rfl rfl rfl rfl ?_
      refine z_goto K 46 dX12_stores_78 (by decide) ?_
      refine Zj.mask [true, true] ?_
      exact hr46 _ _ h
set_option maxRecDepth 100000 in
set_option maxHeartbeats 4000000 in
theorem wX12_stores_81 {X : Cx} {g : Gl} {l : Launch} {R : Rf} {a0 : Nat} (K : Ok X g l cX12_stores RX12 2 none rmX12_stores) (hR : Ty g R) (k0 : kd g a0 = 12) {r : Mm} (T : Mm) (h : pX12_stores_81 R a0 T = some r) : Zj X g 2 (QV X g R r) R T [some (.ref (g.2.2.1 a0)), none] [] 81 := by
  unfold pX12_stores_81 at h
  refine z_aload_n K dX12_stores_81 rfl ?_
  refine z_dup K dX12_stores_82 rfl ?_
  refine z_getI K clX12 k0 23 rfl rfl q1361 dX12_stores_83 ?_
  refine z_iconst K 1 dX12_stores_86 rfl ?_
  refine z_iadd K dX12_stores_87 ?_
  refine z_putI K clX12 tyX12_ok nmX12 k0 23 rfl rfl q1361 rfl rfl rfl dX12_stores_88 ?_
  obtain rfl := Option.some.inj h
  exact z_vret K dX12_stores_91
set_option maxRecDepth 100000 in
set_option maxHeartbeats 4000000 in
theorem wX12_stores_11 {X : Cx} {g : Gl} {l : Launch} {R : Rf} {a0 : Nat} (K : Ok X g l cX12_stores RX12 2 none rmX12_stores) (hR : Ty g R) (k0 : kd g a0 = 12) {r : Mm} {e38 : Mm → Option (Mm)} (he38 : ∀ (T : Mm), e38 T = some r → Zj X g 2 (QV X g R r) R T [some (.ref (g.2.2.1 a0)), none] [] 38) : ∀ (n : Nat) (T : Mm) (x1 : Int32), zl2 (pX12_stores_11 R a0 e38) n T x1 = some r → Zj X g 2 (QV X g R r) R T [some (.ref (g.2.2.1 a0)), some (.int x1)] [] 11 := by
  intro n
  induction n with
  | zero =>
    intro T x1 h
    exact absurd h (by simp [zl2])
  | succ n hr11 =>
    intro T x1 h
    rw [zl2_s] at h
    unfold pX12_stores_11 at h
    refine z_iload_n K dX12_stores_11 rfl ?_
    refine z_bipush K 63 dX12_stores_12 rfl ?_
    refine z_icmp_ge K 38 dX12_stores_14 (by decide) (fun c => ?_) (fun c => ?_)
    · have h := ite_t h c
      refine Zj.mask [true, false] ?_
      exact he38 _ h
    · have h := ite_f h c
      refine z_aload_n K dX12_stores_17 rfl ?_
      refine z_getR K clX12 k0 21 rfl rfl q1359 dX12_stores_18 ?_
      refine z_iload_n K dX12_stores_21 rfl ?_
      refine z_aload_n K dX12_stores_22 rfl ?_
      refine z_getR K clX12 k0 21 rfl rfl q1359 dX12_stores_23 ?_
      refine z_iload_n K dX12_stores_26 rfl ?_
      refine z_bipush K 9 dX12_stores_27 rfl ?_
      refine z_iadd K dX12_stores_29 ?_
      obtain ⟨hi, h⟩ := ix_e h
      refine z_iald K (hR.at (k := 21) (t := 20072) k0 rfl rfl) rfl rfl rfl hi dX12_stores_30 ?_
      obtain ⟨hi, h⟩ := ix_e h
      refine z_iast K (hR.at (k := 21) (t := 20072) k0 rfl rfl) rfl rfl rfl hi dX12_stores_31 ?_
      refine z_iinc K 1 dX12_stores_32 rfl rfl rfl rfl ?_
      refine z_goto K 11 dX12_stores_35 (by decide) ?_
      refine Zj.mask [true, true] ?_
      exact hr11 _ _ h
set_option maxRecDepth 100000 in
set_option maxHeartbeats 4000000 in
theorem wX12_stores_38 {X : Cx} {g : Gl} {l : Launch} {R : Rf} {a0 : Nat} (K : Ok X g l cX12_stores RX12 2 none rmX12_stores) (hR : Ty g R) (k0 : kd g a0 = 12) {r : Mm} (T : Mm) (h : pX12_stores_38 R a0 T = some r) : Zj X g 2 (QV X g R r) R T [some (.ref (g.2.2.1 a0)), none] [] 38 := by
  unfold pX12_stores_38 at h
  refine z_aload_n K dX12_stores_38 rfl ?_
  refine z_bipush K 7 dX12_stores_39 rfl ?_
  refine z_putI K clX12 tyX12_ok nmX12 k0 23 rfl rfl q1361 rfl rfl rfl dX12_stores_41 ?_
  refine z_iconst K 0 dX12_stores_44 rfl ?_
  refine z_istore_n K dX12_stores_45 rfl rfl ?_
  refine Zj.mask [true, true] ?_
  exact wX12_stores_46 K hR k0 (wX12_stores_81 K hR k0) FU _ _ h
set_option maxRecDepth 100000 in
set_option maxHeartbeats 4000000 in
theorem mX12_stores {g : Gl} {R : Rf} {T : Mm} {a0 : Nat} (l : Launch) (hR : Ty g R) (k0 : kd g a0 = 12) {r : Mm} (h : pX12_stores R T a0 = some r) : MV l g yX12_stores cX12_stores 2 none rmX12_stores [.ref (g.2.2.1 a0)] R T R r := by
  refine z_metV (own := RX12) (lv := [some (.ref (g.2.2.1 a0)), none]) (by decide +kernel) rfl rfl rfl (fun X K => ?_)
  unfold pX12_stores at h
  refine z_aload_n K dX12_stores_0 rfl ?_
  refine z_getI K clX12 k0 23 rfl rfl q1361 dX12_stores_1 ?_
  refine z_bipush K 8 dX12_stores_4 rfl ?_
  refine z_icmp_ne K 44 dX12_stores_6 (by decide) (fun c => ?_) (fun c => ?_)
  · have h := ite_f h c
    refine z_iconst K 0 dX12_stores_44 rfl ?_
    refine z_istore_n K dX12_stores_45 rfl rfl ?_
    refine Zj.mask [true, true] ?_
    exact wX12_stores_46 K hR k0 (wX12_stores_81 K hR k0) FU _ _ h
  · have h := ite_t h c
    refine z_iconst K 0 dX12_stores_9 rfl ?_
    refine z_istore_n K dX12_stores_10 rfl rfl ?_
    refine Zj.mask [true, true] ?_
    exact wX12_stores_11 K hR k0 (wX12_stores_38 K hR k0) FU _ _ h
/-! GoingOverModel.go (I)I -/
abbrev rmX12_go : Room := { frames := 4, cells := 0, slots := 0, locals := 88 }
def pX12_go (R : Rf) (T : Mm) (a0 : Nat) (x1 : Int32) : Option (Int32 × Mm) :=
  lt (wI T a0 0 0) (fun (T1 : Mm) => bd1 (pX12_isPerson R T1 a0 x1) (fun (u2 : Int32) => if u2 = 0 then some ((-1), T1) else ix (84 + x1) 270 (if (T1.1 (R a0 6) (84 + x1).toNatClampNeg) = 0 then bd1 (pX12_stores R T1 a0) (fun (T3 : Mm) => bd1 (pX12_hangs R T3 a0 x1) (fun (T4 : Mm) => some (0, T4))) else some (1, T1))))
set_option maxRecDepth 100000 in
set_option maxHeartbeats 4000000 in
theorem mX12_go {g : Gl} {R : Rf} {T : Mm} {a0 : Nat} {x1 : Int32} (l : Launch) (hR : Ty g R) (k0 : kd g a0 = 12) {r : Int32 × Mm} (h : pX12_go R T a0 x1 = some r) : MI l g yX12_go cX12_go 2 (some .int) rmX12_go [.ref (g.2.2.1 a0), .int x1] R T r.1 R r.2 := by
  refine z_metI (own := RX12) (lv := [some (.ref (g.2.2.1 a0)), some (.int x1)]) (by decide +kernel) rfl rfl rfl (fun X K => ?_)
  unfold pX12_go at h
  refine z_aload_n K dX12_go_0 rfl ?_
  refine z_iconst K 0 dX12_go_1 rfl ?_
  refine z_putI K clX12 tyX12_ok nmX12 k0 0 rfl rfl q1338 rfl rfl rfl dX12_go_2 ?_
  refine z_aload_n K dX12_go_5 rfl ?_
  refine z_iload_n K dX12_go_6 rfl ?_
  obtain ⟨u2, hc, h⟩ := bd1_e h
  refine z_callVI K (mX12_isPerson l hR k0 hc) clX12 k0 ceX12_isPerson q1590 ⟨rfl, rfl, rfl, rfl⟩ rfl rfl rfl dX12_go_7 ?_
  refine z_if_ne K 15 dX12_go_10 (by decide) (fun c => ?_) (fun c => ?_)
  · have h := ite_f h c
    refine z_aload_n K dX12_go_15 rfl ?_
    refine z_getR K clX12 k0 6 rfl rfl q1344 dX12_go_16 ?_
    refine z_bipush K 84 dX12_go_19 rfl ?_
    refine z_iload_n K dX12_go_21 rfl ?_
    refine z_iadd K dX12_go_22 ?_
    obtain ⟨hi, h⟩ := ix_e h
    refine z_iald K (hR.at (k := 6) (t := 20270) k0 rfl rfl) rfl rfl rfl hi dX12_go_23 ?_
    refine z_if_eq K 29 dX12_go_24 (by decide) (fun c => ?_) (fun c => ?_)
    · have h := ite_t h c
      refine z_aload_n K dX12_go_29 rfl ?_
      obtain ⟨T3, hc, h⟩ := bd1_e h
      refine z_callVV K (mX12_stores l hR k0 hc) clX12 k0 ceX12_stores q1669 ⟨rfl, rfl, rfl, rfl⟩ rfl rfl rfl dX12_go_30 ?_
      refine z_aload_n K dX12_go_33 rfl ?_
      refine z_iload_n K dX12_go_34 rfl ?_
      obtain ⟨T4, hc, h⟩ := bd1_e h
      refine z_callVV K (mX12_hangs l hR k0 hc) clX12 k0 ceX12_hangs q1673 ⟨rfl, rfl, rfl, rfl⟩ rfl rfl rfl dX12_go_35 ?_
      refine z_iconst K 0 dX12_go_38 rfl ?_
      obtain rfl := Option.some.inj h
      exact z_iret K dX12_go_39
    · have h := ite_f h c
      refine z_iconst K 1 dX12_go_27 rfl ?_
      obtain rfl := Option.some.inj h
      exact z_iret K dX12_go_28
  · have h := ite_t h c
    refine z_iconst K (-1) dX12_go_13 rfl ?_
    obtain rfl := Option.some.inj h
    exact z_iret K dX12_go_14
/-! GoingOverModel.free (I)I -/
abbrev rmX12_free : Room := { frames := 2, cells := 0, slots := 0, locals := 43 }
def pX12_free (R : Rf) (T : Mm) (a0 : Nat) (x1 : Int32) : Option (Int32 × Mm) :=
  lt (wI T a0 0 0) (fun (T1 : Mm) => bd1 (pX12_isPerson R T1 a0 x1) (fun (u2 : Int32) => if u2 = 0 then some ((-1), T1) else ix (84 + x1) 270 (if (T1.1 (R a0 6) (84 + x1).toNatClampNeg) = 2 then bd1 (pX12_stores R T1 a0) (fun (T3 : Mm) => ix (84 + x1) 270 (lt (wI T3 (R a0 6) (84 + x1).toNatClampNeg 3) (fun (T4 : Mm) => some (0, T4)))) else some (1, T1))))
set_option maxRecDepth 100000 in
set_option maxHeartbeats 4000000 in
theorem mX12_free {g : Gl} {R : Rf} {T : Mm} {a0 : Nat} {x1 : Int32} (l : Launch) (hR : Ty g R) (k0 : kd g a0 = 12) {r : Int32 × Mm} (h : pX12_free R T a0 x1 = some r) : MI l g yX12_free cX12_free 2 (some .int) rmX12_free [.ref (g.2.2.1 a0), .int x1] R T r.1 R r.2 := by
  refine z_metI (own := RX12) (lv := [some (.ref (g.2.2.1 a0)), some (.int x1)]) (by decide +kernel) rfl rfl rfl (fun X K => ?_)
  unfold pX12_free at h
  refine z_aload_n K dX12_free_0 rfl ?_
  refine z_iconst K 0 dX12_free_1 rfl ?_
  refine z_putI K clX12 tyX12_ok nmX12 k0 0 rfl rfl q1338 rfl rfl rfl dX12_free_2 ?_
  refine z_aload_n K dX12_free_5 rfl ?_
  refine z_iload_n K dX12_free_6 rfl ?_
  obtain ⟨u2, hc, h⟩ := bd1_e h
  refine z_callVI K (mX12_isPerson l hR k0 hc) clX12 k0 ceX12_isPerson q1590 ⟨rfl, rfl, rfl, rfl⟩ rfl rfl rfl dX12_free_7 ?_
  refine z_if_ne K 15 dX12_free_10 (by decide) (fun c => ?_) (fun c => ?_)
  · have h := ite_f h c
    refine z_aload_n K dX12_free_15 rfl ?_
    refine z_getR K clX12 k0 6 rfl rfl q1344 dX12_free_16 ?_
    refine z_bipush K 84 dX12_free_19 rfl ?_
    refine z_iload_n K dX12_free_21 rfl ?_
    refine z_iadd K dX12_free_22 ?_
    obtain ⟨hi, h⟩ := ix_e h
    refine z_iald K (hR.at (k := 6) (t := 20270) k0 rfl rfl) rfl rfl rfl hi dX12_free_23 ?_
    refine z_iconst K 2 dX12_free_24 rfl ?_
    refine z_icmp_eq K 30 dX12_free_25 (by decide) (fun c => ?_) (fun c => ?_)
    · have h := ite_t h c
      refine z_aload_n K dX12_free_30 rfl ?_
      obtain ⟨T3, hc, h⟩ := bd1_e h
      refine z_callVV K (mX12_stores l hR k0 hc) clX12 k0 ceX12_stores q1669 ⟨rfl, rfl, rfl, rfl⟩ rfl rfl rfl dX12_free_31 ?_
      refine z_aload_n K dX12_free_34 rfl ?_
      refine z_getR K clX12 k0 6 rfl rfl q1344 dX12_free_35 ?_
      refine z_bipush K 84 dX12_free_38 rfl ?_
      refine z_iload_n K dX12_free_40 rfl ?_
      refine z_iadd K dX12_free_41 ?_
      refine z_iconst K 3 dX12_free_42 rfl ?_
      obtain ⟨hi, h⟩ := ix_e h
      refine z_iast K (hR.at (k := 6) (t := 20270) k0 rfl rfl) rfl rfl rfl hi dX12_free_43 ?_
      refine z_iconst K 0 dX12_free_44 rfl ?_
      obtain rfl := Option.some.inj h
      exact z_iret K dX12_free_45
    · have h := ite_f h c
      refine z_iconst K 1 dX12_free_28 rfl ?_
      obtain rfl := Option.some.inj h
      exact z_iret K dX12_free_29
  · have h := ite_t h c
    refine z_iconst K (-1) dX12_free_13 rfl ?_
    obtain rfl := Option.some.inj h
    exact z_iret K dX12_free_14
/-! GoingOverModel.unload (I)I -/
abbrev rmX12_unload : Room := { frames := 5, cells := 0, slots := 0, locals := 110 }
def pX12_unload (R : Rf) (T : Mm) (a0 : Nat) (x1 : Int32) : Option (Int32 × Mm) :=
  lt (wI T a0 0 0) (fun (T1 : Mm) => bd1 (pX12_isItem R T1 a0 x1) (fun (u2 : Int32) => if u2 = 0 then some ((-1), T1) else bd1 (pX12_whyUnload R T1 a0 x1) (fun (u3 : Int32) => if u3 ≤ 0 then bd1 (pX12_stores R T1 a0) (fun (T4 : Mm) => bd1 (pX12_takesOut R T4 a0 x1) (fun (T5 : Mm) => some (0, T5))) else some (u3, T1))))
set_option maxRecDepth 100000 in
set_option maxHeartbeats 4000000 in
theorem mX12_unload {g : Gl} {R : Rf} {T : Mm} {a0 : Nat} {x1 : Int32} (l : Launch) (hR : Ty g R) (k0 : kd g a0 = 12) {r : Int32 × Mm} (h : pX12_unload R T a0 x1 = some r) : MI l g yX12_unload cX12_unload 3 (some .int) rmX12_unload [.ref (g.2.2.1 a0), .int x1] R T r.1 R r.2 := by
  refine z_metI (own := RX12) (lv := [some (.ref (g.2.2.1 a0)), some (.int x1), none]) (by decide +kernel) rfl rfl rfl (fun X K => ?_)
  unfold pX12_unload at h
  refine z_aload_n K dX12_unload_0 rfl ?_
  refine z_iconst K 0 dX12_unload_1 rfl ?_
  refine z_putI K clX12 tyX12_ok nmX12 k0 0 rfl rfl q1338 rfl rfl rfl dX12_unload_2 ?_
  refine z_aload_n K dX12_unload_5 rfl ?_
  refine z_iload_n K dX12_unload_6 rfl ?_
  obtain ⟨u2, hc, h⟩ := bd1_e h
  refine z_callVI K (mX12_isItem l hR k0 hc) clX12 k0 ceX12_isItem q1633 ⟨rfl, rfl, rfl, rfl⟩ rfl rfl rfl dX12_unload_7 ?_
  refine z_if_ne K 15 dX12_unload_10 (by decide) (fun c => ?_) (fun c => ?_)
  · have h := ite_f h c
    refine z_aload_n K dX12_unload_15 rfl ?_
    refine z_iload_n K dX12_unload_16 rfl ?_
    obtain ⟨u3, hc, h⟩ := bd1_e h
    refine z_callVI K (mX12_whyUnload l hR k0 hc) clX12 k0 ceX12_whyUnload q1693 ⟨rfl, rfl, rfl, rfl⟩ rfl rfl rfl dX12_unload_17 ?_
    refine z_istore_n K dX12_unload_20 rfl rfl ?_
    refine z_iload_n K dX12_unload_21 rfl ?_
    refine z_if_le K 27 dX12_unload_22 (by decide) (fun c => ?_) (fun c => ?_)
    · have h := ite_t h c
      refine z_aload_n K dX12_unload_27 rfl ?_
      obtain ⟨T4, hc, h⟩ := bd1_e h
      refine z_callVV K (mX12_stores l hR k0 hc) clX12 k0 ceX12_stores q1669 ⟨rfl, rfl, rfl, rfl⟩ rfl rfl rfl dX12_unload_28 ?_
      refine z_aload_n K dX12_unload_31 rfl ?_
      refine z_iload_n K dX12_unload_32 rfl ?_
      obtain ⟨T5, hc, h⟩ := bd1_e h
      refine z_callVV K (mX12_takesOut l hR k0 hc) clX12 k0 ceX12_takesOut q1701 ⟨rfl, rfl, rfl, rfl⟩ rfl rfl rfl dX12_unload_33 ?_
      refine z_iconst K 0 dX12_unload_36 rfl ?_
      obtain rfl := Option.some.inj h
      exact z_iret K dX12_unload_37
    · have h := ite_f h c
      refine z_iload_n K dX12_unload_25 rfl ?_
      obtain rfl := Option.some.inj h
      exact z_iret K dX12_unload_26
  · have h := ite_t h c
    refine z_iconst K (-1) dX12_unload_13 rfl ?_
    obtain rfl := Option.some.inj h
    exact z_iret K dX12_unload_14
/-! GoingOverModel.load (I)I -/
abbrev rmX12_load : Room := { frames := 2, cells := 0, slots := 0, locals := 43 }
def pX12_load (R : Rf) (T : Mm) (a0 : Nat) (x1 : Int32) : Option (Int32 × Mm) :=
  lt (wI T a0 0 0) (fun (T1 : Mm) => bd1 (pX12_isItem R T1 a0 x1) (fun (u2 : Int32) => if u2 = 0 then some ((-1), T1) else bd1 (pX12_whyLoad R T1 a0 x1) (fun (u3 : Int32) => if u3 ≤ 0 then bd1 (pX12_stores R T1 a0) (fun (T4 : Mm) => ix 81 270 (ix 81 270 (lt (wI T4 (R a0 6) (81 : Int32).toNatClampNeg ((T4.1 (R a0 6) (81 : Int32).toNatClampNeg) ||| (1 <<< (x1 &&& 31)))) (fun (T5 : Mm) => some (0, T5))))) else some (u3, T1))))
set_option maxRecDepth 100000 in
set_option maxHeartbeats 4000000 in
theorem mX12_load {g : Gl} {R : Rf} {T : Mm} {a0 : Nat} {x1 : Int32} (l : Launch) (hR : Ty g R) (k0 : kd g a0 = 12) {r : Int32 × Mm} (h : pX12_load R T a0 x1 = some r) : MI l g yX12_load cX12_load 3 (some .int) rmX12_load [.ref (g.2.2.1 a0), .int x1] R T r.1 R r.2 := by
  refine z_metI (own := RX12) (lv := [some (.ref (g.2.2.1 a0)), some (.int x1), none]) (by decide +kernel) rfl rfl rfl (fun X K => ?_)
  unfold pX12_load at h
  refine z_aload_n K dX12_load_0 rfl ?_
  refine z_iconst K 0 dX12_load_1 rfl ?_
  refine z_putI K clX12 tyX12_ok nmX12 k0 0 rfl rfl q1338 rfl rfl rfl dX12_load_2 ?_
  refine z_aload_n K dX12_load_5 rfl ?_
  refine z_iload_n K dX12_load_6 rfl ?_
  obtain ⟨u2, hc, h⟩ := bd1_e h
  refine z_callVI K (mX12_isItem l hR k0 hc) clX12 k0 ceX12_isItem q1633 ⟨rfl, rfl, rfl, rfl⟩ rfl rfl rfl dX12_load_7 ?_
  refine z_if_ne K 15 dX12_load_10 (by decide) (fun c => ?_) (fun c => ?_)
  · have h := ite_f h c
    refine z_aload_n K dX12_load_15 rfl ?_
    refine z_iload_n K dX12_load_16 rfl ?_
    obtain ⟨u3, hc, h⟩ := bd1_e h
    refine z_callVI K (mX12_whyLoad l hR k0 hc) clX12 k0 ceX12_whyLoad q1709 ⟨rfl, rfl, rfl, rfl⟩ rfl rfl rfl dX12_load_17 ?_
    refine z_istore_n K dX12_load_20 rfl rfl ?_
    refine z_iload_n K dX12_load_21 rfl ?_
    refine z_if_le K 27 dX12_load_22 (by decide) (fun c => ?_) (fun c => ?_)
    · have h := ite_t h c
      refine z_aload_n K dX12_load_27 rfl ?_
      obtain ⟨T4, hc, h⟩ := bd1_e h
      refine z_callVV K (mX12_stores l hR k0 hc) clX12 k0 ceX12_stores q1669 ⟨rfl, rfl, rfl, rfl⟩ rfl rfl rfl dX12_load_28 ?_
      refine z_aload_n K dX12_load_31 rfl ?_
      refine z_getR K clX12 k0 6 rfl rfl q1344 dX12_load_32 ?_
      refine z_bipush K 81 dX12_load_35 rfl ?_
      refine z_dup2 K dX12_load_37 rfl rfl ?_
      obtain ⟨hi, h⟩ := ix_e h
      refine z_iald K (hR.at (k := 6) (t := 20270) k0 rfl rfl) rfl rfl rfl hi dX12_load_38 ?_
      refine z_iconst K 1 dX12_load_39 rfl ?_
      refine z_iload_n K dX12_load_40 rfl ?_
      refine z_ishl K dX12_load_41 ?_
      refine z_ior K dX12_load_42 ?_
      obtain ⟨hi, h⟩ := ix_e h
      refine z_iast K (hR.at (k := 6) (t := 20270) k0 rfl rfl) rfl rfl rfl hi dX12_load_43 ?_
      refine z_iconst K 0 dX12_load_44 rfl ?_
      obtain rfl := Option.some.inj h
      exact z_iret K dX12_load_45
    · have h := ite_f h c
      refine z_iload_n K dX12_load_25 rfl ?_
      obtain rfl := Option.some.inj h
      exact z_iret K dX12_load_26
  · have h := ite_t h c
    refine z_iconst K (-1) dX12_load_13 rfl ?_
    obtain rfl := Option.some.inj h
    exact z_iret K dX12_load_14
/-! GoingOverModel.bind (I)I -/
abbrev rmX12_bind : Room := { frames := 2, cells := 0, slots := 0, locals := 43 }
def pX12_bind (R : Rf) (T : Mm) (a0 : Nat) (x1 : Int32) : Option (Int32 × Mm) :=
  lt (wI T a0 0 0) (fun (T1 : Mm) => bd1 (pX12_isJoin R T1 a0 x1) (fun (u2 : Int32) => if u2 = 0 then some ((-1), T1) else bd1 (pX12_whyBind R T1 a0 x1) (fun (u3 : Int32) => if u3 ≤ 0 then bd1 (pX12_stores R T1 a0) (fun (T4 : Mm) => ix 82 270 (ix 82 270 (lt (wI T4 (R a0 6) (82 : Int32).toNatClampNeg ((T4.1 (R a0 6) (82 : Int32).toNatClampNeg) ||| (1 <<< (x1 &&& 31)))) (fun (T5 : Mm) => some (0, T5))))) else some (u3, T1))))
set_option maxRecDepth 100000 in
set_option maxHeartbeats 4000000 in
theorem mX12_bind {g : Gl} {R : Rf} {T : Mm} {a0 : Nat} {x1 : Int32} (l : Launch) (hR : Ty g R) (k0 : kd g a0 = 12) {r : Int32 × Mm} (h : pX12_bind R T a0 x1 = some r) : MI l g yX12_bind cX12_bind 3 (some .int) rmX12_bind [.ref (g.2.2.1 a0), .int x1] R T r.1 R r.2 := by
  refine z_metI (own := RX12) (lv := [some (.ref (g.2.2.1 a0)), some (.int x1), none]) (by decide +kernel) rfl rfl rfl (fun X K => ?_)
  unfold pX12_bind at h
  refine z_aload_n K dX12_bind_0 rfl ?_
  refine z_iconst K 0 dX12_bind_1 rfl ?_
  refine z_putI K clX12 tyX12_ok nmX12 k0 0 rfl rfl q1338 rfl rfl rfl dX12_bind_2 ?_
  refine z_aload_n K dX12_bind_5 rfl ?_
  refine z_iload_n K dX12_bind_6 rfl ?_
  obtain ⟨u2, hc, h⟩ := bd1_e h
  refine z_callVI K (mX12_isJoin l hR k0 hc) clX12 k0 ceX12_isJoin q1645 ⟨rfl, rfl, rfl, rfl⟩ rfl rfl rfl dX12_bind_7 ?_
  refine z_if_ne K 15 dX12_bind_10 (by decide) (fun c => ?_) (fun c => ?_)
  · have h := ite_f h c
    refine z_aload_n K dX12_bind_15 rfl ?_
    refine z_iload_n K dX12_bind_16 rfl ?_
    obtain ⟨u3, hc, h⟩ := bd1_e h
    refine z_callVI K (mX12_whyBind l hR k0 hc) clX12 k0 ceX12_whyBind q1717 ⟨rfl, rfl, rfl, rfl⟩ rfl rfl rfl dX12_bind_17 ?_
    refine z_istore_n K dX12_bind_20 rfl rfl ?_
    refine z_iload_n K dX12_bind_21 rfl ?_
    refine z_if_le K 27 dX12_bind_22 (by decide) (fun c => ?_) (fun c => ?_)
    · have h := ite_t h c
      refine z_aload_n K dX12_bind_27 rfl ?_
      obtain ⟨T4, hc, h⟩ := bd1_e h
      refine z_callVV K (mX12_stores l hR k0 hc) clX12 k0 ceX12_stores q1669 ⟨rfl, rfl, rfl, rfl⟩ rfl rfl rfl dX12_bind_28 ?_
      refine z_aload_n K dX12_bind_31 rfl ?_
      refine z_getR K clX12 k0 6 rfl rfl q1344 dX12_bind_32 ?_
      refine z_bipush K 82 dX12_bind_35 rfl ?_
      refine z_dup2 K dX12_bind_37 rfl rfl ?_
      obtain ⟨hi, h⟩ := ix_e h
      refine z_iald K (hR.at (k := 6) (t := 20270) k0 rfl rfl) rfl rfl rfl hi dX12_bind_38 ?_
      refine z_iconst K 1 dX12_bind_39 rfl ?_
      refine z_iload_n K dX12_bind_40 rfl ?_
      refine z_ishl K dX12_bind_41 ?_
      refine z_ior K dX12_bind_42 ?_
      obtain ⟨hi, h⟩ := ix_e h
      refine z_iast K (hR.at (k := 6) (t := 20270) k0 rfl rfl) rfl rfl rfl hi dX12_bind_43 ?_
      refine z_iconst K 0 dX12_bind_44 rfl ?_
      obtain rfl := Option.some.inj h
      exact z_iret K dX12_bind_45
    · have h := ite_f h c
      refine z_iload_n K dX12_bind_25 rfl ?_
      obtain rfl := Option.some.inj h
      exact z_iret K dX12_bind_26
  · have h := ite_t h c
    refine z_iconst K (-1) dX12_bind_13 rfl ?_
    obtain rfl := Option.some.inj h
    exact z_iret K dX12_bind_14
/-! GoingOverModel.days (I)I -/
abbrev rmX12_days : Room := { frames := 6, cells := 0, slots := 0, locals := 131 }
def pX12_days (R : Rf) (T : Mm) (a0 : Nat) (x1 : Int32) : Option (Int32 × Mm) :=
  lt (wI T a0 0 0) (fun (T1 : Mm) => bd1 (pX12_isIn R T1 x1 1 60) (fun (u2 : Int32) => if u2 = 0 then some ((-1), T1) else ix 80 270 (if (T1.1 (R a0 6) (80 : Int32).toNatClampNeg) = 400 then some (0, T1) else bd1 (pX12_stores R T1 a0) (fun (T3 : Mm) => bd2 (pX12_goesOn R T3 a0 x1) (fun (u4 : Int32) (T4 : Mm) => some (u4, T4))))))
set_option maxRecDepth 100000 in
set_option maxHeartbeats 4000000 in
theorem mX12_days {g : Gl} {R : Rf} {T : Mm} {a0 : Nat} {x1 : Int32} (l : Launch) (hR : Ty g R) (k0 : kd g a0 = 12) {r : Int32 × Mm} (h : pX12_days R T a0 x1 = some r) : MI l g yX12_days cX12_days 2 (some .int) rmX12_days [.ref (g.2.2.1 a0), .int x1] R T r.1 R r.2 := by
  refine z_metI (own := RX12) (lv := [some (.ref (g.2.2.1 a0)), some (.int x1)]) (by decide +kernel) rfl rfl rfl (fun X K => ?_)
  unfold pX12_days at h
  refine z_aload_n K dX12_days_0 rfl ?_
  refine z_iconst K 0 dX12_days_1 rfl ?_
  refine z_putI K clX12 tyX12_ok nmX12 k0 0 rfl rfl q1338 rfl rfl rfl dX12_days_2 ?_
  refine z_iload_n K dX12_days_5 rfl ?_
  refine z_iconst K 1 dX12_days_6 rfl ?_
  refine z_bipush K 60 dX12_days_7 rfl ?_
  obtain ⟨u2, hc, h⟩ := bd1_e h
  refine z_callSI K (mX12_isIn l hR hc) ceX12_isIn q1539 ⟨rfl, rfl, rfl, rfl⟩ rfl rfl rfl dX12_days_9 ?_
  refine z_if_ne K 17 dX12_days_12 (by decide) (fun c => ?_) (fun c => ?_)
  · have h := ite_f h c
    refine z_aload_n K dX12_days_17 rfl ?_
    refine z_getR K clX12 k0 6 rfl rfl q1344 dX12_days_18 ?_
    refine z_bipush K 80 dX12_days_21 rfl ?_
    obtain ⟨hi, h⟩ := ix_e h
    refine z_iald K (hR.at (k := 6) (t := 20270) k0 rfl rfl) rfl rfl rfl hi dX12_days_23 ?_
    refine z_sipush K 400 dX12_days_24 rfl ?_
    refine z_icmp_ne K 32 dX12_days_27 (by decide) (fun c => ?_) (fun c => ?_)
    · have h := ite_f h c
      refine z_aload_n K dX12_days_32 rfl ?_
      obtain ⟨T3, hc, h⟩ := bd1_e h
      refine z_callVV K (mX12_stores l hR k0 hc) clX12 k0 ceX12_stores q1669 ⟨rfl, rfl, rfl, rfl⟩ rfl rfl rfl dX12_days_33 ?_
      refine z_aload_n K dX12_days_36 rfl ?_
      refine z_iload_n K dX12_days_37 rfl ?_
      obtain ⟨u4, T4, hc, h⟩ := bd2_e h
      refine z_callVI K (mX12_goesOn l hR k0 hc) clX12 k0 ceX12_goesOn q1725 ⟨rfl, rfl, rfl, rfl⟩ rfl rfl rfl dX12_days_38 ?_
      obtain rfl := Option.some.inj h
      exact z_iret K dX12_days_41
    · have h := ite_t h c
      refine z_iconst K 0 dX12_days_30 rfl ?_
      obtain rfl := Option.some.inj h
      exact z_iret K dX12_days_31
  · have h := ite_t h c
    refine z_iconst K (-1) dX12_days_15 rfl ?_
    obtain rfl := Option.some.inj h
    exact z_iret K dX12_days_16
/-! GoingOverModel.undo ()I -/
abbrev rmX12_undo : Room := { frames := 0, cells := 0, slots := 0, locals := 0 }
def pX12_undo_26 (R : Rf) (a0 : Nat) (e61 : Mm → Option (Int32 × Mm)) (r26 : Mm → Int32 → Option (Int32 × Mm)) (T : Mm) (x1 : Int32) : Option (Int32 × Mm) :=
  if 9 ≤ x1 then e61 T else ix ((9 * (T.1 a0 23)) + x1) 72 (ix (80 + x1) 270 (lt (wI T (R a0 6) (80 + x1).toNatClampNeg (T.1 (R a0 21) ((9 * (T.1 a0 23)) + x1).toNatClampNeg)) (fun (T3 : Mm) => lt (x1 + 1) (fun (v4 : Int32) => r26 T3 v4))))
def pX12_undo_61 (R : Rf) (a0 : Nat) (T : Mm) : Option (Int32 × Mm) :=
  some (T.1 a0 23, T)
def pX12_undo (R : Rf) (T : Mm) (a0 : Nat) : Option (Int32 × Mm) :=
  lt (wI T a0 0 0) (fun (T1 : Mm) => if (T1.1 a0 23) = 0 then some ((-1), T1) else lt (wI T1 a0 23 ((T1.1 a0 23) - 1)) (fun (T2 : Mm) => zl2 (pX12_undo_26 R a0 (pX12_undo_61 R a0)) FU T2 0))
set_option maxRecDepth 100000 in
set_option maxHeartbeats 4000000 in
theorem wX12_undo_26 {X : Cx} {g : Gl} {l : Launch} {R : Rf} {a0 : Nat} (K : Ok X g l cX12_undo RX12 2 (some .int) rmX12_undo) (hR : Ty g R) (k0 : kd g a0 = 12) {r : Int32 × Mm} {e61 : Mm → Option (Int32 × Mm)} (he61 : ∀ (T : Mm), e61 T = some r → Zj X g 2 (QI X g r.1 R r.2) R T [some (.ref (g.2.2.1 a0)), none] [] 61) : ∀ (n : Nat) (T : Mm) (x1 : Int32), zl2 (pX12_undo_26 R a0 e61) n T x1 = some r → Zj X g 2 (QI X g r.1 R r.2) R T [some (.ref (g.2.2.1 a0)), some (.int x1)] [] 26 := by
  intro n
  induction n with
  | zero =>
    intro T x1 h
    exact absurd h (by simp [zl2])
  | succ n hr26 =>
    intro T x1 h
    rw [zl2_s] at h
    unfold pX12_undo_26 at h
    refine z_iload_n K dX12_undo_26 rfl ?_
    refine z_bipush K 9 dX12_undo_27 rfl ?_
    refine z_icmp_ge K 61 dX12_undo_29 (by decide) (fun c => ?_) (fun c => ?_)
    · have h := ite_t h c
      refine Zj.mask [true, false] ?_
      exact he61 _ h
    · have h := ite_f h c
      refine z_aload_n K dX12_undo_32 rfl ?_
      refine z_getR K clX12 k0 6 rfl rfl q1344 dX12_undo_33 ?_
      refine z_bipush K 80 dX12_undo_36 rfl ?_
      refine z_iload_n K dX12_undo_38 rfl ?_
      refine z_iadd K dX12_undo_39 ?_
      refine z_aload_n K dX12_undo_40 rfl ?_
      refine z_getR K clX12 k0 21 rfl rfl q1359 dX12_undo_41 ?_
      refine z_bipush K 9 dX12_undo_44 rfl ?_
      refine z_aload_n K dX12_undo_46 rfl ?_
      refine z_getI K clX12 k0 23 rfl rfl q1361 dX12_undo_47 ?_
      refine z_imul K dX12_undo_50 ?_
      refine z_iload_n K dX12_undo_51 rfl ?_
      refine z_iadd K dX12_undo_52 ?_
      obtain ⟨hi, h⟩ := ix_e h
      refine z_iald K (hR.at (k := 21) (t := 20072) k0 rfl rfl) rfl rfl rfl hi dX12_undo_53 ?_
      obtain ⟨hi, h⟩ := ix_e h
      refine z_iast K (hR.at (k := 6) (t := 20270) k0 rfl rfl) rfl rfl rfl hi dX12_undo_54 ?_
      refine z_iinc K 1 dX12_undo_55 rfl rfl rfl rfl ?_
      refine z_goto K 26 dX12_undo_58 (by decide) ?_
      refine Zj.mask [true, true] ?_
      exact hr26 _ _ h
set_option maxRecDepth 100000 in
set_option maxHeartbeats 4000000 in
theorem wX12_undo_61 {X : Cx} {g : Gl} {l : Launch} {R : Rf} {a0 : Nat} (K : Ok X g l cX12_undo RX12 2 (some .int) rmX12_undo) (hR : Ty g R) (k0 : kd g a0 = 12) {r : Int32 × Mm} (T : Mm) (h : pX12_undo_61 R a0 T = some r) : Zj X g 2 (QI X g r.1 R r.2) R T [some (.ref (g.2.2.1 a0)), none] [] 61 := by
  unfold pX12_undo_61 at h
  refine z_aload_n K dX12_undo_61 rfl ?_
  refine z_getI K clX12 k0 23 rfl rfl q1361 dX12_undo_62 ?_
  obtain rfl := Option.some.inj h
  exact z_iret K dX12_undo_65
set_option maxRecDepth 100000 in
set_option maxHeartbeats 4000000 in
theorem mX12_undo {g : Gl} {R : Rf} {T : Mm} {a0 : Nat} (l : Launch) (hR : Ty g R) (k0 : kd g a0 = 12) {r : Int32 × Mm} (h : pX12_undo R T a0 = some r) : MI l g yX12_undo cX12_undo 2 (some .int) rmX12_undo [.ref (g.2.2.1 a0)] R T r.1 R r.2 := by
  refine z_metI (own := RX12) (lv := [some (.ref (g.2.2.1 a0)), none]) (by decide +kernel) rfl rfl rfl (fun X K => ?_)
  unfold pX12_undo at h
  refine z_aload_n K dX12_undo_0 rfl ?_
  refine z_iconst K 0 dX12_undo_1 rfl ?_
  refine z_putI K clX12 tyX12_ok nmX12 k0 0 rfl rfl q1338 rfl rfl rfl dX12_undo_2 ?_
  refine z_aload_n K dX12_undo_5 rfl ?_
  refine z_getI K clX12 k0 23 rfl rfl q1361 dX12_undo_6 ?_
  refine z_if_ne K 14 dX12_undo_9 (by decide) (fun c => ?_) (fun c => ?_)
  · have h := ite_f h c
    refine z_aload_n K dX12_undo_14 rfl ?_
    refine z_dup K dX12_undo_15 rfl ?_
    refine z_getI K clX12 k0 23 rfl rfl q1361 dX12_undo_16 ?_
    refine z_iconst K 1 dX12_undo_19 rfl ?_
    refine z_isub K dX12_undo_20 ?_
    refine z_putI K clX12 tyX12_ok nmX12 k0 23 rfl rfl q1361 rfl rfl rfl dX12_undo_21 ?_
    refine z_iconst K 0 dX12_undo_24 rfl ?_
    refine z_istore_n K dX12_undo_25 rfl rfl ?_
    refine Zj.mask [true, true] ?_
    exact wX12_undo_26 K hR k0 (wX12_undo_61 K hR k0) FU _ _ h
  · have h := ite_t h c
    refine z_iconst K (-1) dX12_undo_12 rfl ?_
    obtain rfl := Option.some.inj h
    exact z_iret K dX12_undo_13
/-! GoingOverModel.tries ()V -/
abbrev rmX12_tries : Room := { frames := 0, cells := 0, slots := 0, locals := 0 }
def pX12_tries_2 (R : Rf) (a0 : Nat) (e29 : Mm → Option (Mm)) (r2 : Mm → Int32 → Option (Mm)) (T : Mm) (x1 : Int32) : Option (Mm) :=
  if 9 ≤ x1 then e29 T else ix (80 + x1) 270 (ix x1 9 (lt (wI T (R a0 22) x1.toNatClampNeg (T.1 (R a0 6) (80 + x1).toNatClampNeg)) (fun (T1 : Mm) => lt (x1 + 1) (fun (v2 : Int32) => r2 T1 v2))))
def pX12_tries_29 (R : Rf) (a0 : Nat) (T : Mm) : Option (Mm) :=
  some T
def pX12_tries (R : Rf) (T : Mm) (a0 : Nat) : Option (Mm) :=
  zl2 (pX12_tries_2 R a0 (pX12_tries_29 R a0)) FU T 0
set_option maxRecDepth 100000 in
set_option maxHeartbeats 4000000 in
theorem wX12_tries_2 {X : Cx} {g : Gl} {l : Launch} {R : Rf} {a0 : Nat} (K : Ok X g l cX12_tries RX12 2 none rmX12_tries) (hR : Ty g R) (k0 : kd g a0 = 12) {r : Mm} {e29 : Mm → Option (Mm)} (he29 : ∀ (T : Mm), e29 T = some r → Zj X g 2 (QV X g R r) R T [none, none] [] 29) : ∀ (n : Nat) (T : Mm) (x1 : Int32), zl2 (pX12_tries_2 R a0 e29) n T x1 = some r → Zj X g 2 (QV X g R r) R T [some (.ref (g.2.2.1 a0)), some (.int x1)] [] 2 := by
  intro n
  induction n with
  | zero =>
    intro T x1 h
    exact absurd h (by simp [zl2])
  | succ n hr2 =>
    intro T x1 h
    rw [zl2_s] at h
    unfold pX12_tries_2 at h
    refine z_iload_n K dX12_tries_2 rfl ?_
    refine z_bipush K 9 dX12_tries_3 rfl ?_
    refine z_icmp_ge K 29 dX12_tries_5 (by decide) (fun c => ?_) (fun c => ?_)
    · have h := ite_t h c
      refine Zj.mask [false, false] ?_
      exact he29 _ h
    · have h := ite_f h c
      refine z_aload_n K dX12_tries_8 rfl ?_
      refine z_getR K clX12 k0 22 rfl rfl q1360 dX12_tries_9 ?_
      refine z_iload_n K dX12_tries_12 rfl ?_
      refine z_aload_n K dX12_tries_13 rfl ?_
      refine z_getR K clX12 k0 6 rfl rfl q1344 dX12_tries_14 ?_
      refine z_bipush K 80 dX12_tries_17 rfl ?_
      refine z_iload_n K dX12_tries_19 rfl ?_
      refine z_iadd K dX12_tries_20 ?_
      obtain ⟨hi, h⟩ := ix_e h
      refine z_iald K (hR.at (k := 6) (t := 20270) k0 rfl rfl) rfl rfl rfl hi dX12_tries_21 ?_
      obtain ⟨hi, h⟩ := ix_e h
      refine z_iast K (hR.at (k := 22) (t := 20009) k0 rfl rfl) rfl rfl rfl hi dX12_tries_22 ?_
      refine z_iinc K 1 dX12_tries_23 rfl rfl rfl rfl ?_
      refine z_goto K 2 dX12_tries_26 (by decide) ?_
      refine Zj.mask [true, true] ?_
      exact hr2 _ _ h
set_option maxRecDepth 100000 in
set_option maxHeartbeats 4000000 in
theorem wX12_tries_29 {X : Cx} {g : Gl} {l : Launch} {R : Rf} {a0 : Nat} (K : Ok X g l cX12_tries RX12 2 none rmX12_tries) (hR : Ty g R) (k0 : kd g a0 = 12) {r : Mm} (T : Mm) (h : pX12_tries_29 R a0 T = some r) : Zj X g 2 (QV X g R r) R T [none, none] [] 29 := by
  unfold pX12_tries_29 at h
  obtain rfl := Option.some.inj h
  exact z_vret K dX12_tries_29
set_option maxRecDepth 100000 in
set_option maxHeartbeats 4000000 in
theorem mX12_tries {g : Gl} {R : Rf} {T : Mm} {a0 : Nat} (l : Launch) (hR : Ty g R) (k0 : kd g a0 = 12) {r : Mm} (h : pX12_tries R T a0 = some r) : MV l g yX12_tries cX12_tries 2 none rmX12_tries [.ref (g.2.2.1 a0)] R T R r := by
  refine z_metV (own := RX12) (lv := [some (.ref (g.2.2.1 a0)), none]) (by decide +kernel) rfl rfl rfl (fun X K => ?_)
  unfold pX12_tries at h
  refine z_iconst K 0 dX12_tries_0 rfl ?_
  refine z_istore_n K dX12_tries_1 rfl rfl ?_
  refine Zj.mask [true, true] ?_
  exact wX12_tries_2 K hR k0 (wX12_tries_29 K hR k0) FU _ _ h
/-! GoingOverModel.back ()V -/
abbrev rmX12_back : Room := { frames := 0, cells := 0, slots := 0, locals := 0 }
def pX12_back_2 (R : Rf) (a0 : Nat) (e29 : Mm → Option (Mm)) (r2 : Mm → Int32 → Option (Mm)) (T : Mm) (x1 : Int32) : Option (Mm) :=
  if 9 ≤ x1 then e29 T else ix x1 9 (ix (80 + x1) 270 (lt (wI T (R a0 6) (80 + x1).toNatClampNeg (T.1 (R a0 22) x1.toNatClampNeg)) (fun (T1 : Mm) => lt (x1 + 1) (fun (v2 : Int32) => r2 T1 v2))))
def pX12_back_29 (R : Rf) (a0 : Nat) (T : Mm) : Option (Mm) :=
  some T
def pX12_back (R : Rf) (T : Mm) (a0 : Nat) : Option (Mm) :=
  zl2 (pX12_back_2 R a0 (pX12_back_29 R a0)) FU T 0
set_option maxRecDepth 100000 in
set_option maxHeartbeats 4000000 in
theorem wX12_back_2 {X : Cx} {g : Gl} {l : Launch} {R : Rf} {a0 : Nat} (K : Ok X g l cX12_back RX12 2 none rmX12_back) (hR : Ty g R) (k0 : kd g a0 = 12) {r : Mm} {e29 : Mm → Option (Mm)} (he29 : ∀ (T : Mm), e29 T = some r → Zj X g 2 (QV X g R r) R T [none, none] [] 29) : ∀ (n : Nat) (T : Mm) (x1 : Int32), zl2 (pX12_back_2 R a0 e29) n T x1 = some r → Zj X g 2 (QV X g R r) R T [some (.ref (g.2.2.1 a0)), some (.int x1)] [] 2 := by
  intro n
  induction n with
  | zero =>
    intro T x1 h
    exact absurd h (by simp [zl2])
  | succ n hr2 =>
    intro T x1 h
    rw [zl2_s] at h
    unfold pX12_back_2 at h
    refine z_iload_n K dX12_back_2 rfl ?_
    refine z_bipush K 9 dX12_back_3 rfl ?_
    refine z_icmp_ge K 29 dX12_back_5 (by decide) (fun c => ?_) (fun c => ?_)
    · have h := ite_t h c
      refine Zj.mask [false, false] ?_
      exact he29 _ h
    · have h := ite_f h c
      refine z_aload_n K dX12_back_8 rfl ?_
      refine z_getR K clX12 k0 6 rfl rfl q1344 dX12_back_9 ?_
      refine z_bipush K 80 dX12_back_12 rfl ?_
      refine z_iload_n K dX12_back_14 rfl ?_
      refine z_iadd K dX12_back_15 ?_
      refine z_aload_n K dX12_back_16 rfl ?_
      refine z_getR K clX12 k0 22 rfl rfl q1360 dX12_back_17 ?_
      refine z_iload_n K dX12_back_20 rfl ?_
      obtain ⟨hi, h⟩ := ix_e h
      refine z_iald K (hR.at (k := 22) (t := 20009) k0 rfl rfl) rfl rfl rfl hi dX12_back_21 ?_
      obtain ⟨hi, h⟩ := ix_e h
      refine z_iast K (hR.at (k := 6) (t := 20270) k0 rfl rfl) rfl rfl rfl hi dX12_back_22 ?_
      refine z_iinc K 1 dX12_back_23 rfl rfl rfl rfl ?_
      refine z_goto K 2 dX12_back_26 (by decide) ?_
      refine Zj.mask [true, true] ?_
      exact hr2 _ _ h
set_option maxRecDepth 100000 in
set_option maxHeartbeats 4000000 in
theorem wX12_back_29 {X : Cx} {g : Gl} {l : Launch} {R : Rf} {a0 : Nat} (K : Ok X g l cX12_back RX12 2 none rmX12_back) (hR : Ty g R) (k0 : kd g a0 = 12) {r : Mm} (T : Mm) (h : pX12_back_29 R a0 T = some r) : Zj X g 2 (QV X g R r) R T [none, none] [] 29 := by
  unfold pX12_back_29 at h
  obtain rfl := Option.some.inj h
  exact z_vret K dX12_back_29
set_option maxRecDepth 100000 in
set_option maxHeartbeats 4000000 in
theorem mX12_back {g : Gl} {R : Rf} {T : Mm} {a0 : Nat} (l : Launch) (hR : Ty g R) (k0 : kd g a0 = 12) {r : Mm} (h : pX12_back R T a0 = some r) : MV l g yX12_back cX12_back 2 none rmX12_back [.ref (g.2.2.1 a0)] R T R r := by
  refine z_metV (own := RX12) (lv := [some (.ref (g.2.2.1 a0)), none]) (by decide +kernel) rfl rfl rfl (fun X K => ?_)
  unfold pX12_back at h
  refine z_iconst K 0 dX12_back_0 rfl ?_
  refine z_istore_n K dX12_back_1 rfl rfl ?_
  refine Zj.mask [true, true] ?_
  exact wX12_back_2 K hR k0 (wX12_back_29 K hR k0) FU _ _ h
/-! GoingOverModel.fate (I)I -/
abbrev rmX12_fate : Room := { frames := 4, cells := 0, slots := 0, locals := 95 }
def pX12_fate (R : Rf) (T : Mm) (a0 : Nat) (x1 : Int32) : Option (Int32 × Mm) :=
  lt (wI T a0 0 0) (fun (T1 : Mm) => bd1 (pX12_isPerson R T1 a0 x1) (fun (u2 : Int32) => if u2 = 0 then some ((-1), T1) else bd1 (pX12_fateOf R T1 a0 x1) (fun (u3 : Int32) => some (u3, T1))))
set_option maxRecDepth 100000 in
set_option maxHeartbeats 4000000 in
theorem mX12_fate {g : Gl} {R : Rf} {T : Mm} {a0 : Nat} {x1 : Int32} (l : Launch) (hR : Ty g R) (k0 : kd g a0 = 12) {r : Int32 × Mm} (h : pX12_fate R T a0 x1 = some r) : MI l g yX12_fate cX12_fate 2 (some .int) rmX12_fate [.ref (g.2.2.1 a0), .int x1] R T r.1 R r.2 := by
  refine z_metI (own := RX12) (lv := [some (.ref (g.2.2.1 a0)), some (.int x1)]) (by decide +kernel) rfl rfl rfl (fun X K => ?_)
  unfold pX12_fate at h
  refine z_aload_n K dX12_fate_0 rfl ?_
  refine z_iconst K 0 dX12_fate_1 rfl ?_
  refine z_putI K clX12 tyX12_ok nmX12 k0 0 rfl rfl q1338 rfl rfl rfl dX12_fate_2 ?_
  refine z_aload_n K dX12_fate_5 rfl ?_
  refine z_iload_n K dX12_fate_6 rfl ?_
  obtain ⟨u2, hc, h⟩ := bd1_e h
  refine z_callVI K (mX12_isPerson l hR k0 hc) clX12 k0 ceX12_isPerson q1590 ⟨rfl, rfl, rfl, rfl⟩ rfl rfl rfl dX12_fate_7 ?_
  refine z_if_eq K 21 dX12_fate_10 (by decide) (fun c => ?_) (fun c => ?_)
  · have h := ite_t h c
    refine z_iconst K (-1) dX12_fate_21 rfl ?_
    obtain rfl := Option.some.inj h
    exact z_iret K dX12_fate_22
  · have h := ite_f h c
    refine z_aload_n K dX12_fate_13 rfl ?_
    refine z_iload_n K dX12_fate_14 rfl ?_
    obtain ⟨u3, hc, h⟩ := bd1_e h
    refine z_callVI K (mX12_fateOf l hR k0 hc) clX12 k0 ceX12_fateOf q1741 ⟨rfl, rfl, rfl, rfl⟩ rfl rfl rfl dX12_fate_15 ?_
    refine z_goto K 22 dX12_fate_18 (by decide) ?_
    obtain rfl := Option.some.inj h
    exact z_iret K dX12_fate_22
/-! GoingOverModel.straw (I)I -/
abbrev rmX12_straw : Room := { frames := 3, cells := 0, slots := 0, locals := 74 }
def pX12_straw_33 (R : Rf) (a0 : Nat) (x1 : Int32) (e68 : Mm → Int32 → Option (Int32 × Mm)) (e76 : Mm → Option (Int32 × Mm)) (r33 : Mm → Int32 → Option (Int32 × Mm)) (T : Mm) (x2 : Int32) : Option (Int32 × Mm) :=
  ix 3 270 (if (T.1 (R a0 6) (3 : Int32).toNatClampNeg) < x2 then e76 T else bd1 (pX12_barrelOf R T a0 x1) (fun (u5 : Int32) => ix 3 270 (bd1 (pX12_joinsFrom R T a0 ((T.1 (R a0 6) (3 : Int32).toNatClampNeg) - x2)) (fun (u6 : Int32) => bd1 (pX12_partsOf R T a0 u5 u6) (fun (u7 : Int32) => if u7 = 1 then e68 T x2 else lt (x2 + 1) (fun (v8 : Int32) => r33 T v8))))))
def pX12_straw_68 (R : Rf) (a0 : Nat) (x1 : Int32) (T : Mm) (x2 : Int32) : Option (Int32 × Mm) :=
  some (x2, T)
def pX12_straw_76 (R : Rf) (a0 : Nat) (x1 : Int32) (T : Mm) : Option (Int32 × Mm) :=
  some ((-1), T)
def pX12_straw (R : Rf) (T : Mm) (a0 : Nat) (x1 : Int32) : Option (Int32 × Mm) :=
  lt (wI T a0 0 0) (fun (T1 : Mm) => bd1 (pX12_isPerson R T1 a0 x1) (fun (u2 : Int32) => if u2 = 0 then some ((-1), T1) else bd1 (pX12_isDown R T1 a0 x1) (fun (u3 : Int32) => if u3 = 0 then bd1 (pX12_barrelOf R T1 a0 x1) (fun (u4 : Int32) => if u4 = 0 then some ((-1), T1) else zl2 (pX12_straw_33 R a0 x1 (pX12_straw_68 R a0 x1) (pX12_straw_76 R a0 x1)) FU T1 0) else some ((-1), T1))))
set_option maxRecDepth 100000 in
set_option maxHeartbeats 4000000 in
theorem wX12_straw_33 {X : Cx} {g : Gl} {l : Launch} {R : Rf} {a0 : Nat} {x1 : Int32} (K : Ok X g l cX12_straw RX12 3 (some .int) rmX12_straw) (hR : Ty g R) (k0 : kd g a0 = 12) {r : Int32 × Mm} {e68 : Mm → Int32 → Option (Int32 × Mm)} (he68 : ∀ (T : Mm) (x2 : Int32), e68 T x2 = some r → Zj X g 3 (QI X g r.1 R r.2) R T [none, none, some (.int x2)] [] 68) {e76 : Mm → Option (Int32 × Mm)} (he76 : ∀ (T : Mm), e76 T = some r → Zj X g 3 (QI X g r.1 R r.2) R T [none, none, none] [] 76) : ∀ (n : Nat) (T : Mm) (x2 : Int32), zl2 (pX12_straw_33 R a0 x1 e68 e76) n T x2 = some r → Zj X g 3 (QI X g r.1 R r.2) R T [some (.ref (g.2.2.1 a0)), some (.int x1), some (.int x2)] [] 33 := by
  intro n
  induction n with
  | zero =>
    intro T x2 h
    exact absurd h (by simp [zl2])
  | succ n hr33 =>
    intro T x2 h
    rw [zl2_s] at h
    unfold pX12_straw_33 at h
    refine z_iload_n K dX12_straw_33 rfl ?_
    refine z_aload_n K dX12_straw_34 rfl ?_
    refine z_getR K clX12 k0 6 rfl rfl q1344 dX12_straw_35 ?_
    refine z_iconst K 3 dX12_straw_38 rfl ?_
    obtain ⟨hi, h⟩ := ix_e h
    refine z_iald K (hR.at (k := 6) (t := 20270) k0 rfl rfl) rfl rfl rfl hi dX12_straw_39 ?_
    refine z_icmp_gt K 76 dX12_straw_40 (by decide) (fun c => ?_) (fun c => ?_)
    · have h := ite_t h c
      refine Zj.mask [false, false, false] ?_
      exact he76 _ h
    · have h := ite_f h c
      refine z_aload_n K dX12_straw_43 rfl ?_
      refine z_aload_n K dX12_straw_44 rfl ?_
      refine z_iload_n K dX12_straw_45 rfl ?_
      obtain ⟨u5, hc, h⟩ := bd1_e h
      refine z_callVI K (mX12_barrelOf l hR k0 hc) clX12 k0 ceX12_barrelOf q1602 ⟨rfl, rfl, rfl, rfl⟩ rfl rfl rfl dX12_straw_46 ?_
      refine z_aload_n K dX12_straw_49 rfl ?_
      refine z_aload_n K dX12_straw_50 rfl ?_
      refine z_getR K clX12 k0 6 rfl rfl q1344 dX12_straw_51 ?_
      refine z_iconst K 3 dX12_straw_54 rfl ?_
      obtain ⟨hi, h⟩ := ix_e h
      refine z_iald K (hR.at (k := 6) (t := 20270) k0 rfl rfl) rfl rfl rfl hi dX12_straw_55 ?_
      refine z_iload_n K dX12_straw_56 rfl ?_
      refine z_isub K dX12_straw_57 ?_
      obtain ⟨u6, hc, h⟩ := bd1_e h
      refine z_callVI K (mX12_joinsFrom l hR k0 hc) clX12 k0 ceX12_joinsFrom q1681 ⟨rfl, rfl, rfl, rfl⟩ rfl rfl rfl dX12_straw_58 ?_
      obtain ⟨u7, hc, h⟩ := bd1_e h
      refine z_callVI K (mX12_partsOf l hR k0 hc) clX12 k0 ceX12_partsOf q1618 ⟨rfl, rfl, rfl, rfl⟩ rfl rfl rfl dX12_straw_61 ?_
      refine z_iconst K 1 dX12_straw_64 rfl ?_
      refine z_icmp_ne K 70 dX12_straw_65 (by decide) (fun c => ?_) (fun c => ?_)
      · have h := ite_f h c
        refine z_iinc K 1 dX12_straw_70 rfl rfl rfl rfl ?_
        refine z_goto K 33 dX12_straw_73 (by decide) ?_
        refine Zj.mask [true, true, true] ?_
        exact hr33 _ _ h
      · have h := ite_t h c
        refine Zj.mask [false, false, true] ?_
        exact he68 _ _ h
set_option maxRecDepth 100000 in
set_option maxHeartbeats 4000000 in
theorem wX12_straw_68 {X : Cx} {g : Gl} {l : Launch} {R : Rf} {a0 : Nat} {x1 : Int32} (K : Ok X g l cX12_straw RX12 3 (some .int) rmX12_straw) (hR : Ty g R) (k0 : kd g a0 = 12) {r : Int32 × Mm} (T : Mm) (x2 : Int32) (h : pX12_straw_68 R a0 x1 T x2 = some r) : Zj X g 3 (QI X g r.1 R r.2) R T [none, none, some (.int x2)] [] 68 := by
  unfold pX12_straw_68 at h
  refine z_iload_n K dX12_straw_68 rfl ?_
  obtain rfl := Option.some.inj h
  exact z_iret K dX12_straw_69
set_option maxRecDepth 100000 in
set_option maxHeartbeats 4000000 in
theorem wX12_straw_76 {X : Cx} {g : Gl} {l : Launch} {R : Rf} {a0 : Nat} {x1 : Int32} (K : Ok X g l cX12_straw RX12 3 (some .int) rmX12_straw) (hR : Ty g R) (k0 : kd g a0 = 12) {r : Int32 × Mm} (T : Mm) (h : pX12_straw_76 R a0 x1 T = some r) : Zj X g 3 (QI X g r.1 R r.2) R T [none, none, none] [] 76 := by
  unfold pX12_straw_76 at h
  refine z_iconst K (-1) dX12_straw_76 rfl ?_
  obtain rfl := Option.some.inj h
  exact z_iret K dX12_straw_77
set_option maxRecDepth 100000 in
set_option maxHeartbeats 4000000 in
theorem mX12_straw {g : Gl} {R : Rf} {T : Mm} {a0 : Nat} {x1 : Int32} (l : Launch) (hR : Ty g R) (k0 : kd g a0 = 12) {r : Int32 × Mm} (h : pX12_straw R T a0 x1 = some r) : MI l g yX12_straw cX12_straw 3 (some .int) rmX12_straw [.ref (g.2.2.1 a0), .int x1] R T r.1 R r.2 := by
  refine z_metI (own := RX12) (lv := [some (.ref (g.2.2.1 a0)), some (.int x1), none]) (by decide +kernel) rfl rfl rfl (fun X K => ?_)
  unfold pX12_straw at h
  refine z_aload_n K dX12_straw_0 rfl ?_
  refine z_iconst K 0 dX12_straw_1 rfl ?_
  refine z_putI K clX12 tyX12_ok nmX12 k0 0 rfl rfl q1338 rfl rfl rfl dX12_straw_2 ?_
  refine z_aload_n K dX12_straw_5 rfl ?_
  refine z_iload_n K dX12_straw_6 rfl ?_
  obtain ⟨u2, hc, h⟩ := bd1_e h
  refine z_callVI K (mX12_isPerson l hR k0 hc) clX12 k0 ceX12_isPerson q1590 ⟨rfl, rfl, rfl, rfl⟩ rfl rfl rfl dX12_straw_7 ?_
  refine z_if_eq K 29 dX12_straw_10 (by decide) (fun c => ?_) (fun c => ?_)
  · have h := ite_t h c
    refine z_iconst K (-1) dX12_straw_29 rfl ?_
    obtain rfl := Option.some.inj h
    exact z_iret K dX12_straw_30
  · have h := ite_f h c
    refine z_aload_n K dX12_straw_13 rfl ?_
    refine z_iload_n K dX12_straw_14 rfl ?_
    obtain ⟨u3, hc, h⟩ := bd1_e h
    refine z_callVI K (mX12_isDown l hR k0 hc) clX12 k0 ceX12_isDown q1697 ⟨rfl, rfl, rfl, rfl⟩ rfl rfl rfl dX12_straw_15 ?_
    refine z_if_ne K 29 dX12_straw_18 (by decide) (fun c => ?_) (fun c => ?_)
    · have h := ite_f h c
      refine z_iconst K (-1) dX12_straw_29 rfl ?_
      obtain rfl := Option.some.inj h
      exact z_iret K dX12_straw_30
    · have h := ite_t h c
      refine z_aload_n K dX12_straw_21 rfl ?_
      refine z_iload_n K dX12_straw_22 rfl ?_
      obtain ⟨u4, hc, h⟩ := bd1_e h
      refine z_callVI K (mX12_barrelOf l hR k0 hc) clX12 k0 ceX12_barrelOf q1602 ⟨rfl, rfl, rfl, rfl⟩ rfl rfl rfl dX12_straw_23 ?_
      refine z_if_ne K 31 dX12_straw_26 (by decide) (fun c => ?_) (fun c => ?_)
      · have h := ite_f h c
        refine z_iconst K 0 dX12_straw_31 rfl ?_
        refine z_istore_n K dX12_straw_32 rfl rfl ?_
        refine Zj.mask [true, true, true] ?_
        exact wX12_straw_33 K hR k0 (wX12_straw_68 K hR k0) (wX12_straw_76 K hR k0) FU _ _ h
      · have h := ite_t h c
        refine z_iconst K (-1) dX12_straw_29 rfl ?_
        obtain rfl := Option.some.inj h
        exact z_iret K dX12_straw_30
/-! GoingOverModel.lighten (I)I -/
abbrev rmX12_lighten : Room := { frames := 3, cells := 0, slots := 0, locals := 65 }
def pX12_lighten_34 (R : Rf) (a0 : Nat) (x1 : Int32) (e116 : Mm → Int32 → Option (Int32 × Mm)) (r34 : Mm → Int32 → Int32 → Int32 → Option (Int32 × Mm)) (T : Mm) (x2 : Int32) (x3 : Int32) (x4 : Int32) : Option (Int32 × Mm) :=
  if x2 ≤ x4 then e116 T x3 else if (x4 &&& (x2 ^^^ (-1))) = 0 then bd1 (pX12_weightOf R T a0 x1) (fun (u6 : Int32) => bd1 (pX12_weighsIn R T a0 x4) (fun (u7 : Int32) => bd1 (pX12_flowNow R T a0) (fun (u8 : Int32) => if (u6 - u7) ≤ u8 then bd1 (pX12_bits R T x4) (fun (u9 : Int32) => bd1 (pX12_bits R T x3) (fun (u10 : Int32) => lt (u9 - u10) (fun (v11 : Int32) => if v11 < 0 then lt (x4 + 1) (fun (v12 : Int32) => r34 T x2 x4 v12) else if v11 = 0 then bd1 (pX12_weighsIn R T a0 x4) (fun (u14 : Int32) => bd1 (pX12_weighsIn R T a0 x3) (fun (u15 : Int32) => if u15 ≤ u14 then lt (x4 + 1) (fun (v16 : Int32) => r34 T x2 x3 v16) else lt (x4 + 1) (fun (v17 : Int32) => r34 T x2 x4 v17))) else lt (x4 + 1) (fun (v13 : Int32) => r34 T x2 x3 v13)))) else lt (x4 + 1) (fun (v18 : Int32) => r34 T x2 x3 v18)))) else lt (x4 + 1) (fun (v5 : Int32) => r34 T x2 x3 v5)
def pX12_lighten_116 (R : Rf) (a0 : Nat) (x1 : Int32) (T : Mm) (x3 : Int32) : Option (Int32 × Mm) :=
  lt (wI T a0 26 1) (fun (T19 : Mm) => lt (wI T19 a0 24 x3) (fun (T20 : Mm) => bd1 (pX12_bits R T20 x3) (fun (u21 : Int32) => some (u21, T20))))
def pX12_lighten (R : Rf) (T : Mm) (a0 : Nat) (x1 : Int32) : Option (Int32 × Mm) :=
  lt (wI T a0 0 0) (fun (T1 : Mm) => bd1 (pX12_isPerson R T1 a0 x1) (fun (u2 : Int32) => if u2 = 0 then some ((-1), T1) else bd1 (pX12_isDown R T1 a0 x1) (fun (u3 : Int32) => if u3 = 0 then bd1 (pX12_barrelOf R T1 a0 x1) (fun (u4 : Int32) => zl4 (pX12_lighten_34 R a0 x1 (pX12_lighten_116 R a0 x1)) FU T1 u4 u4 0) else some ((-1), T1))))
set_option maxRecDepth 100000 in
set_option maxHeartbeats 4000000 in
theorem wX12_lighten_34 {X : Cx} {g : Gl} {l : Launch} {R : Rf} {a0 : Nat} {x1 : Int32} (K : Ok X g l cX12_lighten RX12 6 (some .int) rmX12_lighten) (hR : Ty g R) (k0 : kd g a0 = 12) {r : Int32 × Mm} {e116 : Mm → Int32 → Option (Int32 × Mm)} (he116 : ∀ (T : Mm) (x3 : Int32), e116 T x3 = some r → Zj X g 6 (QI X g r.1 R r.2) R T [some (.ref (g.2.2.1 a0)), none, none, some (.int x3), none, none] [] 116) : ∀ (n : Nat) (T : Mm) (x2 : Int32) (x3 : Int32) (x4 : Int32), zl4 (pX12_lighten_34 R a0 x1 e116) n T x2 x3 x4 = some r → Zj X g 6 (QI X g r.1 R r.2) R T [some (.ref (g.2.2.1 a0)), some (.int x1), some (.int x2), some (.int x3), some (.int x4), none] [] 34 := by
  intro n
  induction n with
  | zero =>
    intro T x2 x3 x4 h
    exact absurd h (by simp [zl4])
  | succ n hr34 =>
    intro T x2 x3 x4 h
    rw [zl4_s] at h
    unfold pX12_lighten_34 at h
    refine z_iload K dX12_lighten_34 rfl ?_
    refine z_iload_n K dX12_lighten_36 rfl ?_
    refine z_icmp_ge K 116 dX12_lighten_37 (by decide) (fun c => ?_) (fun c => ?_)
    · have h := ite_t h c
      refine Zj.mask [true, false, false, true, false, false] ?_
      exact he116 _ _ h
    · have h := ite_f h c
      refine z_iload K dX12_lighten_40 rfl ?_
      refine z_iload_n K dX12_lighten_42 rfl ?_
      refine z_iconst K (-1) dX12_lighten_43 rfl ?_
      refine z_ixor K dX12_lighten_44 ?_
      refine z_iand K dX12_lighten_45 ?_
      refine z_if_ne K 110 dX12_lighten_46 (by decide) (fun c => ?_) (fun c => ?_)
      · have h := ite_f h c
        refine z_iinc K 1 dX12_lighten_110 rfl rfl rfl rfl ?_
        refine z_goto K 34 dX12_lighten_113 (by decide) ?_
        refine Zj.mask [true, true, true, true, true, false] ?_
        exact hr34 _ _ _ _ h
      · have h := ite_t h c
        refine z_aload_n K dX12_lighten_49 rfl ?_
        refine z_iload_n K dX12_lighten_50 rfl ?_
        obtain ⟨u6, hc, h⟩ := bd1_e h
        refine z_callVI K (mX12_weightOf l hR k0 hc) clX12 k0 ceX12_weightOf q1598 ⟨rfl, rfl, rfl, rfl⟩ rfl rfl rfl dX12_lighten_51 ?_
        refine z_aload_n K dX12_lighten_54 rfl ?_
        refine z_iload K dX12_lighten_55 rfl ?_
        obtain ⟨u7, hc, h⟩ := bd1_e h
        refine z_callVI K (mX12_weighsIn l hR k0 hc) clX12 k0 ceX12_weighsIn q1610 ⟨rfl, rfl, rfl, rfl⟩ rfl rfl rfl dX12_lighten_57 ?_
        refine z_isub K dX12_lighten_60 ?_
        refine z_aload_n K dX12_lighten_61 rfl ?_
        obtain ⟨u8, hc, h⟩ := bd1_e h
        refine z_callVI K (mX12_flowNow l hR k0 hc) clX12 k0 ceX12_flowNow q1653 ⟨rfl, rfl, rfl, rfl⟩ rfl rfl rfl dX12_lighten_62 ?_
        refine z_icmp_le K 71 dX12_lighten_65 (by decide) (fun c => ?_) (fun c => ?_)
        · have h := ite_t h c
          refine z_iload K dX12_lighten_71 rfl ?_
          obtain ⟨u9, hc, h⟩ := bd1_e h
          refine z_callSI K (mX12_bits l hR hc) ceX12_bits q1626 ⟨rfl, rfl, rfl, rfl⟩ rfl rfl rfl dX12_lighten_73 ?_
          refine z_iload_n K dX12_lighten_76 rfl ?_
          obtain ⟨u10, hc, h⟩ := bd1_e h
          refine z_callSI K (mX12_bits l hR hc) ceX12_bits q1626 ⟨rfl, rfl, rfl, rfl⟩ rfl rfl rfl dX12_lighten_77 ?_
          refine z_isub K dX12_lighten_80 ?_
          refine z_istore K dX12_lighten_81 rfl rfl ?_
          refine z_iload K dX12_lighten_83 rfl ?_
          refine z_if_lt K 107 dX12_lighten_85 (by decide) (fun c => ?_) (fun c => ?_)
          · have h := ite_t h c
            refine z_iload K dX12_lighten_107 rfl ?_
            refine z_istore_n K dX12_lighten_109 rfl rfl ?_
            refine z_iinc K 1 dX12_lighten_110 rfl rfl rfl rfl ?_
            refine z_goto K 34 dX12_lighten_113 (by decide) ?_
            refine Zj.mask [true, true, true, true, true, false] ?_
            exact hr34 _ _ _ _ h
          · have h := ite_f h c
            refine z_iload K dX12_lighten_88 rfl ?_
            refine z_if_ne K 110 dX12_lighten_90 (by decide) (fun c => ?_) (fun c => ?_)
            · have h := ite_f h c
              refine z_iinc K 1 dX12_lighten_110 rfl rfl rfl rfl ?_
              refine z_goto K 34 dX12_lighten_113 (by decide) ?_
              refine Zj.mask [true, true, true, true, true, false] ?_
              exact hr34 _ _ _ _ h
            · have h := ite_t h c
              refine z_aload_n K dX12_lighten_93 rfl ?_
              refine z_iload K dX12_lighten_94 rfl ?_
              obtain ⟨u14, hc, h⟩ := bd1_e h
              refine z_callVI K (mX12_weighsIn l hR k0 hc) clX12 k0 ceX12_weighsIn q1610 ⟨rfl, rfl, rfl, rfl⟩ rfl rfl rfl dX12_lighten_96 ?_
              refine z_aload_n K dX12_lighten_99 rfl ?_
              refine z_iload_n K dX12_lighten_100 rfl ?_
              obtain ⟨u15, hc, h⟩ := bd1_e h
              refine z_callVI K (mX12_weighsIn l hR k0 hc) clX12 k0 ceX12_weighsIn q1610 ⟨rfl, rfl, rfl, rfl⟩ rfl rfl rfl dX12_lighten_101 ?_
              refine z_icmp_ge K 110 dX12_lighten_104 (by decide) (fun c => ?_) (fun c => ?_)
              · have h := ite_t h c
                refine z_iinc K 1 dX12_lighten_110 rfl rfl rfl rfl ?_
                refine z_goto K 34 dX12_lighten_113 (by decide) ?_
                refine Zj.mask [true, true, true, true, true, false] ?_
                exact hr34 _ _ _ _ h
              · have h := ite_f h c
                refine z_iload K dX12_lighten_107 rfl ?_
                refine z_istore_n K dX12_lighten_109 rfl rfl ?_
                refine z_iinc K 1 dX12_lighten_110 rfl rfl rfl rfl ?_
                refine z_goto K 34 dX12_lighten_113 (by decide) ?_
                refine Zj.mask [true, true, true, true, true, false] ?_
                exact hr34 _ _ _ _ h
        · have h := ite_f h c
          refine z_goto K 110 dX12_lighten_68 (by decide) ?_
          refine z_iinc K 1 dX12_lighten_110 rfl rfl rfl rfl ?_
          refine z_goto K 34 dX12_lighten_113 (by decide) ?_
          refine Zj.mask [true, true, true, true, true, false] ?_
          exact hr34 _ _ _ _ h
set_option maxRecDepth 100000 in
set_option maxHeartbeats 4000000 in
theorem wX12_lighten_116 {X : Cx} {g : Gl} {l : Launch} {R : Rf} {a0 : Nat} {x1 : Int32} (K : Ok X g l cX12_lighten RX12 6 (some .int) rmX12_lighten) (hR : Ty g R) (k0 : kd g a0 = 12) {r : Int32 × Mm} (T : Mm) (x3 : Int32) (h : pX12_lighten_116 R a0 x1 T x3 = some r) : Zj X g 6 (QI X g r.1 R r.2) R T [some (.ref (g.2.2.1 a0)), none, none, some (.int x3), none, none] [] 116 := by
  unfold pX12_lighten_116 at h
  refine z_aload_n K dX12_lighten_116 rfl ?_
  refine z_iconst K 1 dX12_lighten_117 rfl ?_
  refine z_putI K clX12 tyX12_ok nmX12 k0 26 rfl rfl q1364 rfl rfl rfl dX12_lighten_118 ?_
  refine z_aload_n K dX12_lighten_121 rfl ?_
  refine z_iload_n K dX12_lighten_122 rfl ?_
  refine z_putI K clX12 tyX12_ok nmX12 k0 24 rfl rfl q1362 rfl rfl rfl dX12_lighten_123 ?_
  refine z_iload_n K dX12_lighten_126 rfl ?_
  obtain ⟨u21, hc, h⟩ := bd1_e h
  refine z_callSI K (mX12_bits l hR hc) ceX12_bits q1626 ⟨rfl, rfl, rfl, rfl⟩ rfl rfl rfl dX12_lighten_127 ?_
  obtain rfl := Option.some.inj h
  exact z_iret K dX12_lighten_130
set_option maxRecDepth 100000 in
set_option maxHeartbeats 4000000 in
theorem mX12_lighten {g : Gl} {R : Rf} {T : Mm} {a0 : Nat} {x1 : Int32} (l : Launch) (hR : Ty g R) (k0 : kd g a0 = 12) {r : Int32 × Mm} (h : pX12_lighten R T a0 x1 = some r) : MI l g yX12_lighten cX12_lighten 6 (some .int) rmX12_lighten [.ref (g.2.2.1 a0), .int x1] R T r.1 R r.2 := by
  refine z_metI (own := RX12) (lv := [some (.ref (g.2.2.1 a0)), some (.int x1), none, none, none, none]) (by decide +kernel) rfl rfl rfl (fun X K => ?_)
  unfold pX12_lighten at h
  refine z_aload_n K dX12_lighten_0 rfl ?_
  refine z_iconst K 0 dX12_lighten_1 rfl ?_
  refine z_putI K clX12 tyX12_ok nmX12 k0 0 rfl rfl q1338 rfl rfl rfl dX12_lighten_2 ?_
  refine z_aload_n K dX12_lighten_5 rfl ?_
  refine z_iload_n K dX12_lighten_6 rfl ?_
  obtain ⟨u2, hc, h⟩ := bd1_e h
  refine z_callVI K (mX12_isPerson l hR k0 hc) clX12 k0 ceX12_isPerson q1590 ⟨rfl, rfl, rfl, rfl⟩ rfl rfl rfl dX12_lighten_7 ?_
  refine z_if_eq K 21 dX12_lighten_10 (by decide) (fun c => ?_) (fun c => ?_)
  · have h := ite_t h c
    refine z_iconst K (-1) dX12_lighten_21 rfl ?_
    obtain rfl := Option.some.inj h
    exact z_iret K dX12_lighten_22
  · have h := ite_f h c
    refine z_aload_n K dX12_lighten_13 rfl ?_
    refine z_iload_n K dX12_lighten_14 rfl ?_
    obtain ⟨u3, hc, h⟩ := bd1_e h
    refine z_callVI K (mX12_isDown l hR k0 hc) clX12 k0 ceX12_isDown q1697 ⟨rfl, rfl, rfl, rfl⟩ rfl rfl rfl dX12_lighten_15 ?_
    refine z_if_eq K 23 dX12_lighten_18 (by decide) (fun c => ?_) (fun c => ?_)
    · have h := ite_t h c
      refine z_aload_n K dX12_lighten_23 rfl ?_
      refine z_iload_n K dX12_lighten_24 rfl ?_
      obtain ⟨u4, hc, h⟩ := bd1_e h
      refine z_callVI K (mX12_barrelOf l hR k0 hc) clX12 k0 ceX12_barrelOf q1602 ⟨rfl, rfl, rfl, rfl⟩ rfl rfl rfl dX12_lighten_25 ?_
      refine z_istore_n K dX12_lighten_28 rfl rfl ?_
      refine z_iload_n K dX12_lighten_29 rfl ?_
      refine z_istore_n K dX12_lighten_30 rfl rfl ?_
      refine z_iconst K 0 dX12_lighten_31 rfl ?_
      refine z_istore K dX12_lighten_32 rfl rfl ?_
      refine Zj.mask [true, true, true, true, true, false] ?_
      exact wX12_lighten_34 K hR k0 (wX12_lighten_116 K hR k0) FU _ _ _ _ h
    · have h := ite_f h c
      refine z_iconst K (-1) dX12_lighten_21 rfl ?_
      obtain rfl := Option.some.inj h
      exact z_iret K dX12_lighten_22
/-! GoingOverModel.lightened ()I -/
abbrev rmX12_lightened : Room := { frames := 0, cells := 0, slots := 0, locals := 0 }
def pX12_lightened (R : Rf) (T : Mm) (a0 : Nat) : Option (Int32 × Mm) :=
  lt (wI T a0 0 0) (fun (T1 : Mm) => if (T1.1 a0 26) = 0 then some ((-1), T1) else some (T1.1 a0 24, T1))
set_option maxRecDepth 100000 in
set_option maxHeartbeats 4000000 in
theorem mX12_lightened {g : Gl} {R : Rf} {T : Mm} {a0 : Nat} (l : Launch) (hR : Ty g R) (k0 : kd g a0 = 12) {r : Int32 × Mm} (h : pX12_lightened R T a0 = some r) : MI l g yX12_lightened cX12_lightened 1 (some .int) rmX12_lightened [.ref (g.2.2.1 a0)] R T r.1 R r.2 := by
  refine z_metI (own := RX12) (lv := [some (.ref (g.2.2.1 a0))]) (by decide +kernel) rfl rfl rfl (fun X K => ?_)
  unfold pX12_lightened at h
  refine z_aload_n K dX12_lightened_0 rfl ?_
  refine z_iconst K 0 dX12_lightened_1 rfl ?_
  refine z_putI K clX12 tyX12_ok nmX12 k0 0 rfl rfl q1338 rfl rfl rfl dX12_lightened_2 ?_
  refine z_aload_n K dX12_lightened_5 rfl ?_
  refine z_getI K clX12 k0 26 rfl rfl q1364 dX12_lightened_6 ?_
  refine z_if_eq K 19 dX12_lightened_9 (by decide) (fun c => ?_) (fun c => ?_)
  · have h := ite_t h c
    refine z_iconst K (-1) dX12_lightened_19 rfl ?_
    obtain rfl := Option.some.inj h
    exact z_iret K dX12_lightened_20
  · have h := ite_f h c
    refine z_aload_n K dX12_lightened_12 rfl ?_
    refine z_getI K clX12 k0 24 rfl rfl q1362 dX12_lightened_13 ?_
    refine z_goto K 20 dX12_lightened_16 (by decide) ?_
    obtain rfl := Option.some.inj h
    exact z_iret K dX12_lightened_20
/-! GoingOverModel.keep (I)I -/
abbrev rmX12_keep : Room := { frames := 3, cells := 0, slots := 0, locals := 74 }
def pX12_keep_41 (R : Rf) (a0 : Nat) (x1 : Int32) (e108 : Mm → Int32 → Option (Int32 × Mm)) (r41 : Mm → Int32 → Int32 → Int32 → Int32 → Option (Int32 × Mm)) (T : Mm) (x2 : Int32) (x3 : Int32) (x4 : Int32) (x5 : Int32) : Option (Int32 × Mm) :=
  if x2 < x5 then e108 T x4 else if (x5 &&& (x2 ^^^ (-1))) = 0 then bd1 (pX12_weighsIn R T a0 x5) (fun (u7 : Int32) => bd1 (pX12_flowNow R T a0) (fun (u8 : Int32) => if u8 < u7 then lt (x5 + 1) (fun (v9 : Int32) => r41 T x2 x3 x4 v9) else bd1 (pX12_weighsIn R T a0 x5) (fun (u10 : Int32) => bd1 (pX12_weighsIn R T a0 x4) (fun (u11 : Int32) => if u10 ≤ u11 then lt (x5 + 1) (fun (v12 : Int32) => r41 T x2 x3 x4 v12) else bd1 (pX12_partsOf R T a0 x5 x3) (fun (u13 : Int32) => if u13 = 1 then lt (x5 + 1) (fun (v14 : Int32) => r41 T x2 x3 x5 v14) else lt (x5 + 1) (fun (v15 : Int32) => r41 T x2 x3 x4 v15)))))) else lt (x5 + 1) (fun (v6 : Int32) => r41 T x2 x3 x4 v6)
def pX12_keep_108 (R : Rf) (a0 : Nat) (x1 : Int32) (T : Mm) (x4 : Int32) : Option (Int32 × Mm) :=
  lt (wI T a0 27 1) (fun (T16 : Mm) => lt (wI T16 a0 25 x4) (fun (T17 : Mm) => bd1 (pX12_weighsIn R T17 a0 x4) (fun (u18 : Int32) => some (u18, T17))))
def pX12_keep (R : Rf) (T : Mm) (a0 : Nat) (x1 : Int32) : Option (Int32 × Mm) :=
  lt (wI T a0 0 0) (fun (T1 : Mm) => bd1 (pX12_isPerson R T1 a0 x1) (fun (u2 : Int32) => if u2 = 0 then some ((-1), T1) else bd1 (pX12_isDown R T1 a0 x1) (fun (u3 : Int32) => if u3 = 0 then bd1 (pX12_barrelOf R T1 a0 x1) (fun (u4 : Int32) => bd1 (pX12_fateJoins R T1 a0 x1) (fun (u5 : Int32) => zl5 (pX12_keep_41 R a0 x1 (pX12_keep_108 R a0 x1)) FU T1 u4 u5 0 1)) else some ((-1), T1))))
set_option maxRecDepth 100000 in
set_option maxHeartbeats 4000000 in
theorem wX12_keep_41 {X : Cx} {g : Gl} {l : Launch} {R : Rf} {a0 : Nat} {x1 : Int32} (K : Ok X g l cX12_keep RX12 6 (some .int) rmX12_keep) (hR : Ty g R) (k0 : kd g a0 = 12) {r : Int32 × Mm} {e108 : Mm → Int32 → Option (Int32 × Mm)} (he108 : ∀ (T : Mm) (x4 : Int32), e108 T x4 = some r → Zj X g 6 (QI X g r.1 R r.2) R T [some (.ref (g.2.2.1 a0)), none, none, none, some (.int x4), none] [] 108) : ∀ (n : Nat) (T : Mm) (x2 : Int32) (x3 : Int32) (x4 : Int32) (x5 : Int32), zl5 (pX12_keep_41 R a0 x1 e108) n T x2 x3 x4 x5 = some r → Zj X g 6 (QI X g r.1 R r.2) R T [some (.ref (g.2.2.1 a0)), none, some (.int x2), some (.int x3), some (.int x4), some (.int x5)] [] 41 := by
  intro n
  induction n with
  | zero =>
    intro T x2 x3 x4 x5 h
    exact absurd h (by simp [zl5])
  | succ n hr41 =>
    intro T x2 x3 x4 x5 h
    rw [zl5_s] at h
    unfold pX12_keep_41 at h
    refine z_iload K dX12_keep_41 rfl ?_
    refine z_iload_n K dX12_keep_43 rfl ?_
    refine z_icmp_gt K 108 dX12_keep_44 (by decide) (fun c => ?_) (fun c => ?_)
    · have h := ite_t h c
      refine Zj.mask [true, false, false, false, true, false] ?_
      exact he108 _ _ h
    · have h := ite_f h c
      refine z_iload K dX12_keep_47 rfl ?_
      refine z_iload_n K dX12_keep_49 rfl ?_
      refine z_iconst K (-1) dX12_keep_50 rfl ?_
      refine z_ixor K dX12_keep_51 ?_
      refine z_iand K dX12_keep_52 ?_
      refine z_if_ne K 102 dX12_keep_53 (by decide) (fun c => ?_) (fun c => ?_)
      · have h := ite_f h c
        refine z_iinc K 1 dX12_keep_102 rfl rfl rfl rfl ?_
        refine z_goto K 41 dX12_keep_105 (by decide) ?_
        refine Zj.mask [true, false, true, true, true, true] ?_
        exact hr41 _ _ _ _ _ h
      · have h := ite_t h c
        refine z_aload_n K dX12_keep_56 rfl ?_
        refine z_iload K dX12_keep_57 rfl ?_
        obtain ⟨u7, hc, h⟩ := bd1_e h
        refine z_callVI K (mX12_weighsIn l hR k0 hc) clX12 k0 ceX12_weighsIn q1610 ⟨rfl, rfl, rfl, rfl⟩ rfl rfl rfl dX12_keep_59 ?_
        refine z_aload_n K dX12_keep_62 rfl ?_
        obtain ⟨u8, hc, h⟩ := bd1_e h
        refine z_callVI K (mX12_flowNow l hR k0 hc) clX12 k0 ceX12_flowNow q1653 ⟨rfl, rfl, rfl, rfl⟩ rfl rfl rfl dX12_keep_63 ?_
        refine z_icmp_gt K 102 dX12_keep_66 (by decide) (fun c => ?_) (fun c => ?_)
        · have h := ite_t h c
          refine z_iinc K 1 dX12_keep_102 rfl rfl rfl rfl ?_
          refine z_goto K 41 dX12_keep_105 (by decide) ?_
          refine Zj.mask [true, false, true, true, true, true] ?_
          exact hr41 _ _ _ _ _ h
        · have h := ite_f h c
          refine z_aload_n K dX12_keep_69 rfl ?_
          refine z_iload K dX12_keep_70 rfl ?_
          obtain ⟨u10, hc, h⟩ := bd1_e h
          refine z_callVI K (mX12_weighsIn l hR k0 hc) clX12 k0 ceX12_weighsIn q1610 ⟨rfl, rfl, rfl, rfl⟩ rfl rfl rfl dX12_keep_72 ?_
          refine z_aload_n K dX12_keep_75 rfl ?_
          refine z_iload K dX12_keep_76 rfl ?_
          obtain ⟨u11, hc, h⟩ := bd1_e h
          refine z_callVI K (mX12_weighsIn l hR k0 hc) clX12 k0 ceX12_weighsIn q1610 ⟨rfl, rfl, rfl, rfl⟩ rfl rfl rfl dX12_keep_78 ?_
          refine z_icmp_le K 102 dX12_keep_81 (by decide) (fun c => ?_) (fun c => ?_)
          · have h := ite_t h c
            refine z_iinc K 1 dX12_keep_102 rfl rfl rfl rfl ?_
            refine z_goto K 41 dX12_keep_105 (by decide) ?_
            refine Zj.mask [true, false, true, true, true, true] ?_
            exact hr41 _ _ _ _ _ h
          · have h := ite_f h c
            refine z_aload_n K dX12_keep_84 rfl ?_
            refine z_iload K dX12_keep_85 rfl ?_
            refine z_iload_n K dX12_keep_87 rfl ?_
            obtain ⟨u13, hc, h⟩ := bd1_e h
            refine z_callVI K (mX12_partsOf l hR k0 hc) clX12 k0 ceX12_partsOf q1618 ⟨rfl, rfl, rfl, rfl⟩ rfl rfl rfl dX12_keep_88 ?_
            refine z_iconst K 1 dX12_keep_91 rfl ?_
            refine z_icmp_eq K 98 dX12_keep_92 (by decide) (fun c => ?_) (fun c => ?_)
            · have h := ite_t h c
              refine z_iload K dX12_keep_98 rfl ?_
              refine z_istore K dX12_keep_100 rfl rfl ?_
              refine z_iinc K 1 dX12_keep_102 rfl rfl rfl rfl ?_
              refine z_goto K 41 dX12_keep_105 (by decide) ?_
              refine Zj.mask [true, false, true, true, true, true] ?_
              exact hr41 _ _ _ _ _ h
            · have h := ite_f h c
              refine z_goto K 102 dX12_keep_95 (by decide) ?_
              refine z_iinc K 1 dX12_keep_102 rfl rfl rfl rfl ?_
              refine z_goto K 41 dX12_keep_105 (by decide) ?_
              refine Zj.mask [true, false, true, true, true, true] ?_
              exact hr41 _ _ _ _ _ h
set_option maxRecDepth 100000 in
set_option maxHeartbeats 4000000 in
theorem wX12_keep_108 {X : Cx} {g : Gl} {l : Launch} {R : Rf} {a0 : Nat} {x1 : Int32} (K : Ok X g l cX12_keep RX12 6 (some .int) rmX12_keep) (hR : Ty g R) (k0 : kd g a0 = 12) {r : Int32 × Mm} (T : Mm) (x4 : Int32) (h : pX12_keep_108 R a0 x1 T x4 = some r) : Zj X g 6 (QI X g r.1 R r.2) R T [some (.ref (g.2.2.1 a0)), none, none, none, some (.int x4), none] [] 108 := by
  unfold pX12_keep_108 at h
  refine z_aload_n K dX12_keep_108 rfl ?_
  refine z_iconst K 1 dX12_keep_109 rfl ?_
  refine z_putI K clX12 tyX12_ok nmX12 k0 27 rfl rfl q1365 rfl rfl rfl dX12_keep_110 ?_
  refine z_aload_n K dX12_keep_113 rfl ?_
  refine z_iload K dX12_keep_114 rfl ?_
  refine z_putI K clX12 tyX12_ok nmX12 k0 25 rfl rfl q1363 rfl rfl rfl dX12_keep_116 ?_
  refine z_aload_n K dX12_keep_119 rfl ?_
  refine z_iload K dX12_keep_120 rfl ?_
  obtain ⟨u18, hc, h⟩ := bd1_e h
  refine z_callVI K (mX12_weighsIn l hR k0 hc) clX12 k0 ceX12_weighsIn q1610 ⟨rfl, rfl, rfl, rfl⟩ rfl rfl rfl dX12_keep_122 ?_
  obtain rfl := Option.some.inj h
  exact z_iret K dX12_keep_125
set_option maxRecDepth 100000 in
set_option maxHeartbeats 4000000 in
theorem mX12_keep {g : Gl} {R : Rf} {T : Mm} {a0 : Nat} {x1 : Int32} (l : Launch) (hR : Ty g R) (k0 : kd g a0 = 12) {r : Int32 × Mm} (h : pX12_keep R T a0 x1 = some r) : MI l g yX12_keep cX12_keep 6 (some .int) rmX12_keep [.ref (g.2.2.1 a0), .int x1] R T r.1 R r.2 := by
  refine z_metI (own := RX12) (lv := [some (.ref (g.2.2.1 a0)), some (.int x1), none, none, none, none]) (by decide +kernel) rfl rfl rfl (fun X K => ?_)
  unfold pX12_keep at h
  refine z_aload_n K dX12_keep_0 rfl ?_
  refine z_iconst K 0 dX12_keep_1 rfl ?_
  refine z_putI K clX12 tyX12_ok nmX12 k0 0 rfl rfl q1338 rfl rfl rfl dX12_keep_2 ?_
  refine z_aload_n K dX12_keep_5 rfl ?_
  refine z_iload_n K dX12_keep_6 rfl ?_
  obtain ⟨u2, hc, h⟩ := bd1_e h
  refine z_callVI K (mX12_isPerson l hR k0 hc) clX12 k0 ceX12_isPerson q1590 ⟨rfl, rfl, rfl, rfl⟩ rfl rfl rfl dX12_keep_7 ?_
  refine z_if_eq K 21 dX12_keep_10 (by decide) (fun c => ?_) (fun c => ?_)
  · have h := ite_t h c
    refine z_iconst K (-1) dX12_keep_21 rfl ?_
    obtain rfl := Option.some.inj h
    exact z_iret K dX12_keep_22
  · have h := ite_f h c
    refine z_aload_n K dX12_keep_13 rfl ?_
    refine z_iload_n K dX12_keep_14 rfl ?_
    obtain ⟨u3, hc, h⟩ := bd1_e h
    refine z_callVI K (mX12_isDown l hR k0 hc) clX12 k0 ceX12_isDown q1697 ⟨rfl, rfl, rfl, rfl⟩ rfl rfl rfl dX12_keep_15 ?_
    refine z_if_eq K 23 dX12_keep_18 (by decide) (fun c => ?_) (fun c => ?_)
    · have h := ite_t h c
      refine z_aload_n K dX12_keep_23 rfl ?_
      refine z_iload_n K dX12_keep_24 rfl ?_
      obtain ⟨u4, hc, h⟩ := bd1_e h
      refine z_callVI K (mX12_barrelOf l hR k0 hc) clX12 k0 ceX12_barrelOf q1602 ⟨rfl, rfl, rfl, rfl⟩ rfl rfl rfl dX12_keep_25 ?_
      refine z_istore_n K dX12_keep_28 rfl rfl ?_
      refine z_aload_n K dX12_keep_29 rfl ?_
      refine z_iload_n K dX12_keep_30 rfl ?_
      obtain ⟨u5, hc, h⟩ := bd1_e h
      refine z_callVI K (mX12_fateJoins l hR k0 hc) clX12 k0 ceX12_fateJoins q1745 ⟨rfl, rfl, rfl, rfl⟩ rfl rfl rfl dX12_keep_31 ?_
      refine z_istore_n K dX12_keep_34 rfl rfl ?_
      refine z_iconst K 0 dX12_keep_35 rfl ?_
      refine z_istore K dX12_keep_36 rfl rfl ?_
      refine z_iconst K 1 dX12_keep_38 rfl ?_
      refine z_istore K dX12_keep_39 rfl rfl ?_
      refine Zj.mask [true, false, true, true, true, true] ?_
      exact wX12_keep_41 K hR k0 (wX12_keep_108 K hR k0) FU _ _ _ _ _ h
    · have h := ite_f h c
      refine z_iconst K (-1) dX12_keep_21 rfl ?_
      obtain rfl := Option.some.inj h
      exact z_iret K dX12_keep_22
/-! GoingOverModel.keeps ()I -/
abbrev rmX12_keeps : Room := { frames := 0, cells := 0, slots := 0, locals := 0 }
def pX12_keeps (R : Rf) (T : Mm) (a0 : Nat) : Option (Int32 × Mm) :=
  lt (wI T a0 0 0) (fun (T1 : Mm) => if (T1.1 a0 27) = 0 then some ((-1), T1) else some (T1.1 a0 25, T1))
set_option maxRecDepth 100000 in
set_option maxHeartbeats 4000000 in
theorem mX12_keeps {g : Gl} {R : Rf} {T : Mm} {a0 : Nat} (l : Launch) (hR : Ty g R) (k0 : kd g a0 = 12) {r : Int32 × Mm} (h : pX12_keeps R T a0 = some r) : MI l g yX12_keeps cX12_keeps 1 (some .int) rmX12_keeps [.ref (g.2.2.1 a0)] R T r.1 R r.2 := by
  refine z_metI (own := RX12) (lv := [some (.ref (g.2.2.1 a0))]) (by decide +kernel) rfl rfl rfl (fun X K => ?_)
  unfold pX12_keeps at h
  refine z_aload_n K dX12_keeps_0 rfl ?_
  refine z_iconst K 0 dX12_keeps_1 rfl ?_
  refine z_putI K clX12 tyX12_ok nmX12 k0 0 rfl rfl q1338 rfl rfl rfl dX12_keeps_2 ?_
  refine z_aload_n K dX12_keeps_5 rfl ?_
  refine z_getI K clX12 k0 27 rfl rfl q1365 dX12_keeps_6 ?_
  refine z_if_eq K 19 dX12_keeps_9 (by decide) (fun c => ?_) (fun c => ?_)
  · have h := ite_t h c
    refine z_iconst K (-1) dX12_keeps_19 rfl ?_
    obtain rfl := Option.some.inj h
    exact z_iret K dX12_keeps_20
  · have h := ite_f h c
    refine z_aload_n K dX12_keeps_12 rfl ?_
    refine z_getI K clX12 k0 25 rfl rfl q1363 dX12_keeps_13 ?_
    refine z_goto K 20 dX12_keeps_16 (by decide) ?_
    obtain rfl := Option.some.inj h
    exact z_iret K dX12_keeps_20
/-! GoingOverModel.apart (II)I -/
abbrev rmX12_apart : Room := { frames := 3, cells := 0, slots := 0, locals := 65 }
def pX12_apart (R : Rf) (T : Mm) (a0 : Nat) (x1 : Int32) (x2 : Int32) : Option (Int32 × Mm) :=
  lt (wI T a0 0 0) (fun (T1 : Mm) => bd1 (pX12_isItem R T1 a0 x1) (fun (u2 : Int32) => if u2 = 0 then some ((-1), T1) else bd1 (pX12_isItem R T1 a0 x2) (fun (u3 : Int32) => if u3 = 0 then some ((-1), T1) else if x1 = x2 then some ((-1), T1) else ix (12 + x1) 270 (ix (12 + x2) 270 (if (T1.1 (R a0 6) (12 + x1).toNatClampNeg) = (T1.1 (R a0 6) (12 + x2).toNatClampNeg) then ix 81 270 (bd1 (pX12_bitOf R T1 (T1.1 (R a0 6) (81 : Int32).toNatClampNeg) x1) (fun (u4 : Int32) => if u4 = 0 then some ((-1), T1) else ix 81 270 (bd1 (pX12_bitOf R T1 (T1.1 (R a0 6) (81 : Int32).toNatClampNeg) x2) (fun (u5 : Int32) => if u5 = 0 then some ((-1), T1) else ix 81 270 (ix (12 + x1) 270 (bd1 (pX12_fateJoins R T1 a0 (T1.1 (R a0 6) (12 + x1).toNatClampNeg)) (fun (u6 : Int32) => bd1 (pX12_heldWith R T1 a0 x1 (T1.1 (R a0 6) (81 : Int32).toNatClampNeg) u6) (fun (u7 : Int32) => bd1 (pX12_bitOf R T1 u7 x2) (fun (u8 : Int32) => if u8 = 0 then some (1, T1) else some (0, T1)))))))))) else some ((-1), T1))))))
set_option maxRecDepth 100000 in
set_option maxHeartbeats 4000000 in
theorem mX12_apart {g : Gl} {R : Rf} {T : Mm} {a0 : Nat} {x1 : Int32} {x2 : Int32} (l : Launch) (hR : Ty g R) (k0 : kd g a0 = 12) {r : Int32 × Mm} (h : pX12_apart R T a0 x1 x2 = some r) : MI l g yX12_apart cX12_apart 3 (some .int) rmX12_apart [.ref (g.2.2.1 a0), .int x1, .int x2] R T r.1 R r.2 := by
  refine z_metI (own := RX12) (lv := [some (.ref (g.2.2.1 a0)), some (.int x1), some (.int x2)]) (by decide +kernel) rfl rfl rfl (fun X K => ?_)
  unfold pX12_apart at h
  refine z_aload_n K dX12_apart_0 rfl ?_
  refine z_iconst K 0 dX12_apart_1 rfl ?_
  refine z_putI K clX12 tyX12_ok nmX12 k0 0 rfl rfl q1338 rfl rfl rfl dX12_apart_2 ?_
  refine z_aload_n K dX12_apart_5 rfl ?_
  refine z_iload_n K dX12_apart_6 rfl ?_
  obtain ⟨u2, hc, h⟩ := bd1_e h
  refine z_callVI K (mX12_isItem l hR k0 hc) clX12 k0 ceX12_isItem q1633 ⟨rfl, rfl, rfl, rfl⟩ rfl rfl rfl dX12_apart_7 ?_
  refine z_if_eq K 75 dX12_apart_10 (by decide) (fun c => ?_) (fun c => ?_)
  · have h := ite_t h c
    refine z_iconst K (-1) dX12_apart_75 rfl ?_
    obtain rfl := Option.some.inj h
    exact z_iret K dX12_apart_76
  · have h := ite_f h c
    refine z_aload_n K dX12_apart_13 rfl ?_
    refine z_iload_n K dX12_apart_14 rfl ?_
    obtain ⟨u3, hc, h⟩ := bd1_e h
    refine z_callVI K (mX12_isItem l hR k0 hc) clX12 k0 ceX12_isItem q1633 ⟨rfl, rfl, rfl, rfl⟩ rfl rfl rfl dX12_apart_15 ?_
    refine z_if_eq K 75 dX12_apart_18 (by decide) (fun c => ?_) (fun c => ?_)
    · have h := ite_t h c
      refine z_iconst K (-1) dX12_apart_75 rfl ?_
      obtain rfl := Option.some.inj h
      exact z_iret K dX12_apart_76
    · have h := ite_f h c
      refine z_iload_n K dX12_apart_21 rfl ?_
      refine z_iload_n K dX12_apart_22 rfl ?_
      refine z_icmp_eq K 75 dX12_apart_23 (by decide) (fun c => ?_) (fun c => ?_)
      · have h := ite_t h c
        refine z_iconst K (-1) dX12_apart_75 rfl ?_
        obtain rfl := Option.some.inj h
        exact z_iret K dX12_apart_76
      · have h := ite_f h c
        refine z_aload_n K dX12_apart_26 rfl ?_
        refine z_getR K clX12 k0 6 rfl rfl q1344 dX12_apart_27 ?_
        refine z_bipush K 12 dX12_apart_30 rfl ?_
        refine z_iload_n K dX12_apart_32 rfl ?_
        refine z_iadd K dX12_apart_33 ?_
        obtain ⟨hi, h⟩ := ix_e h
        refine z_iald K (hR.at (k := 6) (t := 20270) k0 rfl rfl) rfl rfl rfl hi dX12_apart_34 ?_
        refine z_aload_n K dX12_apart_35 rfl ?_
        refine z_getR K clX12 k0 6 rfl rfl q1344 dX12_apart_36 ?_
        refine z_bipush K 12 dX12_apart_39 rfl ?_
        refine z_iload_n K dX12_apart_41 rfl ?_
        refine z_iadd K dX12_apart_42 ?_
        obtain ⟨hi, h⟩ := ix_e h
        refine z_iald K (hR.at (k := 6) (t := 20270) k0 rfl rfl) rfl rfl rfl hi dX12_apart_43 ?_
        refine z_icmp_ne K 75 dX12_apart_44 (by decide) (fun c => ?_) (fun c => ?_)
        · have h := ite_f h c
          refine z_iconst K (-1) dX12_apart_75 rfl ?_
          obtain rfl := Option.some.inj h
          exact z_iret K dX12_apart_76
        · have h := ite_t h c
          refine z_aload_n K dX12_apart_47 rfl ?_
          refine z_getR K clX12 k0 6 rfl rfl q1344 dX12_apart_48 ?_
          refine z_bipush K 81 dX12_apart_51 rfl ?_
          obtain ⟨hi, h⟩ := ix_e h
          refine z_iald K (hR.at (k := 6) (t := 20270) k0 rfl rfl) rfl rfl rfl hi dX12_apart_53 ?_
          refine z_iload_n K dX12_apart_54 rfl ?_
          obtain ⟨u4, hc, h⟩ := bd1_e h
          refine z_callSI K (mX12_bitOf l hR hc) ceX12_bitOf q1524 ⟨rfl, rfl, rfl, rfl⟩ rfl rfl rfl dX12_apart_55 ?_
          refine z_if_eq K 75 dX12_apart_58 (by decide) (fun c => ?_) (fun c => ?_)
          · have h := ite_t h c
            refine z_iconst K (-1) dX12_apart_75 rfl ?_
            obtain rfl := Option.some.inj h
            exact z_iret K dX12_apart_76
          · have h := ite_f h c
            refine z_aload_n K dX12_apart_61 rfl ?_
            refine z_getR K clX12 k0 6 rfl rfl q1344 dX12_apart_62 ?_
            refine z_bipush K 81 dX12_apart_65 rfl ?_
            obtain ⟨hi, h⟩ := ix_e h
            refine z_iald K (hR.at (k := 6) (t := 20270) k0 rfl rfl) rfl rfl rfl hi dX12_apart_67 ?_
            refine z_iload_n K dX12_apart_68 rfl ?_
            obtain ⟨u5, hc, h⟩ := bd1_e h
            refine z_callSI K (mX12_bitOf l hR hc) ceX12_bitOf q1524 ⟨rfl, rfl, rfl, rfl⟩ rfl rfl rfl dX12_apart_69 ?_
            refine z_if_ne K 77 dX12_apart_72 (by decide) (fun c => ?_) (fun c => ?_)
            · have h := ite_f h c
              refine z_aload_n K dX12_apart_77 rfl ?_
              refine z_iload_n K dX12_apart_78 rfl ?_
              refine z_aload_n K dX12_apart_79 rfl ?_
              refine z_getR K clX12 k0 6 rfl rfl q1344 dX12_apart_80 ?_
              refine z_bipush K 81 dX12_apart_83 rfl ?_
              obtain ⟨hi, h⟩ := ix_e h
              refine z_iald K (hR.at (k := 6) (t := 20270) k0 rfl rfl) rfl rfl rfl hi dX12_apart_85 ?_
              refine z_aload_n K dX12_apart_86 rfl ?_
              refine z_aload_n K dX12_apart_87 rfl ?_
              refine z_getR K clX12 k0 6 rfl rfl q1344 dX12_apart_88 ?_
              refine z_bipush K 12 dX12_apart_91 rfl ?_
              refine z_iload_n K dX12_apart_93 rfl ?_
              refine z_iadd K dX12_apart_94 ?_
              obtain ⟨hi, h⟩ := ix_e h
              refine z_iald K (hR.at (k := 6) (t := 20270) k0 rfl rfl) rfl rfl rfl hi dX12_apart_95 ?_
              obtain ⟨u6, hc, h⟩ := bd1_e h
              refine z_callVI K (mX12_fateJoins l hR k0 hc) clX12 k0 ceX12_fateJoins q1745 ⟨rfl, rfl, rfl, rfl⟩ rfl rfl rfl dX12_apart_96 ?_
              obtain ⟨u7, hc, h⟩ := bd1_e h
              refine z_callVI K (mX12_heldWith l hR k0 hc) clX12 k0 ceX12_heldWith q1622 ⟨rfl, rfl, rfl, rfl⟩ rfl rfl rfl dX12_apart_99 ?_
              refine z_iload_n K dX12_apart_102 rfl ?_
              obtain ⟨u8, hc, h⟩ := bd1_e h
              refine z_callSI K (mX12_bitOf l hR hc) ceX12_bitOf q1524 ⟨rfl, rfl, rfl, rfl⟩ rfl rfl rfl dX12_apart_103 ?_
              refine z_if_eq K 113 dX12_apart_106 (by decide) (fun c => ?_) (fun c => ?_)
              · have h := ite_t h c
                refine z_iconst K 1 dX12_apart_113 rfl ?_
                obtain rfl := Option.some.inj h
                exact z_iret K dX12_apart_114
              · have h := ite_f h c
                refine z_iconst K 0 dX12_apart_109 rfl ?_
                refine z_goto K 114 dX12_apart_110 (by decide) ?_
                obtain rfl := Option.some.inj h
                exact z_iret K dX12_apart_114
            · have h := ite_t h c
              refine z_iconst K (-1) dX12_apart_75 rfl ?_
              obtain rfl := Option.some.inj h
              exact z_iret K dX12_apart_76
/-! GoingOverModel.crack (I)I -/
abbrev rmX12_crack : Room := { frames := 2, cells := 0, slots := 0, locals := 43 }
def pX12_crack_19 (R : Rf) (a0 : Nat) (x1 : Int32) (e97 : Mm → Int32 → Option (Int32 × Mm)) (r19 : Mm → Int32 → Int32 → Option (Int32 × Mm)) (T : Mm) (x2 : Int32) (x3 : Int32) : Option (Int32 × Mm) :=
  ix 2 270 (if (T.1 (R a0 6) (2 : Int32).toNatClampNeg) ≤ x3 then e97 T x2 else ix 82 270 (bd1 (pX12_bitOf R T (T.1 (R a0 6) (82 : Int32).toNatClampNeg) x3) (fun (u3 : Int32) => if u3 = 0 then lt (x3 + 1) (fun (v4 : Int32) => r19 T x2 v4) else ix (32 + x3) 270 (ix (12 + (T.1 (R a0 6) (32 + x3).toNatClampNeg)) 270 (if (T.1 (R a0 6) (12 + (T.1 (R a0 6) (32 + x3).toNatClampNeg)).toNatClampNeg) = x1 then if x2 < 0 then lt (x3 + 1) (fun (v6 : Int32) => r19 T x3 v6) else ix (64 + x3) 270 (ix (64 + x2) 270 (if (T.1 (R a0 6) (64 + x2).toNatClampNeg) ≤ (T.1 (R a0 6) (64 + x3).toNatClampNeg) then lt (x3 + 1) (fun (v7 : Int32) => r19 T x2 v7) else lt (x3 + 1) (fun (v8 : Int32) => r19 T x3 v8))) else lt (x3 + 1) (fun (v5 : Int32) => r19 T x2 v5))))))
def pX12_crack_97 (R : Rf) (a0 : Nat) (x1 : Int32) (T : Mm) (x2 : Int32) : Option (Int32 × Mm) :=
  some (x2, T)
def pX12_crack (R : Rf) (T : Mm) (a0 : Nat) (x1 : Int32) : Option (Int32 × Mm) :=
  lt (wI T a0 0 0) (fun (T1 : Mm) => bd1 (pX12_isPerson R T1 a0 x1) (fun (u2 : Int32) => if u2 = 0 then some ((-1), T1) else zl3 (pX12_crack_19 R a0 x1 (pX12_crack_97 R a0 x1)) FU T1 (-1) 0))
set_option maxRecDepth 100000 in
set_option maxHeartbeats 4000000 in
theorem wX12_crack_19 {X : Cx} {g : Gl} {l : Launch} {R : Rf} {a0 : Nat} {x1 : Int32} (K : Ok X g l cX12_crack RX12 4 (some .int) rmX12_crack) (hR : Ty g R) (k0 : kd g a0 = 12) {r : Int32 × Mm} {e97 : Mm → Int32 → Option (Int32 × Mm)} (he97 : ∀ (T : Mm) (x2 : Int32), e97 T x2 = some r → Zj X g 4 (QI X g r.1 R r.2) R T [none, none, some (.int x2), none] [] 97) : ∀ (n : Nat) (T : Mm) (x2 : Int32) (x3 : Int32), zl3 (pX12_crack_19 R a0 x1 e97) n T x2 x3 = some r → Zj X g 4 (QI X g r.1 R r.2) R T [some (.ref (g.2.2.1 a0)), some (.int x1), some (.int x2), some (.int x3)] [] 19 := by
  intro n
  induction n with
  | zero =>
    intro T x2 x3 h
    exact absurd h (by simp [zl3])
  | succ n hr19 =>
    intro T x2 x3 h
    rw [zl3_s] at h
    unfold pX12_crack_19 at h
    refine z_iload_n K dX12_crack_19 rfl ?_
    refine z_aload_n K dX12_crack_20 rfl ?_
    refine z_getR K clX12 k0 6 rfl rfl q1344 dX12_crack_21 ?_
    refine z_iconst K 2 dX12_crack_24 rfl ?_
    obtain ⟨hi, h⟩ := ix_e h
    refine z_iald K (hR.at (k := 6) (t := 20270) k0 rfl rfl) rfl rfl rfl hi dX12_crack_25 ?_
    refine z_icmp_ge K 97 dX12_crack_26 (by decide) (fun c => ?_) (fun c => ?_)
    · have h := ite_t h c
      refine Zj.mask [false, false, true, false] ?_
      exact he97 _ _ h
    · have h := ite_f h c
      refine z_aload_n K dX12_crack_29 rfl ?_
      refine z_getR K clX12 k0 6 rfl rfl q1344 dX12_crack_30 ?_
      refine z_bipush K 82 dX12_crack_33 rfl ?_
      obtain ⟨hi, h⟩ := ix_e h
      refine z_iald K (hR.at (k := 6) (t := 20270) k0 rfl rfl) rfl rfl rfl hi dX12_crack_35 ?_
      refine z_iload_n K dX12_crack_36 rfl ?_
      obtain ⟨u3, hc, h⟩ := bd1_e h
      refine z_callSI K (mX12_bitOf l hR hc) ceX12_bitOf q1524 ⟨rfl, rfl, rfl, rfl⟩ rfl rfl rfl dX12_crack_37 ?_
      refine z_if_eq K 91 dX12_crack_40 (by decide) (fun c => ?_) (fun c => ?_)
      · have h := ite_t h c
        refine z_iinc K 1 dX12_crack_91 rfl rfl rfl rfl ?_
        refine z_goto K 19 dX12_crack_94 (by decide) ?_
        refine Zj.mask [true, true, true, true] ?_
        exact hr19 _ _ _ h
      · have h := ite_f h c
        refine z_aload_n K dX12_crack_43 rfl ?_
        refine z_getR K clX12 k0 6 rfl rfl q1344 dX12_crack_44 ?_
        refine z_bipush K 12 dX12_crack_47 rfl ?_
        refine z_aload_n K dX12_crack_49 rfl ?_
        refine z_getR K clX12 k0 6 rfl rfl q1344 dX12_crack_50 ?_
        refine z_bipush K 32 dX12_crack_53 rfl ?_
        refine z_iload_n K dX12_crack_55 rfl ?_
        refine z_iadd K dX12_crack_56 ?_
        obtain ⟨hi, h⟩ := ix_e h
        refine z_iald K (hR.at (k := 6) (t := 20270) k0 rfl rfl) rfl rfl rfl hi dX12_crack_57 ?_
        refine z_iadd K dX12_crack_58 ?_
        obtain ⟨hi, h⟩ := ix_e h
        refine z_iald K (hR.at (k := 6) (t := 20270) k0 rfl rfl) rfl rfl rfl hi dX12_crack_59 ?_
        refine z_iload_n K dX12_crack_60 rfl ?_
        refine z_icmp_ne K 91 dX12_crack_61 (by decide) (fun c => ?_) (fun c => ?_)
        · have h := ite_f h c
          refine z_iinc K 1 dX12_crack_91 rfl rfl rfl rfl ?_
          refine z_goto K 19 dX12_crack_94 (by decide) ?_
          refine Zj.mask [true, true, true, true] ?_
          exact hr19 _ _ _ h
        · have h := ite_t h c
          refine z_iload_n K dX12_crack_64 rfl ?_
          refine z_if_lt K 89 dX12_crack_65 (by decide) (fun c => ?_) (fun c => ?_)
          · have h := ite_t h c
            refine z_iload_n K dX12_crack_89 rfl ?_
            refine z_istore_n K dX12_crack_90 rfl rfl ?_
            refine z_iinc K 1 dX12_crack_91 rfl rfl rfl rfl ?_
            refine z_goto K 19 dX12_crack_94 (by decide) ?_
            refine Zj.mask [true, true, true, true] ?_
            exact hr19 _ _ _ h
          · have h := ite_f h c
            refine z_aload_n K dX12_crack_68 rfl ?_
            refine z_getR K clX12 k0 6 rfl rfl q1344 dX12_crack_69 ?_
            refine z_bipush K 64 dX12_crack_72 rfl ?_
            refine z_iload_n K dX12_crack_74 rfl ?_
            refine z_iadd K dX12_crack_75 ?_
            obtain ⟨hi, h⟩ := ix_e h
            refine z_iald K (hR.at (k := 6) (t := 20270) k0 rfl rfl) rfl rfl rfl hi dX12_crack_76 ?_
            refine z_aload_n K dX12_crack_77 rfl ?_
            refine z_getR K clX12 k0 6 rfl rfl q1344 dX12_crack_78 ?_
            refine z_bipush K 64 dX12_crack_81 rfl ?_
            refine z_iload_n K dX12_crack_83 rfl ?_
            refine z_iadd K dX12_crack_84 ?_
            obtain ⟨hi, h⟩ := ix_e h
            refine z_iald K (hR.at (k := 6) (t := 20270) k0 rfl rfl) rfl rfl rfl hi dX12_crack_85 ?_
            refine z_icmp_ge K 91 dX12_crack_86 (by decide) (fun c => ?_) (fun c => ?_)
            · have h := ite_t h c
              refine z_iinc K 1 dX12_crack_91 rfl rfl rfl rfl ?_
              refine z_goto K 19 dX12_crack_94 (by decide) ?_
              refine Zj.mask [true, true, true, true] ?_
              exact hr19 _ _ _ h
            · have h := ite_f h c
              refine z_iload_n K dX12_crack_89 rfl ?_
              refine z_istore_n K dX12_crack_90 rfl rfl ?_
              refine z_iinc K 1 dX12_crack_91 rfl rfl rfl rfl ?_
              refine z_goto K 19 dX12_crack_94 (by decide) ?_
              refine Zj.mask [true, true, true, true] ?_
              exact hr19 _ _ _ h
set_option maxRecDepth 100000 in
set_option maxHeartbeats 4000000 in
theorem wX12_crack_97 {X : Cx} {g : Gl} {l : Launch} {R : Rf} {a0 : Nat} {x1 : Int32} (K : Ok X g l cX12_crack RX12 4 (some .int) rmX12_crack) (hR : Ty g R) (k0 : kd g a0 = 12) {r : Int32 × Mm} (T : Mm) (x2 : Int32) (h : pX12_crack_97 R a0 x1 T x2 = some r) : Zj X g 4 (QI X g r.1 R r.2) R T [none, none, some (.int x2), none] [] 97 := by
  unfold pX12_crack_97 at h
  refine z_iload_n K dX12_crack_97 rfl ?_
  obtain rfl := Option.some.inj h
  exact z_iret K dX12_crack_98
set_option maxRecDepth 100000 in
set_option maxHeartbeats 4000000 in
theorem mX12_crack {g : Gl} {R : Rf} {T : Mm} {a0 : Nat} {x1 : Int32} (l : Launch) (hR : Ty g R) (k0 : kd g a0 = 12) {r : Int32 × Mm} (h : pX12_crack R T a0 x1 = some r) : MI l g yX12_crack cX12_crack 4 (some .int) rmX12_crack [.ref (g.2.2.1 a0), .int x1] R T r.1 R r.2 := by
  refine z_metI (own := RX12) (lv := [some (.ref (g.2.2.1 a0)), some (.int x1), none, none]) (by decide +kernel) rfl rfl rfl (fun X K => ?_)
  unfold pX12_crack at h
  refine z_aload_n K dX12_crack_0 rfl ?_
  refine z_iconst K 0 dX12_crack_1 rfl ?_
  refine z_putI K clX12 tyX12_ok nmX12 k0 0 rfl rfl q1338 rfl rfl rfl dX12_crack_2 ?_
  refine z_aload_n K dX12_crack_5 rfl ?_
  refine z_iload_n K dX12_crack_6 rfl ?_
  obtain ⟨u2, hc, h⟩ := bd1_e h
  refine z_callVI K (mX12_isPerson l hR k0 hc) clX12 k0 ceX12_isPerson q1590 ⟨rfl, rfl, rfl, rfl⟩ rfl rfl rfl dX12_crack_7 ?_
  refine z_if_ne K 15 dX12_crack_10 (by decide) (fun c => ?_) (fun c => ?_)
  · have h := ite_f h c
    refine z_iconst K (-1) dX12_crack_15 rfl ?_
    refine z_istore_n K dX12_crack_16 rfl rfl ?_
    refine z_iconst K 0 dX12_crack_17 rfl ?_
    refine z_istore_n K dX12_crack_18 rfl rfl ?_
    refine Zj.mask [true, true, true, true] ?_
    exact wX12_crack_19 K hR k0 (wX12_crack_97 K hR k0) FU _ _ _ h
  · have h := ite_t h c
    refine z_iconst K (-1) dX12_crack_13 rfl ?_
    obtain rfl := Option.some.inj h
    exact z_iret K dX12_crack_14
/-! GoingOverModel.drops (I)I -/
abbrev rmX12_drops : Room := { frames := 3, cells := 0, slots := 0, locals := 65 }
def pX12_drops_30 (R : Rf) (a0 : Nat) (x1 : Int32) (e57 : Mm → Int32 → Option (Int32 × Mm)) (e65 : Mm → Option (Int32 × Mm)) (r30 : Mm → Int32 → Option (Int32 × Mm)) (T : Mm) (x2 : Int32) : Option (Int32 × Mm) :=
  if 99 < x2 then e65 T else bd1 (pX12_weightOf R T a0 x1) (fun (u3 : Int32) => ix 80 270 (bd1 (pX12_flowOn R T a0 ((T.1 (R a0 6) (80 : Int32).toNatClampNeg) + x2)) (fun (u4 : Int32) => if u4 < u3 then lt (x2 + 1) (fun (v5 : Int32) => r30 T v5) else e57 T x2)))
def pX12_drops_57 (R : Rf) (a0 : Nat) (x1 : Int32) (T : Mm) (x2 : Int32) : Option (Int32 × Mm) :=
  some (x2, T)
def pX12_drops_65 (R : Rf) (a0 : Nat) (x1 : Int32) (T : Mm) : Option (Int32 × Mm) :=
  some ((-1), T)
def pX12_drops (R : Rf) (T : Mm) (a0 : Nat) (x1 : Int32) : Option (Int32 × Mm) :=
  lt (wI T a0 0 0) (fun (T1 : Mm) => bd1 (pX12_isPerson R T1 a0 x1) (fun (u2 : Int32) => if u2 = 0 then some ((-1), T1) else ix (84 + x1) 270 (if (T1.1 (R a0 6) (84 + x1).toNatClampNeg) = 1 then zl2 (pX12_drops_30 R a0 x1 (pX12_drops_57 R a0 x1) (pX12_drops_65 R a0 x1)) FU T1 1 else some ((-1), T1))))
set_option maxRecDepth 100000 in
set_option maxHeartbeats 4000000 in
theorem wX12_drops_30 {X : Cx} {g : Gl} {l : Launch} {R : Rf} {a0 : Nat} {x1 : Int32} (K : Ok X g l cX12_drops RX12 3 (some .int) rmX12_drops) (hR : Ty g R) (k0 : kd g a0 = 12) {r : Int32 × Mm} {e57 : Mm → Int32 → Option (Int32 × Mm)} (he57 : ∀ (T : Mm) (x2 : Int32), e57 T x2 = some r → Zj X g 3 (QI X g r.1 R r.2) R T [none, none, some (.int x2)] [] 57) {e65 : Mm → Option (Int32 × Mm)} (he65 : ∀ (T : Mm), e65 T = some r → Zj X g 3 (QI X g r.1 R r.2) R T [none, none, none] [] 65) : ∀ (n : Nat) (T : Mm) (x2 : Int32), zl2 (pX12_drops_30 R a0 x1 e57 e65) n T x2 = some r → Zj X g 3 (QI X g r.1 R r.2) R T [some (.ref (g.2.2.1 a0)), some (.int x1), some (.int x2)] [] 30 := by
  intro n
  induction n with
  | zero =>
    intro T x2 h
    exact absurd h (by simp [zl2])
  | succ n hr30 =>
    intro T x2 h
    rw [zl2_s] at h
    unfold pX12_drops_30 at h
    refine z_iload_n K dX12_drops_30 rfl ?_
    refine z_bipush K 99 dX12_drops_31 rfl ?_
    refine z_icmp_gt K 65 dX12_drops_33 (by decide) (fun c => ?_) (fun c => ?_)
    · have h := ite_t h c
      refine Zj.mask [false, false, false] ?_
      exact he65 _ h
    · have h := ite_f h c
      refine z_aload_n K dX12_drops_36 rfl ?_
      refine z_iload_n K dX12_drops_37 rfl ?_
      obtain ⟨u3, hc, h⟩ := bd1_e h
      refine z_callVI K (mX12_weightOf l hR k0 hc) clX12 k0 ceX12_weightOf q1598 ⟨rfl, rfl, rfl, rfl⟩ rfl rfl rfl dX12_drops_38 ?_
      refine z_aload_n K dX12_drops_41 rfl ?_
      refine z_aload_n K dX12_drops_42 rfl ?_
      refine z_getR K clX12 k0 6 rfl rfl q1344 dX12_drops_43 ?_
      refine z_bipush K 80 dX12_drops_46 rfl ?_
      obtain ⟨hi, h⟩ := ix_e h
      refine z_iald K (hR.at (k := 6) (t := 20270) k0 rfl rfl) rfl rfl rfl hi dX12_drops_48 ?_
      refine z_iload_n K dX12_drops_49 rfl ?_
      refine z_iadd K dX12_drops_50 ?_
      obtain ⟨u4, hc, h⟩ := bd1_e h
      refine z_callVI K (mX12_flowOn l hR k0 hc) clX12 k0 ceX12_flowOn q1657 ⟨rfl, rfl, rfl, rfl⟩ rfl rfl rfl dX12_drops_51 ?_
      refine z_icmp_gt K 59 dX12_drops_54 (by decide) (fun c => ?_) (fun c => ?_)
      · have h := ite_t h c
        refine z_iinc K 1 dX12_drops_59 rfl rfl rfl rfl ?_
        refine z_goto K 30 dX12_drops_62 (by decide) ?_
        refine Zj.mask [true, true, true] ?_
        exact hr30 _ _ h
      · have h := ite_f h c
        refine Zj.mask [false, false, true] ?_
        exact he57 _ _ h
set_option maxRecDepth 100000 in
set_option maxHeartbeats 4000000 in
theorem wX12_drops_57 {X : Cx} {g : Gl} {l : Launch} {R : Rf} {a0 : Nat} {x1 : Int32} (K : Ok X g l cX12_drops RX12 3 (some .int) rmX12_drops) (hR : Ty g R) (k0 : kd g a0 = 12) {r : Int32 × Mm} (T : Mm) (x2 : Int32) (h : pX12_drops_57 R a0 x1 T x2 = some r) : Zj X g 3 (QI X g r.1 R r.2) R T [none, none, some (.int x2)] [] 57 := by
  unfold pX12_drops_57 at h
  refine z_iload_n K dX12_drops_57 rfl ?_
  obtain rfl := Option.some.inj h
  exact z_iret K dX12_drops_58
set_option maxRecDepth 100000 in
set_option maxHeartbeats 4000000 in
theorem wX12_drops_65 {X : Cx} {g : Gl} {l : Launch} {R : Rf} {a0 : Nat} {x1 : Int32} (K : Ok X g l cX12_drops RX12 3 (some .int) rmX12_drops) (hR : Ty g R) (k0 : kd g a0 = 12) {r : Int32 × Mm} (T : Mm) (h : pX12_drops_65 R a0 x1 T = some r) : Zj X g 3 (QI X g r.1 R r.2) R T [none, none, none] [] 65 := by
  unfold pX12_drops_65 at h
  refine z_iconst K (-1) dX12_drops_65 rfl ?_
  obtain rfl := Option.some.inj h
  exact z_iret K dX12_drops_66
set_option maxRecDepth 100000 in
set_option maxHeartbeats 4000000 in
theorem mX12_drops {g : Gl} {R : Rf} {T : Mm} {a0 : Nat} {x1 : Int32} (l : Launch) (hR : Ty g R) (k0 : kd g a0 = 12) {r : Int32 × Mm} (h : pX12_drops R T a0 x1 = some r) : MI l g yX12_drops cX12_drops 3 (some .int) rmX12_drops [.ref (g.2.2.1 a0), .int x1] R T r.1 R r.2 := by
  refine z_metI (own := RX12) (lv := [some (.ref (g.2.2.1 a0)), some (.int x1), none]) (by decide +kernel) rfl rfl rfl (fun X K => ?_)
  unfold pX12_drops at h
  refine z_aload_n K dX12_drops_0 rfl ?_
  refine z_iconst K 0 dX12_drops_1 rfl ?_
  refine z_putI K clX12 tyX12_ok nmX12 k0 0 rfl rfl q1338 rfl rfl rfl dX12_drops_2 ?_
  refine z_aload_n K dX12_drops_5 rfl ?_
  refine z_iload_n K dX12_drops_6 rfl ?_
  obtain ⟨u2, hc, h⟩ := bd1_e h
  refine z_callVI K (mX12_isPerson l hR k0 hc) clX12 k0 ceX12_isPerson q1590 ⟨rfl, rfl, rfl, rfl⟩ rfl rfl rfl dX12_drops_7 ?_
  refine z_if_eq K 26 dX12_drops_10 (by decide) (fun c => ?_) (fun c => ?_)
  · have h := ite_t h c
    refine z_iconst K (-1) dX12_drops_26 rfl ?_
    obtain rfl := Option.some.inj h
    exact z_iret K dX12_drops_27
  · have h := ite_f h c
    refine z_aload_n K dX12_drops_13 rfl ?_
    refine z_getR K clX12 k0 6 rfl rfl q1344 dX12_drops_14 ?_
    refine z_bipush K 84 dX12_drops_17 rfl ?_
    refine z_iload_n K dX12_drops_19 rfl ?_
    refine z_iadd K dX12_drops_20 ?_
    obtain ⟨hi, h⟩ := ix_e h
    refine z_iald K (hR.at (k := 6) (t := 20270) k0 rfl rfl) rfl rfl rfl hi dX12_drops_21 ?_
    refine z_iconst K 1 dX12_drops_22 rfl ?_
    refine z_icmp_eq K 28 dX12_drops_23 (by decide) (fun c => ?_) (fun c => ?_)
    · have h := ite_t h c
      refine z_iconst K 1 dX12_drops_28 rfl ?_
      refine z_istore_n K dX12_drops_29 rfl rfl ?_
      refine Zj.mask [true, true, true] ?_
      exact wX12_drops_30 K hR k0 (wX12_drops_57 K hR k0) (wX12_drops_65 K hR k0) FU _ _ h
    · have h := ite_f h c
      refine z_iconst K (-1) dX12_drops_26 rfl ?_
      obtain rfl := Option.some.inj h
      exact z_iret K dX12_drops_27
/-! GoingOverModel.isMeant (I)Z -/
abbrev rmX12_isMeant : Room := { frames := 3, cells := 0, slots := 0, locals := 65 }
def pX12_isMeant_2 (R : Rf) (a0 : Nat) (x1 : Int32) (e27 : Mm → Option (Int32 × Mm)) (r2 : Mm → Int32 → Option (Int32 × Mm)) (T : Mm) (x2 : Int32) : Option (Int32 × Mm) :=
  if (T.1 a0 3) ≤ x2 then e27 T else bd1 (pX12_octet R T a0 x2) (fun (u1 : Int32) => ix x2 6 (lt (wI T (R a0 28) x2.toNatClampNeg u1) (fun (T2 : Mm) => lt (x2 + 1) (fun (v3 : Int32) => r2 T2 v3))))
def pX12_isMeant_97 (R : Rf) (a0 : Nat) (x1 : Int32) (e128 : Mm → Int32 → Int32 → Int32 → Int32 → Option (Int32 × Mm)) (r97 : Mm → Int32 → Int32 → Int32 → Int32 → Int32 → Option (Int32 × Mm)) (T : Mm) (x2 : Int32) (x3 : Int32) (x5 : Int32) (x6 : Int32) (x7 : Int32) : Option (Int32 × Mm) :=
  if (T.1 a0 3) ≤ x7 then e128 T x2 x3 x5 x7 else ix x7 6 (bd1 (pX12_weighsIn R T a0 x6) (fun (u10 : Int32) => if (T.1 (R a0 28) x7.toNatClampNeg) = u10 then e128 T x2 x3 x5 x7 else lt (x7 + 1) (fun (v11 : Int32) => r97 T x2 x3 x5 x6 v11)))
def pX12_isMeant_142 (R : Rf) (a0 : Nat) (x1 : Int32) (r41 : Mm → Int32 → Int32 → Int32 → Int32 → Option (Int32 × Mm)) (e171 : Mm → Int32 → Int32 → Option (Int32 × Mm)) (T : Mm) (x2 : Int32) (x3 : Int32) (x5 : Int32) (x7 : Int32) (xs0 : Int32) : Option (Int32 × Mm) :=
  if xs0 = 0 then lt (x5 + 1) (fun (v15 : Int32) => r41 T x2 x3 xs0 v15) else ix x7 6 (lt (wI T (R a0 28) x7.toNatClampNeg 1000000) (fun (T12 : Mm) => lt (x3 + 1) (fun (v13 : Int32) => lt (x5 + 1) (fun (v14 : Int32) => r41 T12 x2 v13 xs0 v14))))
def pX12_isMeant_128 (R : Rf) (a0 : Nat) (x1 : Int32) (r41 : Mm → Int32 → Int32 → Int32 → Int32 → Option (Int32 × Mm)) (e171 : Mm → Int32 → Int32 → Option (Int32 × Mm)) (T : Mm) (x2 : Int32) (x3 : Int32) (x5 : Int32) (x7 : Int32) : Option (Int32 × Mm) :=
  if (T.1 a0 3) ≤ x7 then pX12_isMeant_142 R a0 x1 r41 e171 T x2 x3 x5 x7 0 else pX12_isMeant_142 R a0 x1 r41 e171 T x2 x3 x5 x7 1
def pX12_isMeant_41 (R : Rf) (a0 : Nat) (x1 : Int32) (e171 : Mm → Int32 → Int32 → Option (Int32 × Mm)) (r41 : Mm → Int32 → Int32 → Int32 → Int32 → Option (Int32 × Mm)) (T : Mm) (x2 : Int32) (x3 : Int32) (x4 : Int32) (x5 : Int32) : Option (Int32 × Mm) :=
  ix 1 270 (if (T.1 (R a0 6) (1 : Int32).toNatClampNeg) ≤ x5 then e171 T x3 x4 else if x4 = 0 then e171 T x3 x4 else bd1 (pX12_bitOf R T x2 x5) (fun (u5 : Int32) => if u5 = 0 then lt (x5 + 1) (fun (v16 : Int32) => r41 T x2 x3 x4 v16) else bd1 (pX12_barrelOf R T a0 x1) (fun (u6 : Int32) => bd1 (pX12_fateJoins R T a0 x1) (fun (u7 : Int32) => bd1 (pX12_heldWith R T a0 x5 u6 u7) (fun (u8 : Int32) => lt (x2 &&& (u8 ^^^ (-1))) (fun (v9 : Int32) => zl6 (pX12_isMeant_97 R a0 x1 (pX12_isMeant_128 R a0 x1 r41 e171)) FU T v9 x3 x5 u8 0))))))
def pX12_isMeant_171 (R : Rf) (a0 : Nat) (x1 : Int32) (T : Mm) (x3 : Int32) (x4 : Int32) : Option (Int32 × Mm) :=
  if x4 = 0 then some (0, T) else if x3 = (T.1 a0 3) then some (1, T) else some (0, T)
def pX12_isMeant_27 (R : Rf) (a0 : Nat) (x1 : Int32) (T : Mm) : Option (Int32 × Mm) :=
  bd1 (pX12_barrelOf R T a0 x1) (fun (u4 : Int32) => zl5 (pX12_isMeant_41 R a0 x1 (pX12_isMeant_171 R a0 x1)) FU T u4 0 1 0)
def pX12_isMeant (R : Rf) (T : Mm) (a0 : Nat) (x1 : Int32) : Option (Int32 × Mm) :=
  zl2 (pX12_isMeant_2 R a0 x1 (pX12_isMeant_27 R a0 x1)) FU T 0
set_option maxRecDepth 100000 in
set_option maxHeartbeats 4000000 in
theorem wX12_isMeant_2 {X : Cx} {g : Gl} {l : Launch} {R : Rf} {a0 : Nat} {x1 : Int32} (K : Ok X g l cX12_isMeant RX12 8 (some .boolean) rmX12_isMeant) (hR : Ty g R) (k0 : kd g a0 = 12) {r : Int32 × Mm} {e27 : Mm → Option (Int32 × Mm)} (he27 : ∀ (T : Mm), e27 T = some r → Zj X g 8 (QI X g r.1 R r.2) R T [some (.ref (g.2.2.1 a0)), some (.int x1), none, none, none, none, none, none] [] 27) : ∀ (n : Nat) (T : Mm) (x2 : Int32), zl2 (pX12_isMeant_2 R a0 x1 e27) n T x2 = some r → Zj X g 8 (QI X g r.1 R r.2) R T [some (.ref (g.2.2.1 a0)), some (.int x1), some (.int x2), none, none, none, none, none] [] 2 := by
  intro n
  induction n with
  | zero =>
    intro T x2 h
    exact absurd h (by simp [zl2])
  | succ n hr2 =>
    intro T x2 h
    rw [zl2_s] at h
    unfold pX12_isMeant_2 at h
    refine z_iload_n K dX12_isMeant_2 rfl ?_
    refine z_aload_n K dX12_isMeant_3 rfl ?_
    refine z_getI K clX12 k0 3 rfl rfl q1341 dX12_isMeant_4 ?_
    refine z_icmp_ge K 27 dX12_isMeant_7 (by decide) (fun c => ?_) (fun c => ?_)
    · have h := ite_t h c
      refine Zj.mask [true, true, false, false, false, false, false, false] ?_
      exact he27 _ h
    · have h := ite_f h c
      refine z_aload_n K dX12_isMeant_10 rfl ?_
      refine z_getR K clX12 k0 28 rfl rfl q1366 dX12_isMeant_11 ?_
      refine z_iload_n K dX12_isMeant_14 rfl ?_
      refine z_aload_n K dX12_isMeant_15 rfl ?_
      refine z_iload_n K dX12_isMeant_16 rfl ?_
      obtain ⟨u1, hc, h⟩ := bd1_e h
      refine z_callVI K (mX12_octet l hR k0 hc) clX12 k0 ceX12_octet q1789 ⟨rfl, rfl, rfl, rfl⟩ rfl rfl rfl dX12_isMeant_17 ?_
      obtain ⟨hi, h⟩ := ix_e h
      refine z_iast K (hR.at (k := 28) (t := 20006) k0 rfl rfl) rfl rfl rfl hi dX12_isMeant_20 ?_
      refine z_iinc K 1 dX12_isMeant_21 rfl rfl rfl rfl ?_
      refine z_goto K 2 dX12_isMeant_24 (by decide) ?_
      refine Zj.mask [true, true, true, false, false, false, false, false] ?_
      exact hr2 _ _ h
set_option maxRecDepth 100000 in
set_option maxHeartbeats 4000000 in
theorem wX12_isMeant_97 {X : Cx} {g : Gl} {l : Launch} {R : Rf} {a0 : Nat} {x1 : Int32} (K : Ok X g l cX12_isMeant RX12 8 (some .boolean) rmX12_isMeant) (hR : Ty g R) (k0 : kd g a0 = 12) {r : Int32 × Mm} {e128 : Mm → Int32 → Int32 → Int32 → Int32 → Option (Int32 × Mm)} (he128 : ∀ (T : Mm) (x2 : Int32) (x3 : Int32) (x5 : Int32) (x7 : Int32), e128 T x2 x3 x5 x7 = some r → Zj X g 8 (QI X g r.1 R r.2) R T [some (.ref (g.2.2.1 a0)), some (.int x1), some (.int x2), some (.int x3), none, some (.int x5), none, some (.int x7)] [] 128) : ∀ (n : Nat) (T : Mm) (x2 : Int32) (x3 : Int32) (x5 : Int32) (x6 : Int32) (x7 : Int32), zl6 (pX12_isMeant_97 R a0 x1 e128) n T x2 x3 x5 x6 x7 = some r → Zj X g 8 (QI X g r.1 R r.2) R T [some (.ref (g.2.2.1 a0)), some (.int x1), some (.int x2), some (.int x3), none, some (.int x5), some (.int x6), some (.int x7)] [] 97 := by
  intro n
  induction n with
  | zero =>
    intro T x2 x3 x5 x6 x7 h
    exact absurd h (by simp [zl6])
  | succ n hr97 =>
    intro T x2 x3 x5 x6 x7 h
    rw [zl6_s] at h
    unfold pX12_isMeant_97 at h
    refine z_iload K dX12_isMeant_97 rfl ?_
    refine z_aload_n K dX12_isMeant_99 rfl ?_
    refine z_getI K clX12 k0 3 rfl rfl q1341 dX12_isMeant_100 ?_
    refine z_icmp_ge K 128 dX12_isMeant_103 (by decide) (fun c => ?_) (fun c => ?_)
    · have h := ite_t h c
      refine Zj.mask [true, true, true, true, false, true, false, true] ?_
      exact he128 _ _ _ _ _ h
    · have h := ite_f h c
      refine z_aload_n K dX12_isMeant_106 rfl ?_
      refine z_getR K clX12 k0 28 rfl rfl q1366 dX12_isMeant_107 ?_
      refine z_iload K dX12_isMeant_110 rfl ?_
      obtain ⟨hi, h⟩ := ix_e h
      refine z_iald K (hR.at (k := 28) (t := 20006) k0 rfl rfl) rfl rfl rfl hi dX12_isMeant_112 ?_
      refine z_aload_n K dX12_isMeant_113 rfl ?_
      refine z_iload K dX12_isMeant_114 rfl ?_
      obtain ⟨u10, hc, h⟩ := bd1_e h
      refine z_callVI K (mX12_weighsIn l hR k0 hc) clX12 k0 ceX12_weighsIn q1610 ⟨rfl, rfl, rfl, rfl⟩ rfl rfl rfl dX12_isMeant_116 ?_
      refine z_icmp_eq K 128 dX12_isMeant_119 (by decide) (fun c => ?_) (fun c => ?_)
      · have h := ite_t h c
        refine Zj.mask [true, true, true, true, false, true, false, true] ?_
        exact he128 _ _ _ _ _ h
      · have h := ite_f h c
        refine z_iinc K 1 dX12_isMeant_122 rfl rfl rfl rfl ?_
        refine z_goto K 97 dX12_isMeant_125 (by decide) ?_
        refine Zj.mask [true, true, true, true, false, true, true, true] ?_
        exact hr97 _ _ _ _ _ _ h
set_option maxRecDepth 100000 in
set_option maxHeartbeats 4000000 in
theorem wX12_isMeant_142 {X : Cx} {g : Gl} {l : Launch} {R : Rf} {a0 : Nat} {x1 : Int32} (K : Ok X g l cX12_isMeant RX12 8 (some .boolean) rmX12_isMeant) (hR : Ty g R) (k0 : kd g a0 = 12) {r : Int32 × Mm} {r41 : Mm → Int32 → Int32 → Int32 → Int32 → Option (Int32 × Mm)} (hr41 : ∀ (T : Mm) (x2 : Int32) (x3 : Int32) (x4 : Int32) (x5 : Int32), r41 T x2 x3 x4 x5 = some r → Zj X g 8 (QI X g r.1 R r.2) R T [some (.ref (g.2.2.1 a0)), some (.int x1), some (.int x2), some (.int x3), some (.int x4), some (.int x5), none, none] [] 41) {e171 : Mm → Int32 → Int32 → Option (Int32 × Mm)} (he171 : ∀ (T : Mm) (x3 : Int32) (x4 : Int32), e171 T x3 x4 = some r → Zj X g 8 (QI X g r.1 R r.2) R T [some (.ref (g.2.2.1 a0)), none, none, some (.int x3), some (.int x4), none, none, none] [] 171) (T : Mm) (x2 : Int32) (x3 : Int32) (x5 : Int32) (x7 : Int32) (xs0 : Int32) (h : pX12_isMeant_142 R a0 x1 r41 e171 T x2 x3 x5 x7 xs0 = some r) : Zj X g 8 (QI X g r.1 R r.2) R T [some (.ref (g.2.2.1 a0)), some (.int x1), some (.int x2), some (.int x3), none, some (.int x5), none, some (.int x7)] [.int xs0] 142 := by
  unfold pX12_isMeant_142 at h
  refine z_istore K dX12_isMeant_142 rfl rfl ?_
  refine z_iload K dX12_isMeant_144 rfl ?_
  refine z_if_ne K 152 dX12_isMeant_146 (by decide) (fun c => ?_) (fun c => ?_)
  · have h := ite_f h c
    refine z_aload_n K dX12_isMeant_152 rfl ?_
    refine z_getR K clX12 k0 28 rfl rfl q1366 dX12_isMeant_153 ?_
    refine z_iload K dX12_isMeant_156 rfl ?_
    refine z_ldcw K 1000000 q1793 dX12_isMeant_158 ?_
    obtain ⟨hi, h⟩ := ix_e h
    refine z_iast K (hR.at (k := 28) (t := 20006) k0 rfl rfl) rfl rfl rfl hi dX12_isMeant_161 ?_
    refine z_iinc K 1 dX12_isMeant_162 rfl rfl rfl rfl ?_
    refine z_iinc K 1 dX12_isMeant_165 rfl rfl rfl rfl ?_
    refine z_goto K 41 dX12_isMeant_168 (by decide) ?_
    refine Zj.mask [true, true, true, true, true, true, false, false] ?_
    exact hr41 _ _ _ _ _ h
  · have h := ite_t h c
    refine z_goto K 165 dX12_isMeant_149 (by decide) ?_
    refine z_iinc K 1 dX12_isMeant_165 rfl rfl rfl rfl ?_
    refine z_goto K 41 dX12_isMeant_168 (by decide) ?_
    refine Zj.mask [true, true, true, true, true, true, false, false] ?_
    exact hr41 _ _ _ _ _ h
set_option maxRecDepth 100000 in
set_option maxHeartbeats 4000000 in
theorem wX12_isMeant_128 {X : Cx} {g : Gl} {l : Launch} {R : Rf} {a0 : Nat} {x1 : Int32} (K : Ok X g l cX12_isMeant RX12 8 (some .boolean) rmX12_isMeant) (hR : Ty g R) (k0 : kd g a0 = 12) {r : Int32 × Mm} {r41 : Mm → Int32 → Int32 → Int32 → Int32 → Option (Int32 × Mm)} (hr41 : ∀ (T : Mm) (x2 : Int32) (x3 : Int32) (x4 : Int32) (x5 : Int32), r41 T x2 x3 x4 x5 = some r → Zj X g 8 (QI X g r.1 R r.2) R T [some (.ref (g.2.2.1 a0)), some (.int x1), some (.int x2), some (.int x3), some (.int x4), some (.int x5), none, none] [] 41) {e171 : Mm → Int32 → Int32 → Option (Int32 × Mm)} (he171 : ∀ (T : Mm) (x3 : Int32) (x4 : Int32), e171 T x3 x4 = some r → Zj X g 8 (QI X g r.1 R r.2) R T [some (.ref (g.2.2.1 a0)), none, none, some (.int x3), some (.int x4), none, none, none] [] 171) (T : Mm) (x2 : Int32) (x3 : Int32) (x5 : Int32) (x7 : Int32) (h : pX12_isMeant_128 R a0 x1 r41 e171 T x2 x3 x5 x7 = some r) : Zj X g 8 (QI X g r.1 R r.2) R T [some (.ref (g.2.2.1 a0)), some (.int x1), some (.int x2), some (.int x3), none, some (.int x5), none, some (.int x7)] [] 128 := by
  unfold pX12_isMeant_128 at h
  refine z_iload K dX12_isMeant_128 rfl ?_
  refine z_aload_n K dX12_isMeant_130 rfl ?_
  refine z_getI K clX12 k0 3 rfl rfl q1341 dX12_isMeant_131 ?_
  refine z_icmp_ge K 141 dX12_isMeant_134 (by decide) (fun c => ?_) (fun c => ?_)
  · have h := ite_t h c
    refine z_iconst K 0 dX12_isMeant_141 rfl ?_
    refine Zj.mask [true, true, true, true, false, true, false, true] ?_
    exact wX12_isMeant_142 K hR k0 hr41 he171 _ _ _ _ _ _ h
  · have h := ite_f h c
    refine z_iconst K 1 dX12_isMeant_137 rfl ?_
    refine z_goto K 142 dX12_isMeant_138 (by decide) ?_
    refine Zj.mask [true, true, true, true, false, true, false, true] ?_
    exact wX12_isMeant_142 K hR k0 hr41 he171 _ _ _ _ _ _ h
set_option maxRecDepth 100000 in
set_option maxHeartbeats 4000000 in
theorem wX12_isMeant_41 {X : Cx} {g : Gl} {l : Launch} {R : Rf} {a0 : Nat} {x1 : Int32} (K : Ok X g l cX12_isMeant RX12 8 (some .boolean) rmX12_isMeant) (hR : Ty g R) (k0 : kd g a0 = 12) {r : Int32 × Mm} {e171 : Mm → Int32 → Int32 → Option (Int32 × Mm)} (he171 : ∀ (T : Mm) (x3 : Int32) (x4 : Int32), e171 T x3 x4 = some r → Zj X g 8 (QI X g r.1 R r.2) R T [some (.ref (g.2.2.1 a0)), none, none, some (.int x3), some (.int x4), none, none, none] [] 171) : ∀ (n : Nat) (T : Mm) (x2 : Int32) (x3 : Int32) (x4 : Int32) (x5 : Int32), zl5 (pX12_isMeant_41 R a0 x1 e171) n T x2 x3 x4 x5 = some r → Zj X g 8 (QI X g r.1 R r.2) R T [some (.ref (g.2.2.1 a0)), some (.int x1), some (.int x2), some (.int x3), some (.int x4), some (.int x5), none, none] [] 41 := by
  intro n
  induction n with
  | zero =>
    intro T x2 x3 x4 x5 h
    exact absurd h (by simp [zl5])
  | succ n hr41 =>
    intro T x2 x3 x4 x5 h
    rw [zl5_s] at h
    unfold pX12_isMeant_41 at h
    refine z_iload K dX12_isMeant_41 rfl ?_
    refine z_aload_n K dX12_isMeant_43 rfl ?_
    refine z_getR K clX12 k0 6 rfl rfl q1344 dX12_isMeant_44 ?_
    refine z_iconst K 1 dX12_isMeant_47 rfl ?_
    obtain ⟨hi, h⟩ := ix_e h
    refine z_iald K (hR.at (k := 6) (t := 20270) k0 rfl rfl) rfl rfl rfl hi dX12_isMeant_48 ?_
    refine z_icmp_ge K 171 dX12_isMeant_49 (by decide) (fun c => ?_) (fun c => ?_)
    · have h := ite_t h c
      refine Zj.mask [true, false, false, true, true, false, false, false] ?_
      exact he171 _ _ _ h
    · have h := ite_f h c
      refine z_iload K dX12_isMeant_52 rfl ?_
      refine z_if_eq K 171 dX12_isMeant_54 (by decide) (fun c => ?_) (fun c => ?_)
      · have h := ite_t h c
        refine Zj.mask [true, false, false, true, true, false, false, false] ?_
        exact he171 _ _ _ h
      · have h := ite_f h c
        refine z_iload_n K dX12_isMeant_57 rfl ?_
        refine z_iload K dX12_isMeant_58 rfl ?_
        obtain ⟨u5, hc, h⟩ := bd1_e h
        refine z_callSI K (mX12_bitOf l hR hc) ceX12_bitOf q1524 ⟨rfl, rfl, rfl, rfl⟩ rfl rfl rfl dX12_isMeant_60 ?_
        refine z_if_ne K 69 dX12_isMeant_63 (by decide) (fun c => ?_) (fun c => ?_)
        · have h := ite_f h c
          refine z_aload_n K dX12_isMeant_69 rfl ?_
          refine z_iload K dX12_isMeant_70 rfl ?_
          refine z_aload_n K dX12_isMeant_72 rfl ?_
          refine z_iload_n K dX12_isMeant_73 rfl ?_
          obtain ⟨u6, hc, h⟩ := bd1_e h
          refine z_callVI K (mX12_barrelOf l hR k0 hc) clX12 k0 ceX12_barrelOf q1602 ⟨rfl, rfl, rfl, rfl⟩ rfl rfl rfl dX12_isMeant_74 ?_
          refine z_aload_n K dX12_isMeant_77 rfl ?_
          refine z_iload_n K dX12_isMeant_78 rfl ?_
          obtain ⟨u7, hc, h⟩ := bd1_e h
          refine z_callVI K (mX12_fateJoins l hR k0 hc) clX12 k0 ceX12_fateJoins q1745 ⟨rfl, rfl, rfl, rfl⟩ rfl rfl rfl dX12_isMeant_79 ?_
          obtain ⟨u8, hc, h⟩ := bd1_e h
          refine z_callVI K (mX12_heldWith l hR k0 hc) clX12 k0 ceX12_heldWith q1622 ⟨rfl, rfl, rfl, rfl⟩ rfl rfl rfl dX12_isMeant_82 ?_
          refine z_istore K dX12_isMeant_85 rfl rfl ?_
          refine z_iload_n K dX12_isMeant_87 rfl ?_
          refine z_iload K dX12_isMeant_88 rfl ?_
          refine z_iconst K (-1) dX12_isMeant_90 rfl ?_
          refine z_ixor K dX12_isMeant_91 ?_
          refine z_iand K dX12_isMeant_92 ?_
          refine z_istore_n K dX12_isMeant_93 rfl rfl ?_
          refine z_iconst K 0 dX12_isMeant_94 rfl ?_
          refine z_istore K dX12_isMeant_95 rfl rfl ?_
          refine Zj.mask [true, true, true, true, false, true, true, true] ?_
          exact wX12_isMeant_97 K hR k0 (wX12_isMeant_128 K hR k0 hr41 he171) FU _ _ _ _ _ _ h
        · have h := ite_t h c
          refine z_goto K 165 dX12_isMeant_66 (by decide) ?_
          refine z_iinc K 1 dX12_isMeant_165 rfl rfl rfl rfl ?_
          refine z_goto K 41 dX12_isMeant_168 (by decide) ?_
          refine Zj.mask [true, true, true, true, true, true, false, false] ?_
          exact hr41 _ _ _ _ _ h
set_option maxRecDepth 100000 in
set_option maxHeartbeats 4000000 in
theorem wX12_isMeant_171 {X : Cx} {g : Gl} {l : Launch} {R : Rf} {a0 : Nat} {x1 : Int32} (K : Ok X g l cX12_isMeant RX12 8 (some .boolean) rmX12_isMeant) (hR : Ty g R) (k0 : kd g a0 = 12) {r : Int32 × Mm} (T : Mm) (x3 : Int32) (x4 : Int32) (h : pX12_isMeant_171 R a0 x1 T x3 x4 = some r) : Zj X g 8 (QI X g r.1 R r.2) R T [some (.ref (g.2.2.1 a0)), none, none, some (.int x3), some (.int x4), none, none, none] [] 171 := by
  unfold pX12_isMeant_171 at h
  refine z_iload K dX12_isMeant_171 rfl ?_
  refine z_if_eq K 188 dX12_isMeant_173 (by decide) (fun c => ?_) (fun c => ?_)
  · have h := ite_t h c
    refine z_iconst K 0 dX12_isMeant_188 rfl ?_
    obtain rfl := Option.some.inj h
    exact z_zret (v := 0) K rfl dX12_isMeant_189
  · have h := ite_f h c
    refine z_iload_n K dX12_isMeant_176 rfl ?_
    refine z_aload_n K dX12_isMeant_177 rfl ?_
    refine z_getI K clX12 k0 3 rfl rfl q1341 dX12_isMeant_178 ?_
    refine z_icmp_ne K 188 dX12_isMeant_181 (by decide) (fun c => ?_) (fun c => ?_)
    · have h := ite_f h c
      refine z_iconst K 0 dX12_isMeant_188 rfl ?_
      obtain rfl := Option.some.inj h
      exact z_zret (v := 0) K rfl dX12_isMeant_189
    · have h := ite_t h c
      refine z_iconst K 1 dX12_isMeant_184 rfl ?_
      refine z_goto K 189 dX12_isMeant_185 (by decide) ?_
      obtain rfl := Option.some.inj h
      exact z_zret (v := 1) K rfl dX12_isMeant_189
set_option maxRecDepth 100000 in
set_option maxHeartbeats 4000000 in
theorem wX12_isMeant_27 {X : Cx} {g : Gl} {l : Launch} {R : Rf} {a0 : Nat} {x1 : Int32} (K : Ok X g l cX12_isMeant RX12 8 (some .boolean) rmX12_isMeant) (hR : Ty g R) (k0 : kd g a0 = 12) {r : Int32 × Mm} (T : Mm) (h : pX12_isMeant_27 R a0 x1 T = some r) : Zj X g 8 (QI X g r.1 R r.2) R T [some (.ref (g.2.2.1 a0)), some (.int x1), none, none, none, none, none, none] [] 27 := by
  unfold pX12_isMeant_27 at h
  refine z_aload_n K dX12_isMeant_27 rfl ?_
  refine z_iload_n K dX12_isMeant_28 rfl ?_
  obtain ⟨u4, hc, h⟩ := bd1_e h
  refine z_callVI K (mX12_barrelOf l hR k0 hc) clX12 k0 ceX12_barrelOf q1602 ⟨rfl, rfl, rfl, rfl⟩ rfl rfl rfl dX12_isMeant_29 ?_
  refine z_istore_n K dX12_isMeant_32 rfl rfl ?_
  refine z_iconst K 0 dX12_isMeant_33 rfl ?_
  refine z_istore_n K dX12_isMeant_34 rfl rfl ?_
  refine z_iconst K 1 dX12_isMeant_35 rfl ?_
  refine z_istore K dX12_isMeant_36 rfl rfl ?_
  refine z_iconst K 0 dX12_isMeant_38 rfl ?_
  refine z_istore K dX12_isMeant_39 rfl rfl ?_
  refine Zj.mask [true, true, true, true, true, true, false, false] ?_
  exact wX12_isMeant_41 K hR k0 (wX12_isMeant_171 K hR k0) FU _ _ _ _ _ h
set_option maxRecDepth 100000 in
set_option maxHeartbeats 4000000 in
theorem mX12_isMeant {g : Gl} {R : Rf} {T : Mm} {a0 : Nat} {x1 : Int32} (l : Launch) (hR : Ty g R) (k0 : kd g a0 = 12) {r : Int32 × Mm} (h : pX12_isMeant R T a0 x1 = some r) : MI l g yX12_isMeant cX12_isMeant 8 (some .boolean) rmX12_isMeant [.ref (g.2.2.1 a0), .int x1] R T r.1 R r.2 := by
  refine z_metI (own := RX12) (lv := [some (.ref (g.2.2.1 a0)), some (.int x1), none, none, none, none, none, none]) (by decide +kernel) rfl rfl rfl (fun X K => ?_)
  unfold pX12_isMeant at h
  refine z_iconst K 0 dX12_isMeant_0 rfl ?_
  refine z_istore_n K dX12_isMeant_1 rfl rfl ?_
  refine Zj.mask [true, true, true, false, false, false, false, false] ?_
  exact wX12_isMeant_2 K hR k0 (wX12_isMeant_27 K hR k0) FU _ _ h
/-! GoingOverModel.who ()I -/
abbrev rmX12_who : Room := { frames := 4, cells := 0, slots := 0, locals := 92 }
def pX12_who_31 (R : Rf) (a0 : Nat) (e65 : Mm → Int32 → Option (Int32 × Mm)) (r31 : Mm → Int32 → Int32 → Option (Int32 × Mm)) (T : Mm) (x1 : Int32) (x2 : Int32) : Option (Int32 × Mm) :=
  ix 0 270 (if (T.1 (R a0 6) (0 : Int32).toNatClampNeg) ≤ x2 then e65 T x1 else bd2 (pX12_isMeant R T a0 x2) (fun (u4 : Int32) (T4 : Mm) => if u4 = 0 then lt (x1 ||| 0) (fun (v5 : Int32) => lt (x2 + 1) (fun (v6 : Int32) => r31 T4 v5 v6)) else lt (x1 ||| (1 <<< (x2 &&& 31))) (fun (v7 : Int32) => lt (x2 + 1) (fun (v8 : Int32) => r31 T4 v7 v8))))
def pX12_who_65 (R : Rf) (a0 : Nat) (T : Mm) (x1 : Int32) : Option (Int32 × Mm) :=
  some (x1, T)
def pX12_who (R : Rf) (T : Mm) (a0 : Nat) : Option (Int32 × Mm) :=
  lt (wI T a0 0 0) (fun (T1 : Mm) => bd1 (pX12_taken R T1 a0 940) (fun (T2 : Mm) => bd1 (pX12_isIn R T2 (T2.1 a0 3) 1 6) (fun (u3 : Int32) => if u3 = 0 then some ((-1), T2) else zl3 (pX12_who_31 R a0 (pX12_who_65 R a0)) FU T2 0 0)))
set_option maxRecDepth 100000 in
set_option maxHeartbeats 4000000 in
theorem wX12_who_31 {X : Cx} {g : Gl} {l : Launch} {R : Rf} {a0 : Nat} (K : Ok X g l cX12_who RX12 3 (some .int) rmX12_who) (hR : Ty g R) (k0 : kd g a0 = 12) {r : Int32 × Mm} {e65 : Mm → Int32 → Option (Int32 × Mm)} (he65 : ∀ (T : Mm) (x1 : Int32), e65 T x1 = some r → Zj X g 3 (QI X g r.1 R r.2) R T [none, some (.int x1), none] [] 65) : ∀ (n : Nat) (T : Mm) (x1 : Int32) (x2 : Int32), zl3 (pX12_who_31 R a0 e65) n T x1 x2 = some r → Zj X g 3 (QI X g r.1 R r.2) R T [some (.ref (g.2.2.1 a0)), some (.int x1), some (.int x2)] [] 31 := by
  intro n
  induction n with
  | zero =>
    intro T x1 x2 h
    exact absurd h (by simp [zl3])
  | succ n hr31 =>
    intro T x1 x2 h
    rw [zl3_s] at h
    unfold pX12_who_31 at h
    refine z_iload_n K dX12_who_31 rfl ?_
    refine z_aload_n K dX12_who_32 rfl ?_
    refine z_getR K clX12 k0 6 rfl rfl q1344 dX12_who_33 ?_
    refine z_iconst K 0 dX12_who_36 rfl ?_
    obtain ⟨hi, h⟩ := ix_e h
    refine z_iald K (hR.at (k := 6) (t := 20270) k0 rfl rfl) rfl rfl rfl hi dX12_who_37 ?_
    refine z_icmp_ge K 65 dX12_who_38 (by decide) (fun c => ?_) (fun c => ?_)
    · have h := ite_t h c
      refine Zj.mask [false, true, false] ?_
      exact he65 _ _ h
    · have h := ite_f h c
      refine z_iload_n K dX12_who_41 rfl ?_
      refine z_aload_n K dX12_who_42 rfl ?_
      refine z_iload_n K dX12_who_43 rfl ?_
      obtain ⟨u4, T4, hc, h⟩ := bd2_e h
      refine z_callVI K (mX12_isMeant l hR k0 hc) clX12 k0 ceX12_isMeant q1785 ⟨rfl, rfl, rfl, rfl⟩ rfl rfl rfl dX12_who_44 ?_
      refine z_if_eq K 56 dX12_who_47 (by decide) (fun c => ?_) (fun c => ?_)
      · have h := ite_t h c
        refine z_iconst K 0 dX12_who_56 rfl ?_
        refine z_ior K dX12_who_57 ?_
        refine z_istore_n K dX12_who_58 rfl rfl ?_
        refine z_iinc K 1 dX12_who_59 rfl rfl rfl rfl ?_
        refine z_goto K 31 dX12_who_62 (by decide) ?_
        refine Zj.mask [true, true, true] ?_
        exact hr31 _ _ _ h
      · have h := ite_f h c
        refine z_iconst K 1 dX12_who_50 rfl ?_
        refine z_iload_n K dX12_who_51 rfl ?_
        refine z_ishl K dX12_who_52 ?_
        refine z_goto K 57 dX12_who_53 (by decide) ?_
        refine z_ior K dX12_who_57 ?_
        refine z_istore_n K dX12_who_58 rfl rfl ?_
        refine z_iinc K 1 dX12_who_59 rfl rfl rfl rfl ?_
        refine z_goto K 31 dX12_who_62 (by decide) ?_
        refine Zj.mask [true, true, true] ?_
        exact hr31 _ _ _ h
set_option maxRecDepth 100000 in
set_option maxHeartbeats 4000000 in
theorem wX12_who_65 {X : Cx} {g : Gl} {l : Launch} {R : Rf} {a0 : Nat} (K : Ok X g l cX12_who RX12 3 (some .int) rmX12_who) (hR : Ty g R) (k0 : kd g a0 = 12) {r : Int32 × Mm} (T : Mm) (x1 : Int32) (h : pX12_who_65 R a0 T x1 = some r) : Zj X g 3 (QI X g r.1 R r.2) R T [none, some (.int x1), none] [] 65 := by
  unfold pX12_who_65 at h
  refine z_iload_n K dX12_who_65 rfl ?_
  obtain rfl := Option.some.inj h
  exact z_iret K dX12_who_66
set_option maxRecDepth 100000 in
set_option maxHeartbeats 4000000 in
theorem mX12_who {g : Gl} {R : Rf} {T : Mm} {a0 : Nat} (l : Launch) (hR : Ty g R) (k0 : kd g a0 = 12) {r : Int32 × Mm} (h : pX12_who R T a0 = some r) : MI l g yX12_who cX12_who 3 (some .int) rmX12_who [.ref (g.2.2.1 a0)] R T r.1 R r.2 := by
  refine z_metI (own := RX12) (lv := [some (.ref (g.2.2.1 a0)), none, none]) (by decide +kernel) rfl rfl rfl (fun X K => ?_)
  unfold pX12_who at h
  refine z_aload_n K dX12_who_0 rfl ?_
  refine z_iconst K 0 dX12_who_1 rfl ?_
  refine z_putI K clX12 tyX12_ok nmX12 k0 0 rfl rfl q1338 rfl rfl rfl dX12_who_2 ?_
  refine z_aload_n K dX12_who_5 rfl ?_
  refine z_sipush K 940 dX12_who_6 rfl ?_
  obtain ⟨T2, hc, h⟩ := bd1_e h
  refine z_callVV K (mX12_taken l hR k0 hc) clX12 k0 ceX12_taken q1494 ⟨rfl, rfl, rfl, rfl⟩ rfl rfl rfl dX12_who_9 ?_
  refine z_aload_n K dX12_who_12 rfl ?_
  refine z_getI K clX12 k0 3 rfl rfl q1341 dX12_who_13 ?_
  refine z_iconst K 1 dX12_who_16 rfl ?_
  refine z_bipush K 6 dX12_who_17 rfl ?_
  obtain ⟨u3, hc, h⟩ := bd1_e h
  refine z_callSI K (mX12_isIn l hR hc) ceX12_isIn q1539 ⟨rfl, rfl, rfl, rfl⟩ rfl rfl rfl dX12_who_19 ?_
  refine z_if_ne K 27 dX12_who_22 (by decide) (fun c => ?_) (fun c => ?_)
  · have h := ite_f h c
    refine z_iconst K 0 dX12_who_27 rfl ?_
    refine z_istore_n K dX12_who_28 rfl rfl ?_
    refine z_iconst K 0 dX12_who_29 rfl ?_
    refine z_istore_n K dX12_who_30 rfl rfl ?_
    refine Zj.mask [true, true, true] ?_
    exact wX12_who_31 K hR k0 (wX12_who_65 K hR k0) FU _ _ _ h
  · have h := ite_t h c
    refine z_iconst K (-1) dX12_who_25 rfl ?_
    obtain rfl := Option.some.inj h
    exact z_iret K dX12_who_26
/-! GoingOverModel.partsBy (II)I -/
abbrev rmX12_partsBy : Room := { frames := 3, cells := 0, slots := 0, locals := 74 }
def pX12_partsBy_39 (R : Rf) (T : Mm) (a0 : Nat) (x1 : Int32) (x2 : Int32) (as0 : Nat) (xs1 : Int32) (xs2 : Int32) : Option (Int32) :=
  bd1 (pX12_partsOf R T as0 xs1 xs2) (fun (u4 : Int32) => some u4)
def pX12_partsBy (R : Rf) (T : Mm) (a0 : Nat) (x1 : Int32) (x2 : Int32) : Option (Int32) :=
  bd1 (pX12_barrelOf R T a0 x1) (fun (u1 : Int32) => bd1 (pX12_isDown R T a0 x1) (fun (u2 : Int32) => if u2 = 0 then ix (7 + x1) 270 (bd1 (pX12_joinsFrom R T a0 (x2 - (T.1 (R a0 6) (7 + x1).toNatClampNeg))) (fun (u3 : Int32) => pX12_partsBy_39 R T a0 x1 x2 a0 u1 u3)) else ix 82 270 (pX12_partsBy_39 R T a0 x1 x2 a0 u1 (T.1 (R a0 6) (82 : Int32).toNatClampNeg))))
set_option maxRecDepth 100000 in
set_option maxHeartbeats 4000000 in
theorem wX12_partsBy_39 {X : Cx} {g : Gl} {l : Launch} {R : Rf} {T : Mm} {a0 : Nat} {x1 : Int32} {x2 : Int32} (K : Ok X g l cX12_partsBy RX12 3 (some .int) rmX12_partsBy) (hR : Ty g R) (k0 : kd g a0 = 12) {r : Int32} (as0 : Nat) (xs1 : Int32) (xs2 : Int32) (ks0 : kd g as0 = 12) (h : pX12_partsBy_39 R T a0 x1 x2 as0 xs1 xs2 = some r) : Zj X g 3 (QI X g r R T) R T [none, none, none] [.int xs2, .int xs1, .ref (g.2.2.1 as0)] 39 := by
  unfold pX12_partsBy_39 at h
  obtain ⟨u4, hc, h⟩ := bd1_e h
  refine z_callVI K (mX12_partsOf l hR ks0 hc) clX12 ks0 ceX12_partsOf q1618 ⟨rfl, rfl, rfl, rfl⟩ rfl rfl rfl dX12_partsBy_39 ?_
  obtain rfl := Option.some.inj h
  exact z_iret K dX12_partsBy_42
set_option maxRecDepth 100000 in
set_option maxHeartbeats 4000000 in
theorem mX12_partsBy {g : Gl} {R : Rf} {T : Mm} {a0 : Nat} {x1 : Int32} {x2 : Int32} (l : Launch) (hR : Ty g R) (k0 : kd g a0 = 12) {r : Int32} (h : pX12_partsBy R T a0 x1 x2 = some r) : MI l g yX12_partsBy cX12_partsBy 3 (some .int) rmX12_partsBy [.ref (g.2.2.1 a0), .int x1, .int x2] R T r R T := by
  refine z_metI (own := RX12) (lv := [some (.ref (g.2.2.1 a0)), some (.int x1), some (.int x2)]) (by decide +kernel) rfl rfl rfl (fun X K => ?_)
  unfold pX12_partsBy at h
  refine z_aload_n K dX12_partsBy_0 rfl ?_
  refine z_aload_n K dX12_partsBy_1 rfl ?_
  refine z_iload_n K dX12_partsBy_2 rfl ?_
  obtain ⟨u1, hc, h⟩ := bd1_e h
  refine z_callVI K (mX12_barrelOf l hR k0 hc) clX12 k0 ceX12_barrelOf q1602 ⟨rfl, rfl, rfl, rfl⟩ rfl rfl rfl dX12_partsBy_3 ?_
  refine z_aload_n K dX12_partsBy_6 rfl ?_
  refine z_iload_n K dX12_partsBy_7 rfl ?_
  obtain ⟨u2, hc, h⟩ := bd1_e h
  refine z_callVI K (mX12_isDown l hR k0 hc) clX12 k0 ceX12_isDown q1697 ⟨rfl, rfl, rfl, rfl⟩ rfl rfl rfl dX12_partsBy_8 ?_
  refine z_if_eq K 24 dX12_partsBy_11 (by decide) (fun c => ?_) (fun c => ?_)
  · have h := ite_t h c
    refine z_aload_n K dX12_partsBy_24 rfl ?_
    refine z_iload_n K dX12_partsBy_25 rfl ?_
    refine z_aload_n K dX12_partsBy_26 rfl ?_
    refine z_getR K clX12 k0 6 rfl rfl q1344 dX12_partsBy_27 ?_
    refine z_bipush K 7 dX12_partsBy_30 rfl ?_
    refine z_iload_n K dX12_partsBy_32 rfl ?_
    refine z_iadd K dX12_partsBy_33 ?_
    obtain ⟨hi, h⟩ := ix_e h
    refine z_iald K (hR.at (k := 6) (t := 20270) k0 rfl rfl) rfl rfl rfl hi dX12_partsBy_34 ?_
    refine z_isub K dX12_partsBy_35 ?_
    obtain ⟨u3, hc, h⟩ := bd1_e h
    refine z_callVI K (mX12_joinsFrom l hR k0 hc) clX12 k0 ceX12_joinsFrom q1681 ⟨rfl, rfl, rfl, rfl⟩ rfl rfl rfl dX12_partsBy_36 ?_
    refine Zj.mask [false, false, false] ?_
    exact wX12_partsBy_39 K hR k0 _ _ _ k0 h
  · have h := ite_f h c
    refine z_aload_n K dX12_partsBy_14 rfl ?_
    refine z_getR K clX12 k0 6 rfl rfl q1344 dX12_partsBy_15 ?_
    refine z_bipush K 82 dX12_partsBy_18 rfl ?_
    obtain ⟨hi, h⟩ := ix_e h
    refine z_iald K (hR.at (k := 6) (t := 20270) k0 rfl rfl) rfl rfl rfl hi dX12_partsBy_20 ?_
    refine z_goto K 39 dX12_partsBy_21 (by decide) ?_
    refine Zj.mask [false, false, false] ?_
    exact wX12_partsBy_39 K hR k0 _ _ _ k0 h
