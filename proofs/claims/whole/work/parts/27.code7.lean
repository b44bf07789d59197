/-! GoingOverModel.leafOf ()I -/
abbrev rmX12_leafOf : Room := { frames := 1, cells := 0, slots := 0, locals := 22 }
def pX12_leafOf (R : Rf) (T : Mm) (a0 : Nat) : Option (Int32) :=
  bd1 (pX12_isWord R T a0 491327153273) (fun (u1 : Int32) => if u1 = 0 then bd1 (pX12_isWord R T a0 29380524387167847) (fun (u2 : Int32) => if u2 = 0 then bd1 (pX12_isWord R T a0 123623913055588) (fun (u3 : Int32) => if u3 = 0 then bd1 (pX12_isWord R T a0 7304564) (fun (u4 : Int32) => if u4 = 0 then bd1 (pX12_isWord R T a0 512853240933) (fun (u5 : Int32) => if u5 = 0 then bd1 (pX12_isWord R T a0 6840691) (fun (u6 : Int32) => if u6 = 0 then bd1 (pX12_isWord R T a0 131277443786868) (fun (u7 : Int32) => if u7 = 0 then bd1 (pX12_isWord R T a0 482671228019) (fun (u8 : Int32) => if u8 = 0 then bd1 (pX12_isWord R T a0 495874892151) (fun (u9 : Int32) => if u9 = 0 then bd1 (pX12_isWord R T a0 121450625394034) (fun (u10 : Int32) => if u10 = 0 then some (-1) else some 9) else some 8) else some 7) else some 6) else some 5) else some 4) else some 3) else some 2) else some 1) else some 0)
set_option maxRecDepth 100000 in
set_option maxHeartbeats 4000000 in
theorem mX12_leafOf {g : Gl} {R : Rf} {T : Mm} {a0 : Nat} (l : Launch) (hR : Ty g R) (k0 : kd g a0 = 12) {r : Int32} (h : pX12_leafOf R T a0 = some r) : MI l g yX12_leafOf cX12_leafOf 1 (some .int) rmX12_leafOf [.ref (g.2.2.1 a0)] R T r R T := by
  refine z_metI (own := RX12) (lv := [some (.ref (g.2.2.1 a0))]) (by decide +kernel) rfl rfl rfl (fun X K => ?_)
  unfold pX12_leafOf at h
  refine z_aload_n K dX12_leafOf_0 rfl ?_
  refine z_ldc2 K 491327153273 q1324 dX12_leafOf_1 ?_
  obtain ⟨u1, hc, h⟩ := bd1_e h
  refine z_callVI K (mX12_isWord l hR k0 hc) clX12 k0 ceX12_isWord q1516 ⟨rfl, rfl, rfl, rfl⟩ rfl rfl rfl dX12_leafOf_4 ?_
  refine z_if_eq K 14 dX12_leafOf_7 (by decide) (fun c => ?_) (fun c => ?_)
  · have h := ite_t h c
    refine z_aload_n K dX12_leafOf_14 rfl ?_
    refine z_ldc2 K 29380524387167847 q1325 dX12_leafOf_15 ?_
    obtain ⟨u2, hc, h⟩ := bd1_e h
    refine z_callVI K (mX12_isWord l hR k0 hc) clX12 k0 ceX12_isWord q1516 ⟨rfl, rfl, rfl, rfl⟩ rfl rfl rfl dX12_leafOf_18 ?_
    refine z_if_eq K 28 dX12_leafOf_21 (by decide) (fun c => ?_) (fun c => ?_)
    · have h := ite_t h c
      refine z_aload_n K dX12_leafOf_28 rfl ?_
      refine z_ldc2 K 123623913055588 q1326 dX12_leafOf_29 ?_
      obtain ⟨u3, hc, h⟩ := bd1_e h
      refine z_callVI K (mX12_isWord l hR k0 hc) clX12 k0 ceX12_isWord q1516 ⟨rfl, rfl, rfl, rfl⟩ rfl rfl rfl dX12_leafOf_32 ?_
      refine z_if_eq K 42 dX12_leafOf_35 (by decide) (fun c => ?_) (fun c => ?_)
      · have h := ite_t h c
        refine z_aload_n K dX12_leafOf_42 rfl ?_
        refine z_ldc2 K 7304564 q1327 dX12_leafOf_43 ?_
        obtain ⟨u4, hc, h⟩ := bd1_e h
        refine z_callVI K (mX12_isWord l hR k0 hc) clX12 k0 ceX12_isWord q1516 ⟨rfl, rfl, rfl, rfl⟩ rfl rfl rfl dX12_leafOf_46 ?_
        refine z_if_eq K 56 dX12_leafOf_49 (by decide) (fun c => ?_) (fun c => ?_)
        · have h := ite_t h c
          refine z_aload_n K dX12_leafOf_56 rfl ?_
          refine z_ldc2 K 512853240933 q1328 dX12_leafOf_57 ?_
          obtain ⟨u5, hc, h⟩ := bd1_e h
          refine z_callVI K (mX12_isWord l hR k0 hc) clX12 k0 ceX12_isWord q1516 ⟨rfl, rfl, rfl, rfl⟩ rfl rfl rfl dX12_leafOf_60 ?_
          refine z_if_eq K 70 dX12_leafOf_63 (by decide) (fun c => ?_) (fun c => ?_)
          · have h := ite_t h c
            refine z_aload_n K dX12_leafOf_70 rfl ?_
            refine z_ldc2 K 6840691 q1329 dX12_leafOf_71 ?_
            obtain ⟨u6, hc, h⟩ := bd1_e h
            refine z_callVI K (mX12_isWord l hR k0 hc) clX12 k0 ceX12_isWord q1516 ⟨rfl, rfl, rfl, rfl⟩ rfl rfl rfl dX12_leafOf_74 ?_
            refine z_if_eq K 84 dX12_leafOf_77 (by decide) (fun c => ?_) (fun c => ?_)
            · have h := ite_t h c
              refine z_aload_n K dX12_leafOf_84 rfl ?_
              refine z_ldc2 K 131277443786868 q1330 dX12_leafOf_85 ?_
              obtain ⟨u7, hc, h⟩ := bd1_e h
              refine z_callVI K (mX12_isWord l hR k0 hc) clX12 k0 ceX12_isWord q1516 ⟨rfl, rfl, rfl, rfl⟩ rfl rfl rfl dX12_leafOf_88 ?_
              refine z_if_eq K 99 dX12_leafOf_91 (by decide) (fun c => ?_) (fun c => ?_)
              · have h := ite_t h c
                refine z_aload_n K dX12_leafOf_99 rfl ?_
                refine z_ldc2 K 482671228019 q1331 dX12_leafOf_100 ?_
                obtain ⟨u8, hc, h⟩ := bd1_e h
                refine z_callVI K (mX12_isWord l hR k0 hc) clX12 k0 ceX12_isWord q1516 ⟨rfl, rfl, rfl, rfl⟩ rfl rfl rfl dX12_leafOf_103 ?_
                refine z_if_eq K 114 dX12_leafOf_106 (by decide) (fun c => ?_) (fun c => ?_)
                · have h := ite_t h c
                  refine z_aload_n K dX12_leafOf_114 rfl ?_
                  refine z_ldc2 K 495874892151 q1332 dX12_leafOf_115 ?_
                  obtain ⟨u9, hc, h⟩ := bd1_e h
                  refine z_callVI K (mX12_isWord l hR k0 hc) clX12 k0 ceX12_isWord q1516 ⟨rfl, rfl, rfl, rfl⟩ rfl rfl rfl dX12_leafOf_118 ?_
                  refine z_if_eq K 129 dX12_leafOf_121 (by decide) (fun c => ?_) (fun c => ?_)
                  · have h := ite_t h c
                    refine z_aload_n K dX12_leafOf_129 rfl ?_
                    refine z_ldc2 K 121450625394034 q1333 dX12_leafOf_130 ?_
                    obtain ⟨u10, hc, h⟩ := bd1_e h
                    refine z_callVI K (mX12_isWord l hR k0 hc) clX12 k0 ceX12_isWord q1516 ⟨rfl, rfl, rfl, rfl⟩ rfl rfl rfl dX12_leafOf_133 ?_
                    refine z_if_eq K 144 dX12_leafOf_136 (by decide) (fun c => ?_) (fun c => ?_)
                    · have h := ite_t h c
                      refine z_iconst K (-1) dX12_leafOf_144 rfl ?_
                      obtain rfl := Option.some.inj h
                      exact z_iret K dX12_leafOf_145
                    · have h := ite_f h c
                      refine z_bipush K 9 dX12_leafOf_139 rfl ?_
                      refine z_goto K 145 dX12_leafOf_141 (by decide) ?_
                      obtain rfl := Option.some.inj h
                      exact z_iret K dX12_leafOf_145
                  · have h := ite_f h c
                    refine z_bipush K 8 dX12_leafOf_124 rfl ?_
                    refine z_goto K 145 dX12_leafOf_126 (by decide) ?_
                    obtain rfl := Option.some.inj h
                    exact z_iret K dX12_leafOf_145
                · have h := ite_f h c
                  refine z_bipush K 7 dX12_leafOf_109 rfl ?_
                  refine z_goto K 145 dX12_leafOf_111 (by decide) ?_
                  obtain rfl := Option.some.inj h
                  exact z_iret K dX12_leafOf_145
              · have h := ite_f h c
                refine z_bipush K 6 dX12_leafOf_94 rfl ?_
                refine z_goto K 145 dX12_leafOf_96 (by decide) ?_
                obtain rfl := Option.some.inj h
                exact z_iret K dX12_leafOf_145
            · have h := ite_f h c
              refine z_iconst K 5 dX12_leafOf_80 rfl ?_
              refine z_goto K 145 dX12_leafOf_81 (by decide) ?_
              obtain rfl := Option.some.inj h
              exact z_iret K dX12_leafOf_145
          · have h := ite_f h c
            refine z_iconst K 4 dX12_leafOf_66 rfl ?_
            refine z_goto K 145 dX12_leafOf_67 (by decide) ?_
            obtain rfl := Option.some.inj h
            exact z_iret K dX12_leafOf_145
        · have h := ite_f h c
          refine z_iconst K 3 dX12_leafOf_52 rfl ?_
          refine z_goto K 145 dX12_leafOf_53 (by decide) ?_
          obtain rfl := Option.some.inj h
          exact z_iret K dX12_leafOf_145
      · have h := ite_f h c
        refine z_iconst K 2 dX12_leafOf_38 rfl ?_
        refine z_goto K 145 dX12_leafOf_39 (by decide) ?_
        obtain rfl := Option.some.inj h
        exact z_iret K dX12_leafOf_145
    · have h := ite_f h c
      refine z_iconst K 1 dX12_leafOf_24 rfl ?_
      refine z_goto K 145 dX12_leafOf_25 (by decide) ?_
      obtain rfl := Option.some.inj h
      exact z_iret K dX12_leafOf_145
  · have h := ite_f h c
    refine z_iconst K 0 dX12_leafOf_10 rfl ?_
    refine z_goto K 145 dX12_leafOf_11 (by decide) ?_
    obtain rfl := Option.some.inj h
    exact z_iret K dX12_leafOf_145
/-! GoingOverModel.operand ()Z -/
abbrev rmX12_operand : Room := { frames := 2, cells := 0, slots := 0, locals := 45 }
def pX12_operand_56 (R : Rf) (a0 : Nat) (T : Mm) : Option (Int32 × Mm) :=
  bd2 (pX12_bad R T a0 4) (fun (u4 : Int32) (T4 : Mm) => bz u4 (some (u4, T4)))
def pX12_operand_103 (R : Rf) (a0 : Nat) (T : Mm) (as0 : Nat) (xs1 : Int32) (xs2 : Int32) : Option (Int32 × Mm) :=
  ix xs1 45 (lt (wI T as0 xs1.toNatClampNeg xs2) (fun (T7 : Mm) => lt (wI T7 a0 43 ((T7.1 a0 43) + 1)) (fun (T8 : Mm) => lt (wI T8 a0 44 ((T8.1 a0 44) + 1)) (fun (T9 : Mm) => some (1, T9)))))
def pX12_operand_84 (R : Rf) (a0 : Nat) (T : Mm) (x1 : Int32) : Option (Int32 × Mm) :=
  if x1 = 0 then pX12_operand_103 R a0 T (R a0 40) (T.1 a0 43) 23 else pX12_operand_103 R a0 T (R a0 40) (T.1 a0 43) 20
def pX12_operand_209 (R : Rf) (a0 : Nat) (T : Mm) : Option (Int32 × Mm) :=
  bd2 (pX12_bad R T a0 1) (fun (u11 : Int32) (T11 : Mm) => bz u11 (some (u11, T11)))
def pX12_operand_38 (R : Rf) (a0 : Nat) (T : Mm) (x1 : Int32) (x2 : Int32) (x3 : Int32) : Option (Int32 × Mm) :=
  if (T.1 a0 42) = 20 then pX12_operand_56 R a0 T else if (T.1 a0 44) ≤ 8 then lt (wI T a0 42 ((T.1 a0 42) + 1)) (fun (T5 : Mm) => bd1 (pX12_next R T5 a0) (fun (T6 : Mm) => if x1 = 0 then if x2 = 0 then lt (wI T6 a0 45 1) (fun (T10 : Mm) => if 5 ≤ x3 then if 6 ≤ x3 then if (T10.1 a0 11) = 3 then if (T10.1 a0 14) < 60 then pX12_operand_209 R a0 T10 else if (T10.1 a0 14) ≤ 62 then lt (T10.1 a0 14) (fun (v12 : Int32) => bd1 (pX12_next R T10 a0) (fun (T13 : Mm) => if (T13.1 a0 11) = 2 then bd1 (pX12_code R T13 a0 x3 v12 (T13.1 a0 14)) (fun (T14 : Mm) => bd1 (pX12_next R T14 a0) (fun (T15 : Mm) => some (1, T15))) else bd2 (pX12_bad R T13 a0 1) (fun (u16 : Int32) (T16 : Mm) => bz u16 (some (u16, T16))))) else pX12_operand_209 R a0 T10 else pX12_operand_209 R a0 T10 else ix 1 270 (bd2 (pX12_looksAt R T10 a0 5 (T10.1 (R a0 6) (1 : Int32).toNatClampNeg)) (fun (u17 : Int32) (T17 : Mm) => if u17 = 0 then some (0, T17) else bd1 (pX12_code R T17 a0 x3 0 (T17.1 a0 18)) (fun (T18 : Mm) => bd1 (pX12_next R T18 a0) (fun (T19 : Mm) => some (1, T19))))) else bd1 (pX12_code R T10 a0 x3 0 0) (fun (T20 : Mm) => some (1, T20))) else pX12_operand_84 R a0 T6 x1 else pX12_operand_84 R a0 T6 x1)) else pX12_operand_56 R a0 T
def pX12_operand (R : Rf) (T : Mm) (a0 : Nat) : Option (Int32 × Mm) :=
  bd1 (pX12_isWord R T a0 7237492) (fun (u1 : Int32) => bd1 (pX12_isSign R T a0 40) (fun (u2 : Int32) => bd1 (pX12_leafOf R T a0) (fun (u3 : Int32) => if u1 = 0 then if u2 = 0 then if 0 ≤ u3 then pX12_operand_38 R a0 T u1 u2 u3 else bd2 (pX12_bad R T a0 1) (fun (u21 : Int32) (T21 : Mm) => bz u21 (some (u21, T21))) else pX12_operand_38 R a0 T u1 u2 u3 else pX12_operand_38 R a0 T u1 u2 u3)))
set_option maxRecDepth 100000 in
set_option maxHeartbeats 4000000 in
theorem wX12_operand_56 {X : Cx} {g : Gl} {l : Launch} {R : Rf} {a0 : Nat} (K : Ok X g l cX12_operand RX12 5 (some .boolean) rmX12_operand) (hR : Ty g R) (k0 : kd g a0 = 12) {r : Int32 × Mm} (T : Mm) (h : pX12_operand_56 R a0 T = some r) : Zj X g 5 (QI X g r.1 R r.2) R T [some (.ref (g.2.2.1 a0)), none, none, none, none] [] 56 := by
  unfold pX12_operand_56 at h
  refine z_aload_n K dX12_operand_56 rfl ?_
  refine z_iconst K 4 dX12_operand_57 rfl ?_
  obtain ⟨u4, T4, hc, h⟩ := bd2_e h
  refine z_callVI K (mX12_bad l hR k0 hc) clX12 k0 ceX12_bad q1527 ⟨rfl, rfl, rfl, rfl⟩ rfl rfl rfl dX12_operand_58 ?_
  obtain ⟨hz, hf, h⟩ := bz_e h
  obtain rfl := Option.some.inj h
  exact z_zret K hz dX12_operand_61
set_option maxRecDepth 100000 in
set_option maxHeartbeats 4000000 in
theorem wX12_operand_103 {X : Cx} {g : Gl} {l : Launch} {R : Rf} {a0 : Nat} (K : Ok X g l cX12_operand RX12 5 (some .boolean) rmX12_operand) (hR : Ty g R) (k0 : kd g a0 = 12) {r : Int32 × Mm} (T : Mm) (as0 : Nat) (xs1 : Int32) (xs2 : Int32) (ks0 : kd g as0 = 20045) (h : pX12_operand_103 R a0 T as0 xs1 xs2 = some r) : Zj X g 5 (QI X g r.1 R r.2) R T [some (.ref (g.2.2.1 a0)), none, none, none, none] [.int xs2, .int xs1, .ref (g.2.2.1 as0)] 103 := by
  unfold pX12_operand_103 at h
  obtain ⟨hi, h⟩ := ix_e h
  refine z_iast K ks0 rfl rfl rfl hi dX12_operand_103 ?_
  refine z_aload_n K dX12_operand_104 rfl ?_
  refine z_dup K dX12_operand_105 rfl ?_
  refine z_getI K clX12 k0 43 rfl rfl q1381 dX12_operand_106 ?_
  refine z_iconst K 1 dX12_operand_109 rfl ?_
  refine z_iadd K dX12_operand_110 ?_
  refine z_putI K clX12 tyX12_ok nmX12 k0 43 rfl rfl q1381 rfl rfl rfl dX12_operand_111 ?_
  refine z_aload_n K dX12_operand_114 rfl ?_
  refine z_dup K dX12_operand_115 rfl ?_
  refine z_getI K clX12 k0 44 rfl rfl q1382 dX12_operand_116 ?_
  refine z_iconst K 1 dX12_operand_119 rfl ?_
  refine z_iadd K dX12_operand_120 ?_
  refine z_putI K clX12 tyX12_ok nmX12 k0 44 rfl rfl q1382 rfl rfl rfl dX12_operand_121 ?_
  refine z_iconst K 1 dX12_operand_124 rfl ?_
  obtain rfl := Option.some.inj h
  exact z_zret (v := 1) K rfl dX12_operand_125
set_option maxRecDepth 100000 in
set_option maxHeartbeats 4000000 in
theorem wX12_operand_84 {X : Cx} {g : Gl} {l : Launch} {R : Rf} {a0 : Nat} (K : Ok X g l cX12_operand RX12 5 (some .boolean) rmX12_operand) (hR : Ty g R) (k0 : kd g a0 = 12) {r : Int32 × Mm} (T : Mm) (x1 : Int32) (h : pX12_operand_84 R a0 T x1 = some r) : Zj X g 5 (QI X g r.1 R r.2) R T [some (.ref (g.2.2.1 a0)), some (.int x1), none, none, none] [] 84 := by
  unfold pX12_operand_84 at h
  refine z_aload_n K dX12_operand_84 rfl ?_
  refine z_getR K clX12 k0 40 rfl rfl q1378 dX12_operand_85 ?_
  refine z_aload_n K dX12_operand_88 rfl ?_
  refine z_getI K clX12 k0 43 rfl rfl q1381 dX12_operand_89 ?_
  refine z_iload_n K dX12_operand_92 rfl ?_
  refine z_if_eq K 101 dX12_operand_93 (by decide) (fun c => ?_) (fun c => ?_)
  · have h := ite_t h c
    refine z_bipush K 23 dX12_operand_101 rfl ?_
    refine Zj.mask [true, false, false, false, false] ?_
    exact wX12_operand_103 K hR k0 _ _ _ _ (hR.at (k := 40) (t := 20045) k0 rfl rfl) h
  · have h := ite_f h c
    refine z_bipush K 20 dX12_operand_96 rfl ?_
    refine z_goto K 103 dX12_operand_98 (by decide) ?_
    refine Zj.mask [true, false, false, false, false] ?_
    exact wX12_operand_103 K hR k0 _ _ _ _ (hR.at (k := 40) (t := 20045) k0 rfl rfl) h
set_option maxRecDepth 100000 in
set_option maxHeartbeats 4000000 in
theorem wX12_operand_209 {X : Cx} {g : Gl} {l : Launch} {R : Rf} {a0 : Nat} (K : Ok X g l cX12_operand RX12 5 (some .boolean) rmX12_operand) (hR : Ty g R) (k0 : kd g a0 = 12) {r : Int32 × Mm} (T : Mm) (h : pX12_operand_209 R a0 T = some r) : Zj X g 5 (QI X g r.1 R r.2) R T [some (.ref (g.2.2.1 a0)), none, none, none, none] [] 209 := by
  unfold pX12_operand_209 at h
  refine z_aload_n K dX12_operand_209 rfl ?_
  refine z_iconst K 1 dX12_operand_210 rfl ?_
  obtain ⟨u11, T11, hc, h⟩ := bd2_e h
  refine z_callVI K (mX12_bad l hR k0 hc) clX12 k0 ceX12_bad q1527 ⟨rfl, rfl, rfl, rfl⟩ rfl rfl rfl dX12_operand_211 ?_
  obtain ⟨hz, hf, h⟩ := bz_e h
  obtain rfl := Option.some.inj h
  exact z_zret K hz dX12_operand_214
set_option maxRecDepth 100000 in
set_option maxHeartbeats 4000000 in
theorem wX12_operand_38 {X : Cx} {g : Gl} {l : Launch} {R : Rf} {a0 : Nat} (K : Ok X g l cX12_operand RX12 5 (some .boolean) rmX12_operand) (hR : Ty g R) (k0 : kd g a0 = 12) {r : Int32 × Mm} (T : Mm) (x1 : Int32) (x2 : Int32) (x3 : Int32) (h : pX12_operand_38 R a0 T x1 x2 x3 = some r) : Zj X g 5 (QI X g r.1 R r.2) R T [some (.ref (g.2.2.1 a0)), some (.int x1), some (.int x2), some (.int x3), none] [] 38 := by
  unfold pX12_operand_38 at h
  refine z_aload_n K dX12_operand_38 rfl ?_
  refine z_getI K clX12 k0 42 rfl rfl q1380 dX12_operand_39 ?_
  refine z_bipush K 20 dX12_operand_42 rfl ?_
  refine z_icmp_eq K 56 dX12_operand_44 (by decide) (fun c => ?_) (fun c => ?_)
  · have h := ite_t h c
    refine Zj.mask [true, false, false, false, false] ?_
    exact wX12_operand_56 K hR k0 _ h
  · have h := ite_f h c
    refine z_aload_n K dX12_operand_47 rfl ?_
    refine z_getI K clX12 k0 44 rfl rfl q1382 dX12_operand_48 ?_
    refine z_bipush K 8 dX12_operand_51 rfl ?_
    refine z_icmp_le K 62 dX12_operand_53 (by decide) (fun c => ?_) (fun c => ?_)
    · have h := ite_t h c
      refine z_aload_n K dX12_operand_62 rfl ?_
      refine z_dup K dX12_operand_63 rfl ?_
      refine z_getI K clX12 k0 42 rfl rfl q1380 dX12_operand_64 ?_
      refine z_iconst K 1 dX12_operand_67 rfl ?_
      refine z_iadd K dX12_operand_68 ?_
      refine z_putI K clX12 tyX12_ok nmX12 k0 42 rfl rfl q1380 rfl rfl rfl dX12_operand_69 ?_
      refine z_aload_n K dX12_operand_72 rfl ?_
      obtain ⟨T6, hc, h⟩ := bd1_e h
      refine z_callVV K (mX12_next l hR k0 hc) clX12 k0 ceX12_next q1498 ⟨rfl, rfl, rfl, rfl⟩ rfl rfl rfl dX12_operand_73 ?_
      refine z_iload_n K dX12_operand_76 rfl ?_
      refine z_if_ne K 84 dX12_operand_77 (by decide) (fun c => ?_) (fun c => ?_)
      · have h := ite_f h c
        refine Zj.mask [true, true, false, false, false] ?_
        exact wX12_operand_84 K hR k0 _ _ h
      · have h := ite_t h c
        refine z_iload_n K dX12_operand_80 rfl ?_
        refine z_if_eq K 126 dX12_operand_81 (by decide) (fun c => ?_) (fun c => ?_)
        · have h := ite_t h c
          refine z_aload_n K dX12_operand_126 rfl ?_
          refine z_iconst K 1 dX12_operand_127 rfl ?_
          refine z_putI K clX12 tyX12_ok nmX12 k0 45 rfl rfl q1383 rfl rfl rfl dX12_operand_128 ?_
          refine z_iload_n K dX12_operand_131 rfl ?_
          refine z_iconst K 5 dX12_operand_132 rfl ?_
          refine z_icmp_ge K 145 dX12_operand_133 (by decide) (fun c => ?_) (fun c => ?_)
          · have h := ite_t h c
            refine z_iload_n K dX12_operand_145 rfl ?_
            refine z_bipush K 6 dX12_operand_146 rfl ?_
            refine z_icmp_ge K 183 dX12_operand_148 (by decide) (fun c => ?_) (fun c => ?_)
            · have h := ite_t h c
              refine z_aload_n K dX12_operand_183 rfl ?_
              refine z_getI K clX12 k0 11 rfl rfl q1349 dX12_operand_184 ?_
              refine z_iconst K 3 dX12_operand_187 rfl ?_
              refine z_icmp_ne K 209 dX12_operand_188 (by decide) (fun c => ?_) (fun c => ?_)
              · have h := ite_f h c
                refine Zj.mask [true, false, false, false, false] ?_
                exact wX12_operand_209 K hR k0 _ h
              · have h := ite_t h c
                refine z_aload_n K dX12_operand_191 rfl ?_
                refine z_getI K clX12 k0 14 rfl rfl q1352 dX12_operand_192 ?_
                refine z_bipush K 60 dX12_operand_195 rfl ?_
                refine z_icmp_lt K 209 dX12_operand_197 (by decide) (fun c => ?_) (fun c => ?_)
                · have h := ite_t h c
                  refine Zj.mask [true, false, false, false, false] ?_
                  exact wX12_operand_209 K hR k0 _ h
                · have h := ite_f h c
                  refine z_aload_n K dX12_operand_200 rfl ?_
                  refine z_getI K clX12 k0 14 rfl rfl q1352 dX12_operand_201 ?_
                  refine z_bipush K 62 dX12_operand_204 rfl ?_
                  refine z_icmp_le K 215 dX12_operand_206 (by decide) (fun c => ?_) (fun c => ?_)
                  · have h := ite_t h c
                    refine z_aload_n K dX12_operand_215 rfl ?_
                    refine z_getI K clX12 k0 14 rfl rfl q1352 dX12_operand_216 ?_
                    refine z_istore K dX12_operand_219 rfl rfl ?_
                    refine z_aload_n K dX12_operand_221 rfl ?_
                    obtain ⟨T13, hc, h⟩ := bd1_e h
                    refine z_callVV K (mX12_next l hR k0 hc) clX12 k0 ceX12_next q1498 ⟨rfl, rfl, rfl, rfl⟩ rfl rfl rfl dX12_operand_222 ?_
                    refine z_aload_n K dX12_operand_225 rfl ?_
                    refine z_getI K clX12 k0 11 rfl rfl q1349 dX12_operand_226 ?_
                    refine z_iconst K 2 dX12_operand_229 rfl ?_
                    refine z_icmp_eq K 239 dX12_operand_230 (by decide) (fun c => ?_) (fun c => ?_)
                    · have h := ite_t h c
                      refine z_aload_n K dX12_operand_239 rfl ?_
                      refine z_iload_n K dX12_operand_240 rfl ?_
                      refine z_iload K dX12_operand_241 rfl ?_
                      refine z_aload_n K dX12_operand_243 rfl ?_
                      refine z_getI K clX12 k0 14 rfl rfl q1352 dX12_operand_244 ?_
                      obtain ⟨T14, hc, h⟩ := bd1_e h
                      refine z_callVV K (mX12_code l hR k0 hc) clX12 k0 ceX12_code q1909 ⟨rfl, rfl, rfl, rfl⟩ rfl rfl rfl dX12_operand_247 ?_
                      refine z_aload_n K dX12_operand_250 rfl ?_
                      obtain ⟨T15, hc, h⟩ := bd1_e h
                      refine z_callVV K (mX12_next l hR k0 hc) clX12 k0 ceX12_next q1498 ⟨rfl, rfl, rfl, rfl⟩ rfl rfl rfl dX12_operand_251 ?_
                      refine z_iconst K 1 dX12_operand_254 rfl ?_
                      obtain rfl := Option.some.inj h
                      exact z_zret (v := 1) K rfl dX12_operand_255
                    · have h := ite_f h c
                      refine z_aload_n K dX12_operand_233 rfl ?_
                      refine z_iconst K 1 dX12_operand_234 rfl ?_
                      obtain ⟨u16, T16, hc, h⟩ := bd2_e h
                      refine z_callVI K (mX12_bad l hR k0 hc) clX12 k0 ceX12_bad q1527 ⟨rfl, rfl, rfl, rfl⟩ rfl rfl rfl dX12_operand_235 ?_
                      obtain ⟨hz, hf, h⟩ := bz_e h
                      obtain rfl := Option.some.inj h
                      exact z_zret K hz dX12_operand_238
                  · have h := ite_f h c
                    refine Zj.mask [true, false, false, false, false] ?_
                    exact wX12_operand_209 K hR k0 _ h
            · have h := ite_f h c
              refine z_aload_n K dX12_operand_151 rfl ?_
              refine z_iconst K 5 dX12_operand_152 rfl ?_
              refine z_aload_n K dX12_operand_153 rfl ?_
              refine z_getR K clX12 k0 6 rfl rfl q1344 dX12_operand_154 ?_
              refine z_iconst K 1 dX12_operand_157 rfl ?_
              obtain ⟨hi, h⟩ := ix_e h
              refine z_iald K (hR.at (k := 6) (t := 20270) k0 rfl rfl) rfl rfl rfl hi dX12_operand_158 ?_
              obtain ⟨u17, T17, hc, h⟩ := bd2_e h
              refine z_callVI K (mX12_looksAt l hR k0 hc) clX12 k0 ceX12_looksAt q1566 ⟨rfl, rfl, rfl, rfl⟩ rfl rfl rfl dX12_operand_159 ?_
              refine z_if_ne K 167 dX12_operand_162 (by decide) (fun c => ?_) (fun c => ?_)
              · have h := ite_f h c
                refine z_aload_n K dX12_operand_167 rfl ?_
                refine z_iload_n K dX12_operand_168 rfl ?_
                refine z_iconst K 0 dX12_operand_169 rfl ?_
                refine z_aload_n K dX12_operand_170 rfl ?_
                refine z_getI K clX12 k0 18 rfl rfl q1356 dX12_operand_171 ?_
                obtain ⟨T18, hc, h⟩ := bd1_e h
                refine z_callVV K (mX12_code l hR k0 hc) clX12 k0 ceX12_code q1909 ⟨rfl, rfl, rfl, rfl⟩ rfl rfl rfl dX12_operand_174 ?_
                refine z_aload_n K dX12_operand_177 rfl ?_
                obtain ⟨T19, hc, h⟩ := bd1_e h
                refine z_callVV K (mX12_next l hR k0 hc) clX12 k0 ceX12_next q1498 ⟨rfl, rfl, rfl, rfl⟩ rfl rfl rfl dX12_operand_178 ?_
                refine z_iconst K 1 dX12_operand_181 rfl ?_
                obtain rfl := Option.some.inj h
                exact z_zret (v := 1) K rfl dX12_operand_182
              · have h := ite_t h c
                refine z_iconst K 0 dX12_operand_165 rfl ?_
                obtain rfl := Option.some.inj h
                exact z_zret (v := 0) K rfl dX12_operand_166
          · have h := ite_f h c
            refine z_aload_n K dX12_operand_136 rfl ?_
            refine z_iload_n K dX12_operand_137 rfl ?_
            refine z_iconst K 0 dX12_operand_138 rfl ?_
            refine z_iconst K 0 dX12_operand_139 rfl ?_
            obtain ⟨T20, hc, h⟩ := bd1_e h
            refine z_callVV K (mX12_code l hR k0 hc) clX12 k0 ceX12_code q1909 ⟨rfl, rfl, rfl, rfl⟩ rfl rfl rfl dX12_operand_140 ?_
            refine z_iconst K 1 dX12_operand_143 rfl ?_
            obtain rfl := Option.some.inj h
            exact z_zret (v := 1) K rfl dX12_operand_144
        · have h := ite_f h c
          refine Zj.mask [true, true, false, false, false] ?_
          exact wX12_operand_84 K hR k0 _ _ h
    · have h := ite_f h c
      refine Zj.mask [true, false, false, false, false] ?_
      exact wX12_operand_56 K hR k0 _ h
set_option maxRecDepth 100000 in
set_option maxHeartbeats 4000000 in
theorem mX12_operand {g : Gl} {R : Rf} {T : Mm} {a0 : Nat} (l : Launch) (hR : Ty g R) (k0 : kd g a0 = 12) {r : Int32 × Mm} (h : pX12_operand R T a0 = some r) : MI l g yX12_operand cX12_operand 5 (some .boolean) rmX12_operand [.ref (g.2.2.1 a0)] R T r.1 R r.2 := by
  refine z_metI (own := RX12) (lv := [some (.ref (g.2.2.1 a0)), none, none, none, none]) (by decide +kernel) rfl rfl rfl (fun X K => ?_)
  unfold pX12_operand at h
  refine z_aload_n K dX12_operand_0 rfl ?_
  refine z_ldc2 K 7237492 q1323 dX12_operand_1 ?_
  obtain ⟨u1, hc, h⟩ := bd1_e h
  refine z_callVI K (mX12_isWord l hR k0 hc) clX12 k0 ceX12_isWord q1516 ⟨rfl, rfl, rfl, rfl⟩ rfl rfl rfl dX12_operand_4 ?_
  refine z_istore_n K dX12_operand_7 rfl rfl ?_
  refine z_aload_n K dX12_operand_8 rfl ?_
  refine z_bipush K 40 dX12_operand_9 rfl ?_
  obtain ⟨u2, hc, h⟩ := bd1_e h
  refine z_callVI K (mX12_isSign l hR k0 hc) clX12 k0 ceX12_isSign q1578 ⟨rfl, rfl, rfl, rfl⟩ rfl rfl rfl dX12_operand_11 ?_
  refine z_istore_n K dX12_operand_14 rfl rfl ?_
  refine z_aload_n K dX12_operand_15 rfl ?_
  obtain ⟨u3, hc, h⟩ := bd1_e h
  refine z_callVI K (mX12_leafOf l hR k0 hc) clX12 k0 ceX12_leafOf q1925 ⟨rfl, rfl, rfl, rfl⟩ rfl rfl rfl dX12_operand_16 ?_
  refine z_istore_n K dX12_operand_19 rfl rfl ?_
  refine z_iload_n K dX12_operand_20 rfl ?_
  refine z_if_ne K 38 dX12_operand_21 (by decide) (fun c => ?_) (fun c => ?_)
  · have h := ite_f h c
    refine Zj.mask [true, true, true, true, false] ?_
    exact wX12_operand_38 K hR k0 _ _ _ _ h
  · have h := ite_t h c
    refine z_iload_n K dX12_operand_24 rfl ?_
    refine z_if_ne K 38 dX12_operand_25 (by decide) (fun c => ?_) (fun c => ?_)
    · have h := ite_f h c
      refine Zj.mask [true, true, true, true, false] ?_
      exact wX12_operand_38 K hR k0 _ _ _ _ h
    · have h := ite_t h c
      refine z_iload_n K dX12_operand_28 rfl ?_
      refine z_if_ge K 38 dX12_operand_29 (by decide) (fun c => ?_) (fun c => ?_)
      · have h := ite_t h c
        refine Zj.mask [true, true, true, true, false] ?_
        exact wX12_operand_38 K hR k0 _ _ _ _ h
      · have h := ite_f h c
        refine z_aload_n K dX12_operand_32 rfl ?_
        refine z_iconst K 1 dX12_operand_33 rfl ?_
        obtain ⟨u21, T21, hc, h⟩ := bd2_e h
        refine z_callVI K (mX12_bad l hR k0 hc) clX12 k0 ceX12_bad q1527 ⟨rfl, rfl, rfl, rfl⟩ rfl rfl rfl dX12_operand_34 ?_
        obtain ⟨hz, hf, h⟩ := bz_e h
        obtain rfl := Option.some.inj h
        exact z_zret K hz dX12_operand_37
/-! GoingOverModel.behind ()Z -/
abbrev rmX12_behind : Room := { frames := 2, cells := 0, slots := 0, locals := 44 }
def pX12_behind_70 (R : Rf) (a0 : Nat) (T : Mm) (as0 : Nat) (xs1 : Int32) (xs2 : Int32) : Option (Int32 × Mm) :=
  ix xs1 45 (lt (wI T as0 xs1.toNatClampNeg xs2) (fun (T6 : Mm) => lt (wI T6 a0 43 ((T6.1 a0 43) + 1)) (fun (T7 : Mm) => lt (wI T7 a0 45 0) (fun (T8 : Mm) => bd1 (pX12_next R T8 a0) (fun (T9 : Mm) => some (1, T9))))))
def pX12_behind_42 (R : Rf) (a0 : Nat) (T : Mm) (as0 : Nat) (xs1 : Int32) : Option (Int32 × Mm) :=
  bd1 (pX12_joins R T as0 xs1) (fun (T4 : Mm) => bd1 (pX12_isWord R T4 a0 6385252) (fun (u5 : Int32) => if u5 = 0 then pX12_behind_70 R a0 T4 (R a0 40) (T4.1 a0 43) 22 else pX12_behind_70 R a0 T4 (R a0 40) (T4.1 a0 43) 21))
def pX12_behind_24 (R : Rf) (a0 : Nat) (T : Mm) : Option (Int32 × Mm) :=
  bd1 (pX12_isWord R T a0 6385252) (fun (u3 : Int32) => if u3 = 0 then pX12_behind_42 R a0 T a0 22 else pX12_behind_42 R a0 T a0 21)
def pX12_behind_114 (R : Rf) (a0 : Nat) (T : Mm) : Option (Int32 × Mm) :=
  bd2 (pX12_bad R T a0 1) (fun (u13 : Int32) (T13 : Mm) => bz u13 (some (u13, T13)))
def pX12_behind (R : Rf) (T : Mm) (a0 : Nat) : Option (Int32 × Mm) :=
  bd1 (pX12_nots R T a0) (fun (T1 : Mm) => bd1 (pX12_isWord R T1 a0 6385252) (fun (u2 : Int32) => if u2 = 0 then bd1 (pX12_isWord R T1 a0 28530) (fun (u10 : Int32) => if u10 = 0 then bd1 (pX12_joins R T1 a0 22) (fun (T11 : Mm) => bd1 (pX12_isSign R T11 a0 41) (fun (u12 : Int32) => if u12 = 0 then pX12_behind_114 R a0 T11 else if (T11.1 a0 43) = 0 then pX12_behind_114 R a0 T11 else lt (wI T11 a0 43 ((T11.1 a0 43) - 1)) (fun (T14 : Mm) => lt (wI T14 a0 44 ((T14.1 a0 44) - 1)) (fun (T15 : Mm) => bd1 (pX12_next R T15 a0) (fun (T16 : Mm) => some (1, T16)))))) else pX12_behind_24 R a0 T1) else pX12_behind_24 R a0 T1))
set_option maxRecDepth 100000 in
set_option maxHeartbeats 4000000 in
theorem wX12_behind_70 {X : Cx} {g : Gl} {l : Launch} {R : Rf} {a0 : Nat} (K : Ok X g l cX12_behind RX12 1 (some .boolean) rmX12_behind) (hR : Ty g R) (k0 : kd g a0 = 12) {r : Int32 × Mm} (T : Mm) (as0 : Nat) (xs1 : Int32) (xs2 : Int32) (ks0 : kd g as0 = 20045) (h : pX12_behind_70 R a0 T as0 xs1 xs2 = some r) : Zj X g 1 (QI X g r.1 R r.2) R T [some (.ref (g.2.2.1 a0))] [.int xs2, .int xs1, .ref (g.2.2.1 as0)] 70 := by
  unfold pX12_behind_70 at h
  obtain ⟨hi, h⟩ := ix_e h
  refine z_iast K ks0 rfl rfl rfl hi dX12_behind_70 ?_
  refine z_aload_n K dX12_behind_71 rfl ?_
  refine z_dup K dX12_behind_72 rfl ?_
  refine z_getI K clX12 k0 43 rfl rfl q1381 dX12_behind_73 ?_
  refine z_iconst K 1 dX12_behind_76 rfl ?_
  refine z_iadd K dX12_behind_77 ?_
  refine z_putI K clX12 tyX12_ok nmX12 k0 43 rfl rfl q1381 rfl rfl rfl dX12_behind_78 ?_
  refine z_aload_n K dX12_behind_81 rfl ?_
  refine z_iconst K 0 dX12_behind_82 rfl ?_
  refine z_putI K clX12 tyX12_ok nmX12 k0 45 rfl rfl q1383 rfl rfl rfl dX12_behind_83 ?_
  refine z_aload_n K dX12_behind_86 rfl ?_
  obtain ⟨T9, hc, h⟩ := bd1_e h
  refine z_callVV K (mX12_next l hR k0 hc) clX12 k0 ceX12_next q1498 ⟨rfl, rfl, rfl, rfl⟩ rfl rfl rfl dX12_behind_87 ?_
  refine z_iconst K 1 dX12_behind_90 rfl ?_
  obtain rfl := Option.some.inj h
  exact z_zret (v := 1) K rfl dX12_behind_91
set_option maxRecDepth 100000 in
set_option maxHeartbeats 4000000 in
theorem wX12_behind_42 {X : Cx} {g : Gl} {l : Launch} {R : Rf} {a0 : Nat} (K : Ok X g l cX12_behind RX12 1 (some .boolean) rmX12_behind) (hR : Ty g R) (k0 : kd g a0 = 12) {r : Int32 × Mm} (T : Mm) (as0 : Nat) (xs1 : Int32) (ks0 : kd g as0 = 12) (h : pX12_behind_42 R a0 T as0 xs1 = some r) : Zj X g 1 (QI X g r.1 R r.2) R T [some (.ref (g.2.2.1 a0))] [.int xs1, .ref (g.2.2.1 as0)] 42 := by
  unfold pX12_behind_42 at h
  obtain ⟨T4, hc, h⟩ := bd1_e h
  refine z_callVV K (mX12_joins l hR ks0 hc) clX12 ks0 ceX12_joins q1913 ⟨rfl, rfl, rfl, rfl⟩ rfl rfl rfl dX12_behind_42 ?_
  refine z_aload_n K dX12_behind_45 rfl ?_
  refine z_getR K clX12 k0 40 rfl rfl q1378 dX12_behind_46 ?_
  refine z_aload_n K dX12_behind_49 rfl ?_
  refine z_getI K clX12 k0 43 rfl rfl q1381 dX12_behind_50 ?_
  refine z_aload_n K dX12_behind_53 rfl ?_
  refine z_ldc2 K 6385252 q1322 dX12_behind_54 ?_
  obtain ⟨u5, hc, h⟩ := bd1_e h
  refine z_callVI K (mX12_isWord l hR k0 hc) clX12 k0 ceX12_isWord q1516 ⟨rfl, rfl, rfl, rfl⟩ rfl rfl rfl dX12_behind_57 ?_
  refine z_if_eq K 68 dX12_behind_60 (by decide) (fun c => ?_) (fun c => ?_)
  · have h := ite_t h c
    refine z_bipush K 22 dX12_behind_68 rfl ?_
    refine Zj.mask [true] ?_
    exact wX12_behind_70 K hR k0 _ _ _ _ (hR.at (k := 40) (t := 20045) k0 rfl rfl) h
  · have h := ite_f h c
    refine z_bipush K 21 dX12_behind_63 rfl ?_
    refine z_goto K 70 dX12_behind_65 (by decide) ?_
    refine Zj.mask [true] ?_
    exact wX12_behind_70 K hR k0 _ _ _ _ (hR.at (k := 40) (t := 20045) k0 rfl rfl) h
set_option maxRecDepth 100000 in
set_option maxHeartbeats 4000000 in
theorem wX12_behind_24 {X : Cx} {g : Gl} {l : Launch} {R : Rf} {a0 : Nat} (K : Ok X g l cX12_behind RX12 1 (some .boolean) rmX12_behind) (hR : Ty g R) (k0 : kd g a0 = 12) {r : Int32 × Mm} (T : Mm) (h : pX12_behind_24 R a0 T = some r) : Zj X g 1 (QI X g r.1 R r.2) R T [some (.ref (g.2.2.1 a0))] [] 24 := by
  unfold pX12_behind_24 at h
  refine z_aload_n K dX12_behind_24 rfl ?_
  refine z_aload_n K dX12_behind_25 rfl ?_
  refine z_ldc2 K 6385252 q1322 dX12_behind_26 ?_
  obtain ⟨u3, hc, h⟩ := bd1_e h
  refine z_callVI K (mX12_isWord l hR k0 hc) clX12 k0 ceX12_isWord q1516 ⟨rfl, rfl, rfl, rfl⟩ rfl rfl rfl dX12_behind_29 ?_
  refine z_if_eq K 40 dX12_behind_32 (by decide) (fun c => ?_) (fun c => ?_)
  · have h := ite_t h c
    refine z_bipush K 22 dX12_behind_40 rfl ?_
    refine Zj.mask [true] ?_
    exact wX12_behind_42 K hR k0 _ _ _ k0 h
  · have h := ite_f h c
    refine z_bipush K 21 dX12_behind_35 rfl ?_
    refine z_goto K 42 dX12_behind_37 (by decide) ?_
    refine Zj.mask [true] ?_
    exact wX12_behind_42 K hR k0 _ _ _ k0 h
set_option maxRecDepth 100000 in
set_option maxHeartbeats 4000000 in
theorem wX12_behind_114 {X : Cx} {g : Gl} {l : Launch} {R : Rf} {a0 : Nat} (K : Ok X g l cX12_behind RX12 1 (some .boolean) rmX12_behind) (hR : Ty g R) (k0 : kd g a0 = 12) {r : Int32 × Mm} (T : Mm) (h : pX12_behind_114 R a0 T = some r) : Zj X g 1 (QI X g r.1 R r.2) R T [some (.ref (g.2.2.1 a0))] [] 114 := by
  unfold pX12_behind_114 at h
  refine z_aload_n K dX12_behind_114 rfl ?_
  refine z_iconst K 1 dX12_behind_115 rfl ?_
  obtain ⟨u13, T13, hc, h⟩ := bd2_e h
  refine z_callVI K (mX12_bad l hR k0 hc) clX12 k0 ceX12_bad q1527 ⟨rfl, rfl, rfl, rfl⟩ rfl rfl rfl dX12_behind_116 ?_
  obtain ⟨hz, hf, h⟩ := bz_e h
  obtain rfl := Option.some.inj h
  exact z_zret K hz dX12_behind_119
set_option maxRecDepth 100000 in
set_option maxHeartbeats 4000000 in
theorem mX12_behind {g : Gl} {R : Rf} {T : Mm} {a0 : Nat} (l : Launch) (hR : Ty g R) (k0 : kd g a0 = 12) {r : Int32 × Mm} (h : pX12_behind R T a0 = some r) : MI l g yX12_behind cX12_behind 1 (some .boolean) rmX12_behind [.ref (g.2.2.1 a0)] R T r.1 R r.2 := by
  refine z_metI (own := RX12) (lv := [some (.ref (g.2.2.1 a0))]) (by decide +kernel) rfl rfl rfl (fun X K => ?_)
  unfold pX12_behind at h
  refine z_aload_n K dX12_behind_0 rfl ?_
  obtain ⟨T1, hc, h⟩ := bd1_e h
  refine z_callVV K (mX12_nots l hR k0 hc) clX12 k0 ceX12_nots q1905 ⟨rfl, rfl, rfl, rfl⟩ rfl rfl rfl dX12_behind_1 ?_
  refine z_aload_n K dX12_behind_4 rfl ?_
  refine z_ldc2 K 6385252 q1322 dX12_behind_5 ?_
  obtain ⟨u2, hc, h⟩ := bd1_e h
  refine z_callVI K (mX12_isWord l hR k0 hc) clX12 k0 ceX12_isWord q1516 ⟨rfl, rfl, rfl, rfl⟩ rfl rfl rfl dX12_behind_8 ?_
  refine z_if_ne K 24 dX12_behind_11 (by decide) (fun c => ?_) (fun c => ?_)
  · have h := ite_f h c
    refine Zj.mask [true] ?_
    exact wX12_behind_24 K hR k0 _ h
  · have h := ite_t h c
    refine z_aload_n K dX12_behind_14 rfl ?_
    refine z_ldc2 K 28530 q1321 dX12_behind_15 ?_
    obtain ⟨u10, hc, h⟩ := bd1_e h
    refine z_callVI K (mX12_isWord l hR k0 hc) clX12 k0 ceX12_isWord q1516 ⟨rfl, rfl, rfl, rfl⟩ rfl rfl rfl dX12_behind_18 ?_
    refine z_if_eq K 92 dX12_behind_21 (by decide) (fun c => ?_) (fun c => ?_)
    · have h := ite_t h c
      refine z_aload_n K dX12_behind_92 rfl ?_
      refine z_bipush K 22 dX12_behind_93 rfl ?_
      obtain ⟨T11, hc, h⟩ := bd1_e h
      refine z_callVV K (mX12_joins l hR k0 hc) clX12 k0 ceX12_joins q1913 ⟨rfl, rfl, rfl, rfl⟩ rfl rfl rfl dX12_behind_95 ?_
      refine z_aload_n K dX12_behind_98 rfl ?_
      refine z_bipush K 41 dX12_behind_99 rfl ?_
      obtain ⟨u12, hc, h⟩ := bd1_e h
      refine z_callVI K (mX12_isSign l hR k0 hc) clX12 k0 ceX12_isSign q1578 ⟨rfl, rfl, rfl, rfl⟩ rfl rfl rfl dX12_behind_101 ?_
      refine z_if_eq K 114 dX12_behind_104 (by decide) (fun c => ?_) (fun c => ?_)
      · have h := ite_t h c
        refine Zj.mask [true] ?_
        exact wX12_behind_114 K hR k0 _ h
      · have h := ite_f h c
        refine z_aload_n K dX12_behind_107 rfl ?_
        refine z_getI K clX12 k0 43 rfl rfl q1381 dX12_behind_108 ?_
        refine z_if_ne K 120 dX12_behind_111 (by decide) (fun c => ?_) (fun c => ?_)
        · have h := ite_f h c
          refine z_aload_n K dX12_behind_120 rfl ?_
          refine z_dup K dX12_behind_121 rfl ?_
          refine z_getI K clX12 k0 43 rfl rfl q1381 dX12_behind_122 ?_
          refine z_iconst K 1 dX12_behind_125 rfl ?_
          refine z_isub K dX12_behind_126 ?_
          refine z_putI K clX12 tyX12_ok nmX12 k0 43 rfl rfl q1381 rfl rfl rfl dX12_behind_127 ?_
          refine z_aload_n K dX12_behind_130 rfl ?_
          refine z_dup K dX12_behind_131 rfl ?_
          refine z_getI K clX12 k0 44 rfl rfl q1382 dX12_behind_132 ?_
          refine z_iconst K 1 dX12_behind_135 rfl ?_
          refine z_isub K dX12_behind_136 ?_
          refine z_putI K clX12 tyX12_ok nmX12 k0 44 rfl rfl q1382 rfl rfl rfl dX12_behind_137 ?_
          refine z_aload_n K dX12_behind_140 rfl ?_
          obtain ⟨T16, hc, h⟩ := bd1_e h
          refine z_callVV K (mX12_next l hR k0 hc) clX12 k0 ceX12_next q1498 ⟨rfl, rfl, rfl, rfl⟩ rfl rfl rfl dX12_behind_141 ?_
          refine z_iconst K 1 dX12_behind_144 rfl ?_
          obtain rfl := Option.some.inj h
          exact z_zret (v := 1) K rfl dX12_behind_145
        · have h := ite_t h c
          refine Zj.mask [true] ?_
          exact wX12_behind_114 K hR k0 _ h
    · have h := ite_f h c
      refine Zj.mask [true] ?_
      exact wX12_behind_24 K hR k0 _ h
/-! GoingOverModel.sentence ()I -/
abbrev rmX12_sentence : Room := { frames := 3, cells := 0, slots := 0, locals := 69 }
def pX12_sentence_101 (R : Rf) (a0 : Nat) (r48 : Mm → Int32 → Option (Int32 × Mm)) (e83 : Mm → Option (Int32 × Mm)) (e115 : Mm → Option (Int32 × Mm)) (e125 : Mm → Option (Int32 × Mm)) (e132 : Mm → Option (Int32 × Mm)) (T : Mm) (x1 : Int32) : Option (Int32 × Mm) :=
  if (T.1 a0 45) = 0 then bd2 (pX12_operand R T a0) (fun (u10 : Int32) (T10 : Mm) => if u10 = 0 then e125 T10 else r48 T10 x1) else bd2 (pX12_behind R T a0) (fun (u11 : Int32) (T11 : Mm) => if u11 = 0 then e115 T11 else r48 T11 x1)
def pX12_sentence_48 (R : Rf) (a0 : Nat) (e83 : Mm → Option (Int32 × Mm)) (e115 : Mm → Option (Int32 × Mm)) (e125 : Mm → Option (Int32 × Mm)) (e132 : Mm → Option (Int32 × Mm)) (r48 : Mm → Int32 → Option (Int32 × Mm)) (T : Mm) (x1 : Int32) : Option (Int32 × Mm) :=
  if x1 = 0 then e132 T else if (T.1 a0 45) = 0 then pX12_sentence_101 R a0 r48 e83 e115 e125 e132 T x1 else if (T.1 a0 11) = 0 then bd1 (pX12_nots R T a0) (fun (T12 : Mm) => bd1 (pX12_joins R T12 a0 22) (fun (T13 : Mm) => if (T13.1 a0 43) ≤ 0 then r48 T13 0 else e83 T13)) else pX12_sentence_101 R a0 r48 e83 e115 e125 e132 T x1
def pX12_sentence_83 (R : Rf) (a0 : Nat) (T : Mm) : Option (Int32 × Mm) :=
  bd2 (pX12_bad R T a0 1) (fun (u14 : Int32) (T14 : Mm) => some ((-1) - (T14.1 a0 16), T14))
def pX12_sentence_125 (R : Rf) (a0 : Nat) (T : Mm) : Option (Int32 × Mm) :=
  some ((-1) - (T.1 a0 16), T)
def pX12_sentence_115 (R : Rf) (a0 : Nat) (T : Mm) : Option (Int32 × Mm) :=
  pX12_sentence_125 R a0 T
def pX12_sentence_145 (R : Rf) (a0 : Nat) (e176 : Mm → Option (Int32 × Mm)) (r145 : Mm → Int32 → Option (Int32 × Mm)) (T : Mm) (x2 : Int32) : Option (Int32 × Mm) :=
  if (3 * (T.1 a0 41)) ≤ x2 then e176 T else ix x2 135 (ix (90 + x2) 270 (lt (wI T (R a0 6) (90 + x2).toNatClampNeg (T.1 (R a0 8) x2.toNatClampNeg)) (fun (T16 : Mm) => lt (x2 + 1) (fun (v17 : Int32) => r145 T16 v17))))
def pX12_sentence_176 (R : Rf) (a0 : Nat) (T : Mm) : Option (Int32 × Mm) :=
  some (T.1 a0 42, T)
def pX12_sentence_132 (R : Rf) (a0 : Nat) (T : Mm) : Option (Int32 × Mm) :=
  ix 89 270 (lt (wI T (R a0 6) (89 : Int32).toNatClampNeg (T.1 a0 41)) (fun (T15 : Mm) => zl2 (pX12_sentence_145 R a0 (pX12_sentence_176 R a0)) FU T15 0))
def pX12_sentence (R : Rf) (T : Mm) (a0 : Nat) : Option (Int32 × Mm) :=
  lt (wI T a0 0 0) (fun (T1 : Mm) => bd1 (pX12_taken R T1 a0 200) (fun (T2 : Mm) => lt (wI T2 a0 15 0) (fun (T3 : Mm) => lt (wI T3 a0 41 0) (fun (T4 : Mm) => lt (wI T4 a0 42 0) (fun (T5 : Mm) => lt (wI T5 a0 43 0) (fun (T6 : Mm) => lt (wI T6 a0 44 1) (fun (T7 : Mm) => lt (wI T7 a0 45 0) (fun (T8 : Mm) => bd1 (pX12_next R T8 a0) (fun (T9 : Mm) => zl2 (pX12_sentence_48 R a0 (pX12_sentence_83 R a0) (pX12_sentence_115 R a0) (pX12_sentence_125 R a0) (pX12_sentence_132 R a0)) FU T9 1)))))))))
set_option maxRecDepth 100000 in
set_option maxHeartbeats 4000000 in
theorem wX12_sentence_101 {X : Cx} {g : Gl} {l : Launch} {R : Rf} {a0 : Nat} (K : Ok X g l cX12_sentence RX12 3 (some .int) rmX12_sentence) (hR : Ty g R) (k0 : kd g a0 = 12) {r : Int32 × Mm} {r48 : Mm → Int32 → Option (Int32 × Mm)} (hr48 : ∀ (T : Mm) (x1 : Int32), r48 T x1 = some r → Zj X g 3 (QI X g r.1 R r.2) R T [some (.ref (g.2.2.1 a0)), some (.int x1), none] [] 48) {e83 : Mm → Option (Int32 × Mm)} (he83 : ∀ (T : Mm), e83 T = some r → Zj X g 3 (QI X g r.1 R r.2) R T [some (.ref (g.2.2.1 a0)), none, none] [] 83) {e115 : Mm → Option (Int32 × Mm)} (he115 : ∀ (T : Mm), e115 T = some r → Zj X g 3 (QI X g r.1 R r.2) R T [some (.ref (g.2.2.1 a0)), none, none] [] 115) {e125 : Mm → Option (Int32 × Mm)} (he125 : ∀ (T : Mm), e125 T = some r → Zj X g 3 (QI X g r.1 R r.2) R T [some (.ref (g.2.2.1 a0)), none, none] [] 125) {e132 : Mm → Option (Int32 × Mm)} (he132 : ∀ (T : Mm), e132 T = some r → Zj X g 3 (QI X g r.1 R r.2) R T [some (.ref (g.2.2.1 a0)), none, none] [] 132) (T : Mm) (x1 : Int32) (h : pX12_sentence_101 R a0 r48 e83 e115 e125 e132 T x1 = some r) : Zj X g 3 (QI X g r.1 R r.2) R T [some (.ref (g.2.2.1 a0)), some (.int x1), none] [] 101 := by
  unfold pX12_sentence_101 at h
  refine z_aload_n K dX12_sentence_101 rfl ?_
  refine z_getI K clX12 k0 45 rfl rfl q1383 dX12_sentence_102 ?_
  refine z_if_eq K 118 dX12_sentence_105 (by decide) (fun c => ?_) (fun c => ?_)
  · have h := ite_t h c
    refine z_aload_n K dX12_sentence_118 rfl ?_
    obtain ⟨u10, T10, hc, h⟩ := bd2_e h
    refine z_callVI K (mX12_operand l hR k0 hc) clX12 k0 ceX12_operand q1921 ⟨rfl, rfl, rfl, rfl⟩ rfl rfl rfl dX12_sentence_119 ?_
    refine z_if_ne K 48 dX12_sentence_122 (by decide) (fun c => ?_) (fun c => ?_)
    · have h := ite_f h c
      refine Zj.mask [true, true, false] ?_
      exact hr48 _ _ h
    · have h := ite_t h c
      refine Zj.mask [true, false, false] ?_
      exact he125 _ h
  · have h := ite_f h c
    refine z_aload_n K dX12_sentence_108 rfl ?_
    obtain ⟨u11, T11, hc, h⟩ := bd2_e h
    refine z_callVI K (mX12_behind l hR k0 hc) clX12 k0 ceX12_behind q1917 ⟨rfl, rfl, rfl, rfl⟩ rfl rfl rfl dX12_sentence_109 ?_
    refine z_if_ne K 48 dX12_sentence_112 (by decide) (fun c => ?_) (fun c => ?_)
    · have h := ite_f h c
      refine Zj.mask [true, true, false] ?_
      exact hr48 _ _ h
    · have h := ite_t h c
      refine Zj.mask [true, false, false] ?_
      exact he115 _ h
set_option maxRecDepth 100000 in
set_option maxHeartbeats 4000000 in
theorem wX12_sentence_48 {X : Cx} {g : Gl} {l : Launch} {R : Rf} {a0 : Nat} (K : Ok X g l cX12_sentence RX12 3 (some .int) rmX12_sentence) (hR : Ty g R) (k0 : kd g a0 = 12) {r : Int32 × Mm} {e83 : Mm → Option (Int32 × Mm)} (he83 : ∀ (T : Mm), e83 T = some r → Zj X g 3 (QI X g r.1 R r.2) R T [some (.ref (g.2.2.1 a0)), none, none] [] 83) {e115 : Mm → Option (Int32 × Mm)} (he115 : ∀ (T : Mm), e115 T = some r → Zj X g 3 (QI X g r.1 R r.2) R T [some (.ref (g.2.2.1 a0)), none, none] [] 115) {e125 : Mm → Option (Int32 × Mm)} (he125 : ∀ (T : Mm), e125 T = some r → Zj X g 3 (QI X g r.1 R r.2) R T [some (.ref (g.2.2.1 a0)), none, none] [] 125) {e132 : Mm → Option (Int32 × Mm)} (he132 : ∀ (T : Mm), e132 T = some r → Zj X g 3 (QI X g r.1 R r.2) R T [some (.ref (g.2.2.1 a0)), none, none] [] 132) : ∀ (n : Nat) (T : Mm) (x1 : Int32), zl2 (pX12_sentence_48 R a0 e83 e115 e125 e132) n T x1 = some r → Zj X g 3 (QI X g r.1 R r.2) R T [some (.ref (g.2.2.1 a0)), some (.int x1), none] [] 48 := by
  intro n
  induction n with
  | zero =>
    intro T x1 h
    exact absurd h (by simp [zl2])
  | succ n hr48 =>
    intro T x1 h
    rw [zl2_s] at h
    unfold pX12_sentence_48 at h
    refine z_iload_n K dX12_sentence_48 rfl ?_
    refine z_if_eq K 132 dX12_sentence_49 (by decide) (fun c => ?_) (fun c => ?_)
    · have h := ite_t h c
      refine Zj.mask [true, false, false] ?_
      exact he132 _ h
    · have h := ite_f h c
      refine z_aload_n K dX12_sentence_52 rfl ?_
      refine z_getI K clX12 k0 45 rfl rfl q1383 dX12_sentence_53 ?_
      refine z_if_eq K 101 dX12_sentence_56 (by decide) (fun c => ?_) (fun c => ?_)
      · have h := ite_t h c
        refine Zj.mask [true, true, false] ?_
        exact wX12_sentence_101 K hR k0 hr48 he83 he115 he125 he132 _ _ h
      · have h := ite_f h c
        refine z_aload_n K dX12_sentence_59 rfl ?_
        refine z_getI K clX12 k0 11 rfl rfl q1349 dX12_sentence_60 ?_
        refine z_if_ne K 101 dX12_sentence_63 (by decide) (fun c => ?_) (fun c => ?_)
        · have h := ite_f h c
          refine Zj.mask [true, true, false] ?_
          exact wX12_sentence_101 K hR k0 hr48 he83 he115 he125 he132 _ _ h
        · have h := ite_t h c
          refine z_aload_n K dX12_sentence_66 rfl ?_
          obtain ⟨T12, hc, h⟩ := bd1_e h
          refine z_callVV K (mX12_nots l hR k0 hc) clX12 k0 ceX12_nots q1905 ⟨rfl, rfl, rfl, rfl⟩ rfl rfl rfl dX12_sentence_67 ?_
          refine z_aload_n K dX12_sentence_70 rfl ?_
          refine z_bipush K 22 dX12_sentence_71 rfl ?_
          obtain ⟨T13, hc, h⟩ := bd1_e h
          refine z_callVV K (mX12_joins l hR k0 hc) clX12 k0 ceX12_joins q1913 ⟨rfl, rfl, rfl, rfl⟩ rfl rfl rfl dX12_sentence_73 ?_
          refine z_aload_n K dX12_sentence_76 rfl ?_
          refine z_getI K clX12 k0 43 rfl rfl q1381 dX12_sentence_77 ?_
          refine z_if_le K 96 dX12_sentence_80 (by decide) (fun c => ?_) (fun c => ?_)
          · have h := ite_t h c
            refine z_iconst K 0 dX12_sentence_96 rfl ?_
            refine z_istore_n K dX12_sentence_97 rfl rfl ?_
            refine z_goto K 48 dX12_sentence_98 (by decide) ?_
            refine Zj.mask [true, true, false] ?_
            exact hr48 _ _ h
          · have h := ite_f h c
            refine Zj.mask [true, false, false] ?_
            exact he83 _ h
set_option maxRecDepth 100000 in
set_option maxHeartbeats 4000000 in
theorem wX12_sentence_83 {X : Cx} {g : Gl} {l : Launch} {R : Rf} {a0 : Nat} (K : Ok X g l cX12_sentence RX12 3 (some .int) rmX12_sentence) (hR : Ty g R) (k0 : kd g a0 = 12) {r : Int32 × Mm} (T : Mm) (h : pX12_sentence_83 R a0 T = some r) : Zj X g 3 (QI X g r.1 R r.2) R T [some (.ref (g.2.2.1 a0)), none, none] [] 83 := by
  unfold pX12_sentence_83 at h
  refine z_aload_n K dX12_sentence_83 rfl ?_
  refine z_iconst K 1 dX12_sentence_84 rfl ?_
  obtain ⟨u14, T14, hc, h⟩ := bd2_e h
  refine z_callVI K (mX12_bad l hR k0 hc) clX12 k0 ceX12_bad q1527 ⟨rfl, rfl, rfl, rfl⟩ rfl rfl rfl dX12_sentence_85 ?_
  refine z_pop K dX12_sentence_88 rfl ?_
  refine z_iconst K (-1) dX12_sentence_89 rfl ?_
  refine z_aload_n K dX12_sentence_90 rfl ?_
  refine z_getI K clX12 k0 16 rfl rfl q1354 dX12_sentence_91 ?_
  refine z_isub K dX12_sentence_94 ?_
  obtain rfl := Option.some.inj h
  exact z_iret K dX12_sentence_95
set_option maxRecDepth 100000 in
set_option maxHeartbeats 4000000 in
theorem wX12_sentence_125 {X : Cx} {g : Gl} {l : Launch} {R : Rf} {a0 : Nat} (K : Ok X g l cX12_sentence RX12 3 (some .int) rmX12_sentence) (hR : Ty g R) (k0 : kd g a0 = 12) {r : Int32 × Mm} (T : Mm) (h : pX12_sentence_125 R a0 T = some r) : Zj X g 3 (QI X g r.1 R r.2) R T [some (.ref (g.2.2.1 a0)), none, none] [] 125 := by
  unfold pX12_sentence_125 at h
  refine z_iconst K (-1) dX12_sentence_125 rfl ?_
  refine z_aload_n K dX12_sentence_126 rfl ?_
  refine z_getI K clX12 k0 16 rfl rfl q1354 dX12_sentence_127 ?_
  refine z_isub K dX12_sentence_130 ?_
  obtain rfl := Option.some.inj h
  exact z_iret K dX12_sentence_131
set_option maxRecDepth 100000 in
set_option maxHeartbeats 4000000 in
theorem wX12_sentence_115 {X : Cx} {g : Gl} {l : Launch} {R : Rf} {a0 : Nat} (K : Ok X g l cX12_sentence RX12 3 (some .int) rmX12_sentence) (hR : Ty g R) (k0 : kd g a0 = 12) {r : Int32 × Mm} (T : Mm) (h : pX12_sentence_115 R a0 T = some r) : Zj X g 3 (QI X g r.1 R r.2) R T [some (.ref (g.2.2.1 a0)), none, none] [] 115 := by
  unfold pX12_sentence_115 at h
  refine z_goto K 125 dX12_sentence_115 (by decide) ?_
  refine Zj.mask [true, false, false] ?_
  exact wX12_sentence_125 K hR k0 _ h
set_option maxRecDepth 100000 in
set_option maxHeartbeats 4000000 in
theorem wX12_sentence_145 {X : Cx} {g : Gl} {l : Launch} {R : Rf} {a0 : Nat} (K : Ok X g l cX12_sentence RX12 3 (some .int) rmX12_sentence) (hR : Ty g R) (k0 : kd g a0 = 12) {r : Int32 × Mm} {e176 : Mm → Option (Int32 × Mm)} (he176 : ∀ (T : Mm), e176 T = some r → Zj X g 3 (QI X g r.1 R r.2) R T [some (.ref (g.2.2.1 a0)), none, none] [] 176) : ∀ (n : Nat) (T : Mm) (x2 : Int32), zl2 (pX12_sentence_145 R a0 e176) n T x2 = some r → Zj X g 3 (QI X g r.1 R r.2) R T [some (.ref (g.2.2.1 a0)), none, some (.int x2)] [] 145 := by
  intro n
  induction n with
  | zero =>
    intro T x2 h
    exact absurd h (by simp [zl2])
  | succ n hr145 =>
    intro T x2 h
    rw [zl2_s] at h
    unfold pX12_sentence_145 at h
    refine z_iload_n K dX12_sentence_145 rfl ?_
    refine z_iconst K 3 dX12_sentence_146 rfl ?_
    refine z_aload_n K dX12_sentence_147 rfl ?_
    refine z_getI K clX12 k0 41 rfl rfl q1379 dX12_sentence_148 ?_
    refine z_imul K dX12_sentence_151 ?_
    refine z_icmp_ge K 176 dX12_sentence_152 (by decide) (fun c => ?_) (fun c => ?_)
    · have h := ite_t h c
      refine Zj.mask [true, false, false] ?_
      exact he176 _ h
    · have h := ite_f h c
      refine z_aload_n K dX12_sentence_155 rfl ?_
      refine z_getR K clX12 k0 6 rfl rfl q1344 dX12_sentence_156 ?_
      refine z_bipush K 90 dX12_sentence_159 rfl ?_
      refine z_iload_n K dX12_sentence_161 rfl ?_
      refine z_iadd K dX12_sentence_162 ?_
      refine z_aload_n K dX12_sentence_163 rfl ?_
      refine z_getR K clX12 k0 8 rfl rfl q1346 dX12_sentence_164 ?_
      refine z_iload_n K dX12_sentence_167 rfl ?_
      obtain ⟨hi, h⟩ := ix_e h
      refine z_iald K (hR.at (k := 8) (t := 20135) k0 rfl rfl) rfl rfl rfl hi dX12_sentence_168 ?_
      obtain ⟨hi, h⟩ := ix_e h
      refine z_iast K (hR.at (k := 6) (t := 20270) k0 rfl rfl) rfl rfl rfl hi dX12_sentence_169 ?_
      refine z_iinc K 1 dX12_sentence_170 rfl rfl rfl rfl ?_
      refine z_goto K 145 dX12_sentence_173 (by decide) ?_
      refine Zj.mask [true, false, true] ?_
      exact hr145 _ _ h
set_option maxRecDepth 100000 in
set_option maxHeartbeats 4000000 in
theorem wX12_sentence_176 {X : Cx} {g : Gl} {l : Launch} {R : Rf} {a0 : Nat} (K : Ok X g l cX12_sentence RX12 3 (some .int) rmX12_sentence) (hR : Ty g R) (k0 : kd g a0 = 12) {r : Int32 × Mm} (T : Mm) (h : pX12_sentence_176 R a0 T = some r) : Zj X g 3 (QI X g r.1 R r.2) R T [some (.ref (g.2.2.1 a0)), none, none] [] 176 := by
  unfold pX12_sentence_176 at h
  refine z_aload_n K dX12_sentence_176 rfl ?_
  refine z_getI K clX12 k0 42 rfl rfl q1380 dX12_sentence_177 ?_
  obtain rfl := Option.some.inj h
  exact z_iret K dX12_sentence_180
set_option maxRecDepth 100000 in
set_option maxHeartbeats 4000000 in
theorem wX12_sentence_132 {X : Cx} {g : Gl} {l : Launch} {R : Rf} {a0 : Nat} (K : Ok X g l cX12_sentence RX12 3 (some .int) rmX12_sentence) (hR : Ty g R) (k0 : kd g a0 = 12) {r : Int32 × Mm} (T : Mm) (h : pX12_sentence_132 R a0 T = some r) : Zj X g 3 (QI X g r.1 R r.2) R T [some (.ref (g.2.2.1 a0)), none, none] [] 132 := by
  unfold pX12_sentence_132 at h
  refine z_aload_n K dX12_sentence_132 rfl ?_
  refine z_getR K clX12 k0 6 rfl rfl q1344 dX12_sentence_133 ?_
  refine z_bipush K 89 dX12_sentence_136 rfl ?_
  refine z_aload_n K dX12_sentence_138 rfl ?_
  refine z_getI K clX12 k0 41 rfl rfl q1379 dX12_sentence_139 ?_
  obtain ⟨hi, h⟩ := ix_e h
  refine z_iast K (hR.at (k := 6) (t := 20270) k0 rfl rfl) rfl rfl rfl hi dX12_sentence_142 ?_
  refine z_iconst K 0 dX12_sentence_143 rfl ?_
  refine z_istore_n K dX12_sentence_144 rfl rfl ?_
  refine Zj.mask [true, false, true] ?_
  exact wX12_sentence_145 K hR k0 (wX12_sentence_176 K hR k0) FU _ _ h
set_option maxRecDepth 100000 in
set_option maxHeartbeats 4000000 in
theorem mX12_sentence {g : Gl} {R : Rf} {T : Mm} {a0 : Nat} (l : Launch) (hR : Ty g R) (k0 : kd g a0 = 12) {r : Int32 × Mm} (h : pX12_sentence R T a0 = some r) : MI l g yX12_sentence cX12_sentence 3 (some .int) rmX12_sentence [.ref (g.2.2.1 a0)] R T r.1 R r.2 := by
  refine z_metI (own := RX12) (lv := [some (.ref (g.2.2.1 a0)), none, none]) (by decide +kernel) rfl rfl rfl (fun X K => ?_)
  unfold pX12_sentence at h
  refine z_aload_n K dX12_sentence_0 rfl ?_
  refine z_iconst K 0 dX12_sentence_1 rfl ?_
  refine z_putI K clX12 tyX12_ok nmX12 k0 0 rfl rfl q1338 rfl rfl rfl dX12_sentence_2 ?_
  refine z_aload_n K dX12_sentence_5 rfl ?_
  refine z_sipush K 200 dX12_sentence_6 rfl ?_
  obtain ⟨T2, hc, h⟩ := bd1_e h
  refine z_callVV K (mX12_taken l hR k0 hc) clX12 k0 ceX12_taken q1494 ⟨rfl, rfl, rfl, rfl⟩ rfl rfl rfl dX12_sentence_9 ?_
  refine z_aload_n K dX12_sentence_12 rfl ?_
  refine z_iconst K 0 dX12_sentence_13 rfl ?_
  refine z_putI K clX12 tyX12_ok nmX12 k0 15 rfl rfl q1353 rfl rfl rfl dX12_sentence_14 ?_
  refine z_aload_n K dX12_sentence_17 rfl ?_
  refine z_iconst K 0 dX12_sentence_18 rfl ?_
  refine z_putI K clX12 tyX12_ok nmX12 k0 41 rfl rfl q1379 rfl rfl rfl dX12_sentence_19 ?_
  refine z_aload_n K dX12_sentence_22 rfl ?_
  refine z_iconst K 0 dX12_sentence_23 rfl ?_
  refine z_putI K clX12 tyX12_ok nmX12 k0 42 rfl rfl q1380 rfl rfl rfl dX12_sentence_24 ?_
  refine z_aload_n K dX12_sentence_27 rfl ?_
  refine z_iconst K 0 dX12_sentence_28 rfl ?_
  refine z_putI K clX12 tyX12_ok nmX12 k0 43 rfl rfl q1381 rfl rfl rfl dX12_sentence_29 ?_
  refine z_aload_n K dX12_sentence_32 rfl ?_
  refine z_iconst K 1 dX12_sentence_33 rfl ?_
  refine z_putI K clX12 tyX12_ok nmX12 k0 44 rfl rfl q1382 rfl rfl rfl dX12_sentence_34 ?_
  refine z_aload_n K dX12_sentence_37 rfl ?_
  refine z_iconst K 0 dX12_sentence_38 rfl ?_
  refine z_putI K clX12 tyX12_ok nmX12 k0 45 rfl rfl q1383 rfl rfl rfl dX12_sentence_39 ?_
  refine z_aload_n K dX12_sentence_42 rfl ?_
  obtain ⟨T9, hc, h⟩ := bd1_e h
  refine z_callVV K (mX12_next l hR k0 hc) clX12 k0 ceX12_next q1498 ⟨rfl, rfl, rfl, rfl⟩ rfl rfl rfl dX12_sentence_43 ?_
  refine z_iconst K 1 dX12_sentence_46 rfl ?_
  refine z_istore_n K dX12_sentence_47 rfl rfl ?_
  refine Zj.mask [true, true, false] ?_
  exact wX12_sentence_48 K hR k0 (wX12_sentence_83 K hR k0) (wX12_sentence_115 K hR k0) (wX12_sentence_125 K hR k0) (wX12_sentence_132 K hR k0) FU _ _ h
/-! GoingOverModel.isLeaf (IIII)Z -/
abbrev rmX12_isLeaf : Room := { frames := 4, cells := 0, slots := 0, locals := 95 }
def pX12_isLeaf_107 (R : Rf) (T : Mm) (a0 : Nat) (x1 : Int32) (x2 : Int32) (x3 : Int32) (x4 : Int32) (xs0 : Int32) : Option (Int32) :=
  if x3 = 60 then if x4 ≤ xs0 then some 0 else some 1 else if x3 = 61 then if xs0 = x4 then some 1 else some 0 else if xs0 ≤ x4 then some 0 else some 1
def pX12_isLeaf (R : Rf) (T : Mm) (a0 : Nat) (x1 : Int32) (x2 : Int32) (x3 : Int32) (x4 : Int32) : Option (Int32) :=
  if 4 ≤ x2 then if x2 = 4 then bd1 (pX12_partsNow R T a0 x1) (fun (u5 : Int32) => if u5 = 1 then some 1 else some 0) else if x2 = 5 then bd1 (pX12_barrelOf R T a0 x1) (fun (u3 : Int32) => bd1 (pX12_bitOf R T u3 x4) (fun (u4 : Int32) => bz u4 (some u4))) else if x2 = 6 then bd1 (pX12_weightOf R T a0 x1) (fun (u2 : Int32) => pX12_isLeaf_107 R T a0 x1 x2 x3 x4 u2) else if x2 = 7 then bd1 (pX12_partsNow R T a0 x1) (fun (u1 : Int32) => pX12_isLeaf_107 R T a0 x1 x2 x3 x4 u1) else if x2 = 8 then ix (7 + x1) 270 (pX12_isLeaf_107 R T a0 x1 x2 x3 x4 (T.1 (R a0 6) (7 + x1).toNatClampNeg)) else pX12_isLeaf_107 R T a0 x1 x2 x3 x4 x1 else ix (84 + x1) 270 (if (T.1 (R a0 6) (84 + x1).toNatClampNeg) = x2 then some 1 else some 0)
set_option maxRecDepth 100000 in
set_option maxHeartbeats 4000000 in
theorem wX12_isLeaf_107 {X : Cx} {g : Gl} {l : Launch} {R : Rf} {T : Mm} {a0 : Nat} {x1 : Int32} {x2 : Int32} {x3 : Int32} {x4 : Int32} (K : Ok X g l cX12_isLeaf RX12 6 (some .boolean) rmX12_isLeaf) (hR : Ty g R) (k0 : kd g a0 = 12) {r : Int32} (xs0 : Int32) (h : pX12_isLeaf_107 R T a0 x1 x2 x3 x4 xs0 = some r) : Zj X g 6 (QI X g r R T) R T [none, none, none, some (.int x3), some (.int x4), none] [.int xs0] 107 := by
  unfold pX12_isLeaf_107 at h
  refine z_istore K dX12_isLeaf_107 rfl rfl ?_
  refine z_iload_n K dX12_isLeaf_109 rfl ?_
  refine z_bipush K 60 dX12_isLeaf_110 rfl ?_
  refine z_icmp_ne K 130 dX12_isLeaf_112 (by decide) (fun c => ?_) (fun c => ?_)
  · have h := ite_f h c
    refine z_iload_n K dX12_isLeaf_130 rfl ?_
    refine z_bipush K 61 dX12_isLeaf_131 rfl ?_
    refine z_icmp_ne K 151 dX12_isLeaf_133 (by decide) (fun c => ?_) (fun c => ?_)
    · have h := ite_f h c
      refine z_iload K dX12_isLeaf_151 rfl ?_
      refine z_iload K dX12_isLeaf_153 rfl ?_
      refine z_icmp_le K 162 dX12_isLeaf_155 (by decide) (fun c => ?_) (fun c => ?_)
      · have h := ite_t h c
        refine z_iconst K 0 dX12_isLeaf_162 rfl ?_
        obtain rfl := Option.some.inj h
        exact z_zret (v := 0) K rfl dX12_isLeaf_163
      · have h := ite_f h c
        refine z_iconst K 1 dX12_isLeaf_158 rfl ?_
        refine z_goto K 163 dX12_isLeaf_159 (by decide) ?_
        obtain rfl := Option.some.inj h
        exact z_zret (v := 1) K rfl dX12_isLeaf_163
    · have h := ite_t h c
      refine z_iload K dX12_isLeaf_136 rfl ?_
      refine z_iload K dX12_isLeaf_138 rfl ?_
      refine z_icmp_ne K 147 dX12_isLeaf_140 (by decide) (fun c => ?_) (fun c => ?_)
      · have h := ite_f h c
        refine z_iconst K 0 dX12_isLeaf_147 rfl ?_
        refine z_goto K 163 dX12_isLeaf_148 (by decide) ?_
        obtain rfl := Option.some.inj h
        exact z_zret (v := 0) K rfl dX12_isLeaf_163
      · have h := ite_t h c
        refine z_iconst K 1 dX12_isLeaf_143 rfl ?_
        refine z_goto K 163 dX12_isLeaf_144 (by decide) ?_
        obtain rfl := Option.some.inj h
        exact z_zret (v := 1) K rfl dX12_isLeaf_163
  · have h := ite_t h c
    refine z_iload K dX12_isLeaf_115 rfl ?_
    refine z_iload K dX12_isLeaf_117 rfl ?_
    refine z_icmp_ge K 126 dX12_isLeaf_119 (by decide) (fun c => ?_) (fun c => ?_)
    · have h := ite_t h c
      refine z_iconst K 0 dX12_isLeaf_126 rfl ?_
      refine z_goto K 163 dX12_isLeaf_127 (by decide) ?_
      obtain rfl := Option.some.inj h
      exact z_zret (v := 0) K rfl dX12_isLeaf_163
    · have h := ite_f h c
      refine z_iconst K 1 dX12_isLeaf_122 rfl ?_
      refine z_goto K 163 dX12_isLeaf_123 (by decide) ?_
      obtain rfl := Option.some.inj h
      exact z_zret (v := 1) K rfl dX12_isLeaf_163
set_option maxRecDepth 100000 in
set_option maxHeartbeats 4000000 in
theorem mX12_isLeaf {g : Gl} {R : Rf} {T : Mm} {a0 : Nat} {x1 : Int32} {x2 : Int32} {x3 : Int32} {x4 : Int32} (l : Launch) (hR : Ty g R) (k0 : kd g a0 = 12) {r : Int32} (h : pX12_isLeaf R T a0 x1 x2 x3 x4 = some r) : MI l g yX12_isLeaf cX12_isLeaf 6 (some .boolean) rmX12_isLeaf [.ref (g.2.2.1 a0), .int x1, .int x2, .int x3, .int x4] R T r R T := by
  refine z_metI (own := RX12) (lv := [some (.ref (g.2.2.1 a0)), some (.int x1), some (.int x2), some (.int x3), some (.int x4), none]) (by decide +kernel) rfl rfl rfl (fun X K => ?_)
  unfold pX12_isLeaf at h
  refine z_iload_n K dX12_isLeaf_0 rfl ?_
  refine z_iconst K 4 dX12_isLeaf_1 rfl ?_
  refine z_icmp_ge K 24 dX12_isLeaf_2 (by decide) (fun c => ?_) (fun c => ?_)
  · have h := ite_t h c
    refine z_iload_n K dX12_isLeaf_24 rfl ?_
    refine z_iconst K 4 dX12_isLeaf_25 rfl ?_
    refine z_icmp_ne K 44 dX12_isLeaf_26 (by decide) (fun c => ?_) (fun c => ?_)
    · have h := ite_f h c
      refine z_iload_n K dX12_isLeaf_44 rfl ?_
      refine z_iconst K 5 dX12_isLeaf_45 rfl ?_
      refine z_icmp_ne K 60 dX12_isLeaf_46 (by decide) (fun c => ?_) (fun c => ?_)
      · have h := ite_f h c
        refine z_iload_n K dX12_isLeaf_60 rfl ?_
        refine z_bipush K 6 dX12_isLeaf_61 rfl ?_
        refine z_icmp_ne K 74 dX12_isLeaf_63 (by decide) (fun c => ?_) (fun c => ?_)
        · have h := ite_f h c
          refine z_iload_n K dX12_isLeaf_74 rfl ?_
          refine z_bipush K 7 dX12_isLeaf_75 rfl ?_
          refine z_icmp_ne K 88 dX12_isLeaf_77 (by decide) (fun c => ?_) (fun c => ?_)
          · have h := ite_f h c
            refine z_iload_n K dX12_isLeaf_88 rfl ?_
            refine z_bipush K 8 dX12_isLeaf_89 rfl ?_
            refine z_icmp_ne K 106 dX12_isLeaf_91 (by decide) (fun c => ?_) (fun c => ?_)
            · have h := ite_f h c
              refine z_iload_n K dX12_isLeaf_106 rfl ?_
              refine Zj.mask [false, false, false, true, true, false] ?_
              exact wX12_isLeaf_107 K hR k0 _ h
            · have h := ite_t h c
              refine z_aload_n K dX12_isLeaf_94 rfl ?_
              refine z_getR K clX12 k0 6 rfl rfl q1344 dX12_isLeaf_95 ?_
              refine z_bipush K 7 dX12_isLeaf_98 rfl ?_
              refine z_iload_n K dX12_isLeaf_100 rfl ?_
              refine z_iadd K dX12_isLeaf_101 ?_
              obtain ⟨hi, h⟩ := ix_e h
              refine z_iald K (hR.at (k := 6) (t := 20270) k0 rfl rfl) rfl rfl rfl hi dX12_isLeaf_102 ?_
              refine z_goto K 107 dX12_isLeaf_103 (by decide) ?_
              refine Zj.mask [false, false, false, true, true, false] ?_
              exact wX12_isLeaf_107 K hR k0 _ h
          · have h := ite_t h c
            refine z_aload_n K dX12_isLeaf_80 rfl ?_
            refine z_iload_n K dX12_isLeaf_81 rfl ?_
            obtain ⟨u1, hc, h⟩ := bd1_e h
            refine z_callVI K (mX12_partsNow l hR k0 hc) clX12 k0 ceX12_partsNow q1614 ⟨rfl, rfl, rfl, rfl⟩ rfl rfl rfl dX12_isLeaf_82 ?_
            refine z_goto K 107 dX12_isLeaf_85 (by decide) ?_
            refine Zj.mask [false, false, false, true, true, false] ?_
            exact wX12_isLeaf_107 K hR k0 _ h
        · have h := ite_t h c
          refine z_aload_n K dX12_isLeaf_66 rfl ?_
          refine z_iload_n K dX12_isLeaf_67 rfl ?_
          obtain ⟨u2, hc, h⟩ := bd1_e h
          refine z_callVI K (mX12_weightOf l hR k0 hc) clX12 k0 ceX12_weightOf q1598 ⟨rfl, rfl, rfl, rfl⟩ rfl rfl rfl dX12_isLeaf_68 ?_
          refine z_goto K 107 dX12_isLeaf_71 (by decide) ?_
          refine Zj.mask [false, false, false, true, true, false] ?_
          exact wX12_isLeaf_107 K hR k0 _ h
      · have h := ite_t h c
        refine z_aload_n K dX12_isLeaf_49 rfl ?_
        refine z_iload_n K dX12_isLeaf_50 rfl ?_
        obtain ⟨u3, hc, h⟩ := bd1_e h
        refine z_callVI K (mX12_barrelOf l hR k0 hc) clX12 k0 ceX12_barrelOf q1602 ⟨rfl, rfl, rfl, rfl⟩ rfl rfl rfl dX12_isLeaf_51 ?_
        refine z_iload K dX12_isLeaf_54 rfl ?_
        obtain ⟨u4, hc, h⟩ := bd1_e h
        refine z_callSI K (mX12_bitOf l hR hc) ceX12_bitOf q1524 ⟨rfl, rfl, rfl, rfl⟩ rfl rfl rfl dX12_isLeaf_56 ?_
        obtain ⟨hz, hf, h⟩ := bz_e h
        obtain rfl := Option.some.inj h
        exact z_zret K hz dX12_isLeaf_59
    · have h := ite_t h c
      refine z_aload_n K dX12_isLeaf_29 rfl ?_
      refine z_iload_n K dX12_isLeaf_30 rfl ?_
      obtain ⟨u5, hc, h⟩ := bd1_e h
      refine z_callVI K (mX12_partsNow l hR k0 hc) clX12 k0 ceX12_partsNow q1614 ⟨rfl, rfl, rfl, rfl⟩ rfl rfl rfl dX12_isLeaf_31 ?_
      refine z_iconst K 1 dX12_isLeaf_34 rfl ?_
      refine z_icmp_ne K 42 dX12_isLeaf_35 (by decide) (fun c => ?_) (fun c => ?_)
      · have h := ite_f h c
        refine z_iconst K 0 dX12_isLeaf_42 rfl ?_
        obtain rfl := Option.some.inj h
        exact z_zret (v := 0) K rfl dX12_isLeaf_43
      · have h := ite_t h c
        refine z_iconst K 1 dX12_isLeaf_38 rfl ?_
        refine z_goto K 43 dX12_isLeaf_39 (by decide) ?_
        obtain rfl := Option.some.inj h
        exact z_zret (v := 1) K rfl dX12_isLeaf_43
  · have h := ite_f h c
    refine z_aload_n K dX12_isLeaf_5 rfl ?_
    refine z_getR K clX12 k0 6 rfl rfl q1344 dX12_isLeaf_6 ?_
    refine z_bipush K 84 dX12_isLeaf_9 rfl ?_
    refine z_iload_n K dX12_isLeaf_11 rfl ?_
    refine z_iadd K dX12_isLeaf_12 ?_
    obtain ⟨hi, h⟩ := ix_e h
    refine z_iald K (hR.at (k := 6) (t := 20270) k0 rfl rfl) rfl rfl rfl hi dX12_isLeaf_13 ?_
    refine z_iload_n K dX12_isLeaf_14 rfl ?_
    refine z_icmp_ne K 22 dX12_isLeaf_15 (by decide) (fun c => ?_) (fun c => ?_)
    · have h := ite_f h c
      refine z_iconst K 0 dX12_isLeaf_22 rfl ?_
      obtain rfl := Option.some.inj h
      exact z_zret (v := 0) K rfl dX12_isLeaf_23
    · have h := ite_t h c
      refine z_iconst K 1 dX12_isLeaf_18 rfl ?_
      refine z_goto K 23 dX12_isLeaf_19 (by decide) ?_
      obtain rfl := Option.some.inj h
      exact z_zret (v := 1) K rfl dX12_isLeaf_23
/-! GoingOverModel.isSaid (I)Z -/
abbrev rmX12_isSaid : Room := { frames := 5, cells := 0, slots := 0, locals := 120 }
def pX12_isSaid_86 (R : Rf) (a0 : Nat) (x1 : Int32) (r4 : Mm → Int32 → Int32 → Option (Int32 × Mm)) (e210 : Mm → Option (Int32 × Mm)) (T : Mm) (x2 : Int32) (x3 : Int32) (x4 : Int32) : Option (Int32 × Mm) :=
  lt (x2 + (-1)) (fun (v2 : Int32) => ix x4 270 (if (T.1 (R a0 6) x4.toNatClampNeg) = 21 then ix (v2 - 1) 45 (if (T.1 (R a0 46) (v2 - 1).toNatClampNeg) = 0 then ix (v2 - 1) 45 (lt (wI T (R a0 46) (v2 - 1).toNatClampNeg 0) (fun (T9 : Mm) => lt (x3 + 1) (fun (v10 : Int32) => r4 T9 v2 v10))) else ix v2 45 (if (T.1 (R a0 46) v2.toNatClampNeg) = 0 then ix (v2 - 1) 45 (lt (wI T (R a0 46) (v2 - 1).toNatClampNeg 0) (fun (T11 : Mm) => lt (x3 + 1) (fun (v12 : Int32) => r4 T11 v2 v12))) else ix (v2 - 1) 45 (lt (wI T (R a0 46) (v2 - 1).toNatClampNeg 1) (fun (T13 : Mm) => lt (x3 + 1) (fun (v14 : Int32) => r4 T13 v2 v14))))) else ix (v2 - 1) 45 (if (T.1 (R a0 46) (v2 - 1).toNatClampNeg) = 0 then ix v2 45 (if (T.1 (R a0 46) v2.toNatClampNeg) = 0 then ix (v2 - 1) 45 (lt (wI T (R a0 46) (v2 - 1).toNatClampNeg 0) (fun (T5 : Mm) => lt (x3 + 1) (fun (v6 : Int32) => r4 T5 v2 v6))) else ix (v2 - 1) 45 (lt (wI T (R a0 46) (v2 - 1).toNatClampNeg 1) (fun (T7 : Mm) => lt (x3 + 1) (fun (v8 : Int32) => r4 T7 v2 v8)))) else ix (v2 - 1) 45 (lt (wI T (R a0 46) (v2 - 1).toNatClampNeg 1) (fun (T3 : Mm) => lt (x3 + 1) (fun (v4 : Int32) => r4 T3 v2 v4))))))
def pX12_isSaid_4 (R : Rf) (a0 : Nat) (x1 : Int32) (e210 : Mm → Option (Int32 × Mm)) (r4 : Mm → Int32 → Int32 → Option (Int32 × Mm)) (T : Mm) (x2 : Int32) (x3 : Int32) : Option (Int32 × Mm) :=
  ix 89 270 (if (T.1 (R a0 6) (89 : Int32).toNatClampNeg) ≤ x3 then e210 T else lt (90 + (3 * x3)) (fun (v1 : Int32) => ix v1 270 (if (T.1 (R a0 6) v1.toNatClampNeg) = 20 then ix (x2 - 1) 45 (if (T.1 (R a0 46) (x2 - 1).toNatClampNeg) = 0 then ix (x2 - 1) 45 (lt (wI T (R a0 46) (x2 - 1).toNatClampNeg 1) (fun (T21 : Mm) => lt (x3 + 1) (fun (v22 : Int32) => r4 T21 x2 v22))) else ix (x2 - 1) 45 (lt (wI T (R a0 46) (x2 - 1).toNatClampNeg 0) (fun (T19 : Mm) => lt (x3 + 1) (fun (v20 : Int32) => r4 T19 x2 v20)))) else ix v1 270 (if (T.1 (R a0 6) v1.toNatClampNeg) = 21 then pX12_isSaid_86 R a0 x1 r4 e210 T x2 x3 v1 else ix v1 270 (if (T.1 (R a0 6) v1.toNatClampNeg) = 22 then pX12_isSaid_86 R a0 x1 r4 e210 T x2 x3 v1 else ix v1 270 (ix (v1 + 1) 270 (ix (v1 + 2) 270 (bd1 (pX12_isLeaf R T a0 x1 (T.1 (R a0 6) v1.toNatClampNeg) (T.1 (R a0 6) (v1 + 1).toNatClampNeg) (T.1 (R a0 6) (v1 + 2).toNatClampNeg)) (fun (u15 : Int32) => ix x2 45 (bz u15 (lt (wI T (R a0 46) x2.toNatClampNeg u15) (fun (T16 : Mm) => lt (x2 + 1) (fun (v17 : Int32) => lt (x3 + 1) (fun (v18 : Int32) => r4 T16 v17 v18))))))))))))))
def pX12_isSaid_210 (R : Rf) (a0 : Nat) (x1 : Int32) (T : Mm) : Option (Int32 × Mm) :=
  ix 0 45 (bz (T.1 (R a0 46) (0 : Int32).toNatClampNeg) (some (T.1 (R a0 46) (0 : Int32).toNatClampNeg, T)))
def pX12_isSaid (R : Rf) (T : Mm) (a0 : Nat) (x1 : Int32) : Option (Int32 × Mm) :=
  zl3 (pX12_isSaid_4 R a0 x1 (pX12_isSaid_210 R a0 x1)) FU T 0 0
set_option maxRecDepth 100000 in
set_option maxHeartbeats 4000000 in
theorem wX12_isSaid_86 {X : Cx} {g : Gl} {l : Launch} {R : Rf} {a0 : Nat} {x1 : Int32} (K : Ok X g l cX12_isSaid RX12 5 (some .boolean) rmX12_isSaid) (hR : Ty g R) (k0 : kd g a0 = 12) {r : Int32 × Mm} {r4 : Mm → Int32 → Int32 → Option (Int32 × Mm)} (hr4 : ∀ (T : Mm) (x2 : Int32) (x3 : Int32), r4 T x2 x3 = some r → Zj X g 5 (QI X g r.1 R r.2) R T [some (.ref (g.2.2.1 a0)), some (.int x1), some (.int x2), some (.int x3), none] [] 4) {e210 : Mm → Option (Int32 × Mm)} (he210 : ∀ (T : Mm), e210 T = some r → Zj X g 5 (QI X g r.1 R r.2) R T [some (.ref (g.2.2.1 a0)), none, none, none, none] [] 210) (T : Mm) (x2 : Int32) (x3 : Int32) (x4 : Int32) (h : pX12_isSaid_86 R a0 x1 r4 e210 T x2 x3 x4 = some r) : Zj X g 5 (QI X g r.1 R r.2) R T [some (.ref (g.2.2.1 a0)), some (.int x1), some (.int x2), some (.int x3), some (.int x4)] [] 86 := by
  unfold pX12_isSaid_86 at h
  refine z_iinc K (-1) dX12_isSaid_86 rfl rfl rfl rfl ?_
  refine z_aload_n K dX12_isSaid_89 rfl ?_
  refine z_getR K clX12 k0 46 rfl rfl q1384 dX12_isSaid_90 ?_
  refine z_iload_n K dX12_isSaid_93 rfl ?_
  refine z_iconst K 1 dX12_isSaid_94 rfl ?_
  refine z_isub K dX12_isSaid_95 ?_
  refine z_aload_n K dX12_isSaid_96 rfl ?_
  refine z_getR K clX12 k0 6 rfl rfl q1344 dX12_isSaid_97 ?_
  refine z_iload K dX12_isSaid_100 rfl ?_
  obtain ⟨hi, h⟩ := ix_e h
  refine z_iald K (hR.at (k := 6) (t := 20270) k0 rfl rfl) rfl rfl rfl hi dX12_isSaid_102 ?_
  refine z_bipush K 21 dX12_isSaid_103 rfl ?_
  refine z_icmp_ne K 136 dX12_isSaid_105 (by decide) (fun c => ?_) (fun c => ?_)
  · have h := ite_f h c
    refine z_aload_n K dX12_isSaid_136 rfl ?_
    refine z_getR K clX12 k0 46 rfl rfl q1384 dX12_isSaid_137 ?_
    refine z_iload_n K dX12_isSaid_140 rfl ?_
    refine z_iconst K 1 dX12_isSaid_141 rfl ?_
    refine z_isub K dX12_isSaid_142 ?_
    obtain ⟨hi, h⟩ := ix_e h
    refine z_zald K (hR.at (k := 46) (t := 40045) k0 rfl rfl) rfl rfl rfl hi dX12_isSaid_143 ?_
    refine z_if_ne K 156 dX12_isSaid_144 (by decide) (fun c => ?_) (fun c => ?_)
    · have h := ite_f h c
      refine z_iconst K 1 dX12_isSaid_156 rfl ?_
      refine z_goto K 161 dX12_isSaid_157 (by decide) ?_
      obtain ⟨hi, h⟩ := ix_e h
      refine z_zast K (hR.at (k := 46) (t := 40045) k0 rfl rfl) rfl rfl rfl hi rfl dX12_isSaid_161 ?_
      refine z_goto K 204 dX12_isSaid_162 (by decide) ?_
      refine z_iinc K 1 dX12_isSaid_204 rfl rfl rfl rfl ?_
      refine z_goto K 4 dX12_isSaid_207 (by decide) ?_
      refine Zj.mask [true, true, true, true, false] ?_
      exact hr4 _ _ _ h
    · have h := ite_t h c
      refine z_aload_n K dX12_isSaid_147 rfl ?_
      refine z_getR K clX12 k0 46 rfl rfl q1384 dX12_isSaid_148 ?_
      refine z_iload_n K dX12_isSaid_151 rfl ?_
      obtain ⟨hi, h⟩ := ix_e h
      refine z_zald K (hR.at (k := 46) (t := 40045) k0 rfl rfl) rfl rfl rfl hi dX12_isSaid_152 ?_
      refine z_if_eq K 160 dX12_isSaid_153 (by decide) (fun c => ?_) (fun c => ?_)
      · have h := ite_t h c
        refine z_iconst K 0 dX12_isSaid_160 rfl ?_
        obtain ⟨hi, h⟩ := ix_e h
        refine z_zast K (hR.at (k := 46) (t := 40045) k0 rfl rfl) rfl rfl rfl hi rfl dX12_isSaid_161 ?_
        refine z_goto K 204 dX12_isSaid_162 (by decide) ?_
        refine z_iinc K 1 dX12_isSaid_204 rfl rfl rfl rfl ?_
        refine z_goto K 4 dX12_isSaid_207 (by decide) ?_
        refine Zj.mask [true, true, true, true, false] ?_
        exact hr4 _ _ _ h
      · have h := ite_f h c
        refine z_iconst K 1 dX12_isSaid_156 rfl ?_
        refine z_goto K 161 dX12_isSaid_157 (by decide) ?_
        obtain ⟨hi, h⟩ := ix_e h
        refine z_zast K (hR.at (k := 46) (t := 40045) k0 rfl rfl) rfl rfl rfl hi rfl dX12_isSaid_161 ?_
        refine z_goto K 204 dX12_isSaid_162 (by decide) ?_
        refine z_iinc K 1 dX12_isSaid_204 rfl rfl rfl rfl ?_
        refine z_goto K 4 dX12_isSaid_207 (by decide) ?_
        refine Zj.mask [true, true, true, true, false] ?_
        exact hr4 _ _ _ h
  · have h := ite_t h c
    refine z_aload_n K dX12_isSaid_108 rfl ?_
    refine z_getR K clX12 k0 46 rfl rfl q1384 dX12_isSaid_109 ?_
    refine z_iload_n K dX12_isSaid_112 rfl ?_
    refine z_iconst K 1 dX12_isSaid_113 rfl ?_
    refine z_isub K dX12_isSaid_114 ?_
    obtain ⟨hi, h⟩ := ix_e h
    refine z_zald K (hR.at (k := 46) (t := 40045) k0 rfl rfl) rfl rfl rfl hi dX12_isSaid_115 ?_
    refine z_if_eq K 132 dX12_isSaid_116 (by decide) (fun c => ?_) (fun c => ?_)
    · have h := ite_t h c
      refine z_iconst K 0 dX12_isSaid_132 rfl ?_
      refine z_goto K 161 dX12_isSaid_133 (by decide) ?_
      obtain ⟨hi, h⟩ := ix_e h
      refine z_zast K (hR.at (k := 46) (t := 40045) k0 rfl rfl) rfl rfl rfl hi rfl dX12_isSaid_161 ?_
      refine z_goto K 204 dX12_isSaid_162 (by decide) ?_
      refine z_iinc K 1 dX12_isSaid_204 rfl rfl rfl rfl ?_
      refine z_goto K 4 dX12_isSaid_207 (by decide) ?_
      refine Zj.mask [true, true, true, true, false] ?_
      exact hr4 _ _ _ h
    · have h := ite_f h c
      refine z_aload_n K dX12_isSaid_119 rfl ?_
      refine z_getR K clX12 k0 46 rfl rfl q1384 dX12_isSaid_120 ?_
      refine z_iload_n K dX12_isSaid_123 rfl ?_
      obtain ⟨hi, h⟩ := ix_e h
      refine z_zald K (hR.at (k := 46) (t := 40045) k0 rfl rfl) rfl rfl rfl hi dX12_isSaid_124 ?_
      refine z_if_eq K 132 dX12_isSaid_125 (by decide) (fun c => ?_) (fun c => ?_)
      · have h := ite_t h c
        refine z_iconst K 0 dX12_isSaid_132 rfl ?_
        refine z_goto K 161 dX12_isSaid_133 (by decide) ?_
        obtain ⟨hi, h⟩ := ix_e h
        refine z_zast K (hR.at (k := 46) (t := 40045) k0 rfl rfl) rfl rfl rfl hi rfl dX12_isSaid_161 ?_
        refine z_goto K 204 dX12_isSaid_162 (by decide) ?_
        refine z_iinc K 1 dX12_isSaid_204 rfl rfl rfl rfl ?_
        refine z_goto K 4 dX12_isSaid_207 (by decide) ?_
        refine Zj.mask [true, true, true, true, false] ?_
        exact hr4 _ _ _ h
      · have h := ite_f h c
        refine z_iconst K 1 dX12_isSaid_128 rfl ?_
        refine z_goto K 161 dX12_isSaid_129 (by decide) ?_
        obtain ⟨hi, h⟩ := ix_e h
        refine z_zast K (hR.at (k := 46) (t := 40045) k0 rfl rfl) rfl rfl rfl hi rfl dX12_isSaid_161 ?_
        refine z_goto K 204 dX12_isSaid_162 (by decide) ?_
        refine z_iinc K 1 dX12_isSaid_204 rfl rfl rfl rfl ?_
        refine z_goto K 4 dX12_isSaid_207 (by decide) ?_
        refine Zj.mask [true, true, true, true, false] ?_
        exact hr4 _ _ _ h
set_option maxRecDepth 100000 in
set_option maxHeartbeats 4000000 in
theorem wX12_isSaid_4 {X : Cx} {g : Gl} {l : Launch} {R : Rf} {a0 : Nat} {x1 : Int32} (K : Ok X g l cX12_isSaid RX12 5 (some .boolean) rmX12_isSaid) (hR : Ty g R) (k0 : kd g a0 = 12) {r : Int32 × Mm} {e210 : Mm → Option (Int32 × Mm)} (he210 : ∀ (T : Mm), e210 T = some r → Zj X g 5 (QI X g r.1 R r.2) R T [some (.ref (g.2.2.1 a0)), none, none, none, none] [] 210) : ∀ (n : Nat) (T : Mm) (x2 : Int32) (x3 : Int32), zl3 (pX12_isSaid_4 R a0 x1 e210) n T x2 x3 = some r → Zj X g 5 (QI X g r.1 R r.2) R T [some (.ref (g.2.2.1 a0)), some (.int x1), some (.int x2), some (.int x3), none] [] 4 := by
  intro n
  induction n with
  | zero =>
    intro T x2 x3 h
    exact absurd h (by simp [zl3])
  | succ n hr4 =>
    intro T x2 x3 h
    rw [zl3_s] at h
    unfold pX12_isSaid_4 at h
    refine z_iload_n K dX12_isSaid_4 rfl ?_
    refine z_aload_n K dX12_isSaid_5 rfl ?_
    refine z_getR K clX12 k0 6 rfl rfl q1344 dX12_isSaid_6 ?_
    refine z_bipush K 89 dX12_isSaid_9 rfl ?_
    obtain ⟨hi, h⟩ := ix_e h
    refine z_iald K (hR.at (k := 6) (t := 20270) k0 rfl rfl) rfl rfl rfl hi dX12_isSaid_11 ?_
    refine z_icmp_ge K 210 dX12_isSaid_12 (by decide) (fun c => ?_) (fun c => ?_)
    · have h := ite_t h c
      refine Zj.mask [true, false, false, false, false] ?_
      exact he210 _ h
    · have h := ite_f h c
      refine z_bipush K 90 dX12_isSaid_15 rfl ?_
      refine z_iconst K 3 dX12_isSaid_17 rfl ?_
      refine z_iload_n K dX12_isSaid_18 rfl ?_
      refine z_imul K dX12_isSaid_19 ?_
      refine z_iadd K dX12_isSaid_20 ?_
      refine z_istore K dX12_isSaid_21 rfl rfl ?_
      refine z_aload_n K dX12_isSaid_23 rfl ?_
      refine z_getR K clX12 k0 6 rfl rfl q1344 dX12_isSaid_24 ?_
      refine z_iload K dX12_isSaid_27 rfl ?_
      obtain ⟨hi, h⟩ := ix_e h
      refine z_iald K (hR.at (k := 6) (t := 20270) k0 rfl rfl) rfl rfl rfl hi dX12_isSaid_29 ?_
      refine z_bipush K 20 dX12_isSaid_30 rfl ?_
      refine z_icmp_ne K 62 dX12_isSaid_32 (by decide) (fun c => ?_) (fun c => ?_)
      · have h := ite_f h c
        refine z_aload_n K dX12_isSaid_62 rfl ?_
        refine z_getR K clX12 k0 6 rfl rfl q1344 dX12_isSaid_63 ?_
        refine z_iload K dX12_isSaid_66 rfl ?_
        obtain ⟨hi, h⟩ := ix_e h
        refine z_iald K (hR.at (k := 6) (t := 20270) k0 rfl rfl) rfl rfl rfl hi dX12_isSaid_68 ?_
        refine z_bipush K 21 dX12_isSaid_69 rfl ?_
        refine z_icmp_eq K 86 dX12_isSaid_71 (by decide) (fun c => ?_) (fun c => ?_)
        · have h := ite_t h c
          refine Zj.mask [true, true, true, true, true] ?_
          exact wX12_isSaid_86 K hR k0 hr4 he210 _ _ _ _ h
        · have h := ite_f h c
          refine z_aload_n K dX12_isSaid_74 rfl ?_
          refine z_getR K clX12 k0 6 rfl rfl q1344 dX12_isSaid_75 ?_
          refine z_iload K dX12_isSaid_78 rfl ?_
          obtain ⟨hi, h⟩ := ix_e h
          refine z_iald K (hR.at (k := 6) (t := 20270) k0 rfl rfl) rfl rfl rfl hi dX12_isSaid_80 ?_
          refine z_bipush K 22 dX12_isSaid_81 rfl ?_
          refine z_icmp_ne K 165 dX12_isSaid_83 (by decide) (fun c => ?_) (fun c => ?_)
          · have h := ite_f h c
            refine z_aload_n K dX12_isSaid_165 rfl ?_
            refine z_getR K clX12 k0 46 rfl rfl q1384 dX12_isSaid_166 ?_
            refine z_iload_n K dX12_isSaid_169 rfl ?_
            refine z_aload_n K dX12_isSaid_170 rfl ?_
            refine z_iload_n K dX12_isSaid_171 rfl ?_
            refine z_aload_n K dX12_isSaid_172 rfl ?_
            refine z_getR K clX12 k0 6 rfl rfl q1344 dX12_isSaid_173 ?_
            refine z_iload K dX12_isSaid_176 rfl ?_
            obtain ⟨hi, h⟩ := ix_e h
            refine z_iald K (hR.at (k := 6) (t := 20270) k0 rfl rfl) rfl rfl rfl hi dX12_isSaid_178 ?_
            refine z_aload_n K dX12_isSaid_179 rfl ?_
            refine z_getR K clX12 k0 6 rfl rfl q1344 dX12_isSaid_180 ?_
            refine z_iload K dX12_isSaid_183 rfl ?_
            refine z_iconst K 1 dX12_isSaid_185 rfl ?_
            refine z_iadd K dX12_isSaid_186 ?_
            obtain ⟨hi, h⟩ := ix_e h
            refine z_iald K (hR.at (k := 6) (t := 20270) k0 rfl rfl) rfl rfl rfl hi dX12_isSaid_187 ?_
            refine z_aload_n K dX12_isSaid_188 rfl ?_
            refine z_getR K clX12 k0 6 rfl rfl q1344 dX12_isSaid_189 ?_
            refine z_iload K dX12_isSaid_192 rfl ?_
            refine z_iconst K 2 dX12_isSaid_194 rfl ?_
            refine z_iadd K dX12_isSaid_195 ?_
            obtain ⟨hi, h⟩ := ix_e h
            refine z_iald K (hR.at (k := 6) (t := 20270) k0 rfl rfl) rfl rfl rfl hi dX12_isSaid_196 ?_
            obtain ⟨u15, hc, h⟩ := bd1_e h
            refine z_callVI K (mX12_isLeaf l hR k0 hc) clX12 k0 ceX12_isLeaf q1937 ⟨rfl, rfl, rfl, rfl⟩ rfl rfl rfl dX12_isSaid_197 ?_
            obtain ⟨hi, h⟩ := ix_e h
            obtain ⟨hz, hf, h⟩ := bz_e h
            refine z_zast K (hR.at (k := 46) (t := 40045) k0 rfl rfl) rfl rfl rfl hi hz dX12_isSaid_200 ?_
            refine z_iinc K 1 dX12_isSaid_201 rfl rfl rfl rfl ?_
            refine z_iinc K 1 dX12_isSaid_204 rfl rfl rfl rfl ?_
            refine z_goto K 4 dX12_isSaid_207 (by decide) ?_
            refine Zj.mask [true, true, true, true, false] ?_
            exact hr4 _ _ _ h
          · have h := ite_t h c
            refine Zj.mask [true, true, true, true, true] ?_
            exact wX12_isSaid_86 K hR k0 hr4 he210 _ _ _ _ h
      · have h := ite_t h c
        refine z_aload_n K dX12_isSaid_35 rfl ?_
        refine z_getR K clX12 k0 46 rfl rfl q1384 dX12_isSaid_36 ?_
        refine z_iload_n K dX12_isSaid_39 rfl ?_
        refine z_iconst K 1 dX12_isSaid_40 rfl ?_
        refine z_isub K dX12_isSaid_41 ?_
        refine z_aload_n K dX12_isSaid_42 rfl ?_
        refine z_getR K clX12 k0 46 rfl rfl q1384 dX12_isSaid_43 ?_
        refine z_iload_n K dX12_isSaid_46 rfl ?_
        refine z_iconst K 1 dX12_isSaid_47 rfl ?_
        refine z_isub K dX12_isSaid_48 ?_
        obtain ⟨hi, h⟩ := ix_e h
        refine z_zald K (hR.at (k := 46) (t := 40045) k0 rfl rfl) rfl rfl rfl hi dX12_isSaid_49 ?_
        refine z_if_ne K 57 dX12_isSaid_50 (by decide) (fun c => ?_) (fun c => ?_)
        · have h := ite_f h c
          refine z_iconst K 0 dX12_isSaid_57 rfl ?_
          obtain ⟨hi, h⟩ := ix_e h
          refine z_zast K (hR.at (k := 46) (t := 40045) k0 rfl rfl) rfl rfl rfl hi rfl dX12_isSaid_58 ?_
          refine z_goto K 204 dX12_isSaid_59 (by decide) ?_
          refine z_iinc K 1 dX12_isSaid_204 rfl rfl rfl rfl ?_
          refine z_goto K 4 dX12_isSaid_207 (by decide) ?_
          refine Zj.mask [true, true, true, true, false] ?_
          exact hr4 _ _ _ h
        · have h := ite_t h c
          refine z_iconst K 1 dX12_isSaid_53 rfl ?_
          refine z_goto K 58 dX12_isSaid_54 (by decide) ?_
          obtain ⟨hi, h⟩ := ix_e h
          refine z_zast K (hR.at (k := 46) (t := 40045) k0 rfl rfl) rfl rfl rfl hi rfl dX12_isSaid_58 ?_
          refine z_goto K 204 dX12_isSaid_59 (by decide) ?_
          refine z_iinc K 1 dX12_isSaid_204 rfl rfl rfl rfl ?_
          refine z_goto K 4 dX12_isSaid_207 (by decide) ?_
          refine Zj.mask [true, true, true, true, false] ?_
          exact hr4 _ _ _ h
set_option maxRecDepth 100000 in
set_option maxHeartbeats 4000000 in
theorem wX12_isSaid_210 {X : Cx} {g : Gl} {l : Launch} {R : Rf} {a0 : Nat} {x1 : Int32} (K : Ok X g l cX12_isSaid RX12 5 (some .boolean) rmX12_isSaid) (hR : Ty g R) (k0 : kd g a0 = 12) {r : Int32 × Mm} (T : Mm) (h : pX12_isSaid_210 R a0 x1 T = some r) : Zj X g 5 (QI X g r.1 R r.2) R T [some (.ref (g.2.2.1 a0)), none, none, none, none] [] 210 := by
  unfold pX12_isSaid_210 at h
  refine z_aload_n K dX12_isSaid_210 rfl ?_
  refine z_getR K clX12 k0 46 rfl rfl q1384 dX12_isSaid_211 ?_
  refine z_iconst K 0 dX12_isSaid_214 rfl ?_
  obtain ⟨hi, h⟩ := ix_e h
  refine z_zald K (hR.at (k := 46) (t := 40045) k0 rfl rfl) rfl rfl rfl hi dX12_isSaid_215 ?_
  obtain ⟨hz, hf, h⟩ := bz_e h
  obtain rfl := Option.some.inj h
  exact z_zret K hz dX12_isSaid_216
set_option maxRecDepth 100000 in
set_option maxHeartbeats 4000000 in
theorem mX12_isSaid {g : Gl} {R : Rf} {T : Mm} {a0 : Nat} {x1 : Int32} (l : Launch) (hR : Ty g R) (k0 : kd g a0 = 12) {r : Int32 × Mm} (h : pX12_isSaid R T a0 x1 = some r) : MI l g yX12_isSaid cX12_isSaid 5 (some .boolean) rmX12_isSaid [.ref (g.2.2.1 a0), .int x1] R T r.1 R r.2 := by
  refine z_metI (own := RX12) (lv := [some (.ref (g.2.2.1 a0)), some (.int x1), none, none, none]) (by decide +kernel) rfl rfl rfl (fun X K => ?_)
  unfold pX12_isSaid at h
  refine z_iconst K 0 dX12_isSaid_0 rfl ?_
  refine z_istore_n K dX12_isSaid_1 rfl rfl ?_
  refine z_iconst K 0 dX12_isSaid_2 rfl ?_
  refine z_istore_n K dX12_isSaid_3 rfl rfl ?_
  refine Zj.mask [true, true, true, true, false] ?_
  exact wX12_isSaid_4 K hR k0 (wX12_isSaid_210 K hR k0) FU _ _ _ h
/-! GoingOverModel.said (I)I -/
abbrev rmX12_said : Room := { frames := 6, cells := 0, slots := 0, locals := 144 }
def pX12_said_26 (R : Rf) (a0 : Nat) (x1 : Int32) (e52 : Mm → Int32 → Option (Int32 × Mm)) (e63 : Mm → Int32 → Option (Int32 × Mm)) (r26 : Mm → Int32 → Int32 → Option (Int32 × Mm)) (T : Mm) (x2 : Int32) (x3 : Int32) : Option (Int32 × Mm) :=
  ix 0 270 (if (T.1 (R a0 6) (0 : Int32).toNatClampNeg) ≤ x3 then e63 T x2 else bd2 (pX12_isSaid R T a0 x3) (fun (u2 : Int32) (T2 : Mm) => if u2 = 0 then lt (x3 + 1) (fun (v5 : Int32) => r26 T2 x2 v5) else if x2 = x1 then e52 T2 x3 else lt (x2 + 1) (fun (v3 : Int32) => lt (x3 + 1) (fun (v4 : Int32) => r26 T2 v3 v4))))
def pX12_said_52 (R : Rf) (a0 : Nat) (x1 : Int32) (T : Mm) (x3 : Int32) : Option (Int32 × Mm) :=
  some (x3, T)
def pX12_said_63 (R : Rf) (a0 : Nat) (x1 : Int32) (T : Mm) (x2 : Int32) : Option (Int32 × Mm) :=
  if x1 = (-1) then some (x2, T) else some ((-1), T)
def pX12_said (R : Rf) (T : Mm) (a0 : Nat) (x1 : Int32) : Option (Int32 × Mm) :=
  lt (wI T a0 0 0) (fun (T1 : Mm) => ix 89 270 (if (T1.1 (R a0 6) (89 : Int32).toNatClampNeg) = 0 then some ((-1), T1) else if (-1) ≤ x1 then zl3 (pX12_said_26 R a0 x1 (pX12_said_52 R a0 x1) (pX12_said_63 R a0 x1)) FU T1 0 0 else some ((-1), T1)))
set_option maxRecDepth 100000 in
set_option maxHeartbeats 4000000 in
theorem wX12_said_26 {X : Cx} {g : Gl} {l : Launch} {R : Rf} {a0 : Nat} {x1 : Int32} (K : Ok X g l cX12_said RX12 4 (some .int) rmX12_said) (hR : Ty g R) (k0 : kd g a0 = 12) {r : Int32 × Mm} {e52 : Mm → Int32 → Option (Int32 × Mm)} (he52 : ∀ (T : Mm) (x3 : Int32), e52 T x3 = some r → Zj X g 4 (QI X g r.1 R r.2) R T [none, none, none, some (.int x3)] [] 52) {e63 : Mm → Int32 → Option (Int32 × Mm)} (he63 : ∀ (T : Mm) (x2 : Int32), e63 T x2 = some r → Zj X g 4 (QI X g r.1 R r.2) R T [none, some (.int x1), some (.int x2), none] [] 63) : ∀ (n : Nat) (T : Mm) (x2 : Int32) (x3 : Int32), zl3 (pX12_said_26 R a0 x1 e52 e63) n T x2 x3 = some r → Zj X g 4 (QI X g r.1 R r.2) R T [some (.ref (g.2.2.1 a0)), some (.int x1), some (.int x2), some (.int x3)] [] 26 := by
  intro n
  induction n with
  | zero =>
    intro T x2 x3 h
    exact absurd h (by simp [zl3])
  | succ n hr26 =>
    intro T x2 x3 h
    rw [zl3_s] at h
    unfold pX12_said_26 at h
    refine z_iload_n K dX12_said_26 rfl ?_
    refine z_aload_n K dX12_said_27 rfl ?_
    refine z_getR K clX12 k0 6 rfl rfl q1344 dX12_said_28 ?_
    refine z_iconst K 0 dX12_said_31 rfl ?_
    obtain ⟨hi, h⟩ := ix_e h
    refine z_iald K (hR.at (k := 6) (t := 20270) k0 rfl rfl) rfl rfl rfl hi dX12_said_32 ?_
    refine z_icmp_ge K 63 dX12_said_33 (by decide) (fun c => ?_) (fun c => ?_)
    · have h := ite_t h c
      refine Zj.mask [false, true, true, false] ?_
      exact he63 _ _ h
    · have h := ite_f h c
      refine z_aload_n K dX12_said_36 rfl ?_
      refine z_iload_n K dX12_said_37 rfl ?_
      obtain ⟨u2, T2, hc, h⟩ := bd2_e h
      refine z_callVI K (mX12_isSaid l hR k0 hc) clX12 k0 ceX12_isSaid q1933 ⟨rfl, rfl, rfl, rfl⟩ rfl rfl rfl dX12_said_38 ?_
      refine z_if_ne K 47 dX12_said_41 (by decide) (fun c => ?_) (fun c => ?_)
      · have h := ite_f h c
        refine z_iload_n K dX12_said_47 rfl ?_
        refine z_iload_n K dX12_said_48 rfl ?_
        refine z_icmp_ne K 54 dX12_said_49 (by decide) (fun c => ?_) (fun c => ?_)
        · have h := ite_f h c
          refine z_iinc K 1 dX12_said_54 rfl rfl rfl rfl ?_
          refine z_iinc K 1 dX12_said_57 rfl rfl rfl rfl ?_
          refine z_goto K 26 dX12_said_60 (by decide) ?_
          refine Zj.mask [true, true, true, true] ?_
          exact hr26 _ _ _ h
        · have h := ite_t h c
          refine Zj.mask [false, false, false, true] ?_
          exact he52 _ _ h
      · have h := ite_t h c
        refine z_goto K 57 dX12_said_44 (by decide) ?_
        refine z_iinc K 1 dX12_said_57 rfl rfl rfl rfl ?_
        refine z_goto K 26 dX12_said_60 (by decide) ?_
        refine Zj.mask [true, true, true, true] ?_
        exact hr26 _ _ _ h
set_option maxRecDepth 100000 in
set_option maxHeartbeats 4000000 in
theorem wX12_said_52 {X : Cx} {g : Gl} {l : Launch} {R : Rf} {a0 : Nat} {x1 : Int32} (K : Ok X g l cX12_said RX12 4 (some .int) rmX12_said) (hR : Ty g R) (k0 : kd g a0 = 12) {r : Int32 × Mm} (T : Mm) (x3 : Int32) (h : pX12_said_52 R a0 x1 T x3 = some r) : Zj X g 4 (QI X g r.1 R r.2) R T [none, none, none, some (.int x3)] [] 52 := by
  unfold pX12_said_52 at h
  refine z_iload_n K dX12_said_52 rfl ?_
  obtain rfl := Option.some.inj h
  exact z_iret K dX12_said_53
set_option maxRecDepth 100000 in
set_option maxHeartbeats 4000000 in
theorem wX12_said_63 {X : Cx} {g : Gl} {l : Launch} {R : Rf} {a0 : Nat} {x1 : Int32} (K : Ok X g l cX12_said RX12 4 (some .int) rmX12_said) (hR : Ty g R) (k0 : kd g a0 = 12) {r : Int32 × Mm} (T : Mm) (x2 : Int32) (h : pX12_said_63 R a0 x1 T x2 = some r) : Zj X g 4 (QI X g r.1 R r.2) R T [none, some (.int x1), some (.int x2), none] [] 63 := by
  unfold pX12_said_63 at h
  refine z_iload_n K dX12_said_63 rfl ?_
  refine z_iconst K (-1) dX12_said_64 rfl ?_
  refine z_icmp_ne K 72 dX12_said_65 (by decide) (fun c => ?_) (fun c => ?_)
  · have h := ite_f h c
    refine z_iconst K (-1) dX12_said_72 rfl ?_
    obtain rfl := Option.some.inj h
    exact z_iret K dX12_said_73
  · have h := ite_t h c
    refine z_iload_n K dX12_said_68 rfl ?_
    refine z_goto K 73 dX12_said_69 (by decide) ?_
    obtain rfl := Option.some.inj h
    exact z_iret K dX12_said_73
set_option maxRecDepth 100000 in
set_option maxHeartbeats 4000000 in
theorem mX12_said {g : Gl} {R : Rf} {T : Mm} {a0 : Nat} {x1 : Int32} (l : Launch) (hR : Ty g R) (k0 : kd g a0 = 12) {r : Int32 × Mm} (h : pX12_said R T a0 x1 = some r) : MI l g yX12_said cX12_said 4 (some .int) rmX12_said [.ref (g.2.2.1 a0), .int x1] R T r.1 R r.2 := by
  refine z_metI (own := RX12) (lv := [some (.ref (g.2.2.1 a0)), some (.int x1), none, none]) (by decide +kernel) rfl rfl rfl (fun X K => ?_)
  unfold pX12_said at h
  refine z_aload_n K dX12_said_0 rfl ?_
  refine z_iconst K 0 dX12_said_1 rfl ?_
  refine z_putI K clX12 tyX12_ok nmX12 k0 0 rfl rfl q1338 rfl rfl rfl dX12_said_2 ?_
  refine z_aload_n K dX12_said_5 rfl ?_
  refine z_getR K clX12 k0 6 rfl rfl q1344 dX12_said_6 ?_
  refine z_bipush K 89 dX12_said_9 rfl ?_
  obtain ⟨hi, h⟩ := ix_e h
  refine z_iald K (hR.at (k := 6) (t := 20270) k0 rfl rfl) rfl rfl rfl hi dX12_said_11 ?_
  refine z_if_eq K 20 dX12_said_12 (by decide) (fun c => ?_) (fun c => ?_)
  · have h := ite_t h c
    refine z_iconst K (-1) dX12_said_20 rfl ?_
    obtain rfl := Option.some.inj h
    exact z_iret K dX12_said_21
  · have h := ite_f h c
    refine z_iload_n K dX12_said_15 rfl ?_
    refine z_iconst K (-1) dX12_said_16 rfl ?_
    refine z_icmp_ge K 22 dX12_said_17 (by decide) (fun c => ?_) (fun c => ?_)
    · have h := ite_t h c
      refine z_iconst K 0 dX12_said_22 rfl ?_
      refine z_istore_n K dX12_said_23 rfl rfl ?_
      refine z_iconst K 0 dX12_said_24 rfl ?_
      refine z_istore_n K dX12_said_25 rfl rfl ?_
      refine Zj.mask [true, true, true, true] ?_
      exact wX12_said_26 K hR k0 (wX12_said_52 K hR k0) (wX12_said_63 K hR k0) FU _ _ _ h
    · have h := ite_f h c
      refine z_iconst K (-1) dX12_said_20 rfl ?_
      obtain rfl := Option.some.inj h
      exact z_iret K dX12_said_21
/-! GoingOverModel.image (I)Z -/
abbrev rmX12_image : Room := { frames := 1, cells := 0, slots := 0, locals := 22 }
def pX12_image_18 (R : Rf) (a0 : Nat) (x1 : Int32) (e49 : Mm → Option (Int32 × Mm)) (r18 : Mm → Int32 → Option (Int32 × Mm)) (T : Mm) (x2 : Int32) : Option (Int32 × Mm) :=
  if 270 ≤ x2 then e49 T else ix x2 270 (ix ((270 * x1) + x2) 540 (lt (wI T (R a0 47) ((270 * x1) + x2).toNatClampNeg (T.1 (R a0 6) x2.toNatClampNeg)) (fun (T3 : Mm) => lt (x2 + 1) (fun (v4 : Int32) => r18 T3 v4))))
def pX12_image_51 (R : Rf) (a0 : Nat) (x1 : Int32) (e80 : Mm → Option (Int32 × Mm)) (r51 : Mm → Int32 → Option (Int32 × Mm)) (T : Mm) (x2 : Int32) : Option (Int32 × Mm) :=
  if 15 ≤ x2 then e80 T else ix x2 30 (ix ((15 * x1) + x2) 30 (lt (wJ T (R a0 48) ((15 * x1) + x2).toNatClampNeg (T.2 (R a0 9) x2.toNatClampNeg)) (fun (T5 : Mm) => lt (x2 + 1) (fun (v6 : Int32) => r51 T5 v6))))
def pX12_image_80 (R : Rf) (a0 : Nat) (x1 : Int32) (T : Mm) : Option (Int32 × Mm) :=
  ix x1 2 (lt (wI T (R a0 49) x1.toNatClampNeg 1) (fun (T7 : Mm) => some (1, T7)))
def pX12_image_49 (R : Rf) (a0 : Nat) (x1 : Int32) (T : Mm) : Option (Int32 × Mm) :=
  zl2 (pX12_image_51 R a0 x1 (pX12_image_80 R a0 x1)) FU T 0
def pX12_image (R : Rf) (T : Mm) (a0 : Nat) (x1 : Int32) : Option (Int32 × Mm) :=
  lt (wI T a0 0 0) (fun (T1 : Mm) => bd1 (pX12_isIn R T1 x1 0 1) (fun (u2 : Int32) => if u2 = 0 then some (0, T1) else zl2 (pX12_image_18 R a0 x1 (pX12_image_49 R a0 x1)) FU T1 0))
set_option maxRecDepth 100000 in
set_option maxHeartbeats 4000000 in
theorem wX12_image_18 {X : Cx} {g : Gl} {l : Launch} {R : Rf} {a0 : Nat} {x1 : Int32} (K : Ok X g l cX12_image RX12 3 (some .boolean) rmX12_image) (hR : Ty g R) (k0 : kd g a0 = 12) {r : Int32 × Mm} {e49 : Mm → Option (Int32 × Mm)} (he49 : ∀ (T : Mm), e49 T = some r → Zj X g 3 (QI X g r.1 R r.2) R T [some (.ref (g.2.2.1 a0)), some (.int x1), none] [] 49) : ∀ (n : Nat) (T : Mm) (x2 : Int32), zl2 (pX12_image_18 R a0 x1 e49) n T x2 = some r → Zj X g 3 (QI X g r.1 R r.2) R T [some (.ref (g.2.2.1 a0)), some (.int x1), some (.int x2)] [] 18 := by
  intro n
  induction n with
  | zero =>
    intro T x2 h
    exact absurd h (by simp [zl2])
  | succ n hr18 =>
    intro T x2 h
    rw [zl2_s] at h
    unfold pX12_image_18 at h
    refine z_iload_n K dX12_image_18 rfl ?_
    refine z_sipush K 270 dX12_image_19 rfl ?_
    refine z_icmp_ge K 49 dX12_image_22 (by decide) (fun c => ?_) (fun c => ?_)
    · have h := ite_t h c
      refine Zj.mask [true, true, false] ?_
      exact he49 _ h
    · have h := ite_f h c
      refine z_aload_n K dX12_image_25 rfl ?_
      refine z_getR K clX12 k0 47 rfl rfl q1385 dX12_image_26 ?_
      refine z_sipush K 270 dX12_image_29 rfl ?_
      refine z_iload_n K dX12_image_32 rfl ?_
      refine z_imul K dX12_image_33 ?_
      refine z_iload_n K dX12_image_34 rfl ?_
      refine z_iadd K dX12_image_35 ?_
      refine z_aload_n K dX12_image_36 rfl ?_
      refine z_getR K clX12 k0 6 rfl rfl q1344 dX12_image_37 ?_
      refine z_iload_n K dX12_image_40 rfl ?_
      obtain ⟨hi, h⟩ := ix_e h
      refine z_iald K (hR.at (k := 6) (t := 20270) k0 rfl rfl) rfl rfl rfl hi dX12_image_41 ?_
      obtain ⟨hi, h⟩ := ix_e h
      refine z_iast K (hR.at (k := 47) (t := 20540) k0 rfl rfl) rfl rfl rfl hi dX12_image_42 ?_
      refine z_iinc K 1 dX12_image_43 rfl rfl rfl rfl ?_
      refine z_goto K 18 dX12_image_46 (by decide) ?_
      refine Zj.mask [true, true, true] ?_
      exact hr18 _ _ h
set_option maxRecDepth 100000 in
set_option maxHeartbeats 4000000 in
theorem wX12_image_51 {X : Cx} {g : Gl} {l : Launch} {R : Rf} {a0 : Nat} {x1 : Int32} (K : Ok X g l cX12_image RX12 3 (some .boolean) rmX12_image) (hR : Ty g R) (k0 : kd g a0 = 12) {r : Int32 × Mm} {e80 : Mm → Option (Int32 × Mm)} (he80 : ∀ (T : Mm), e80 T = some r → Zj X g 3 (QI X g r.1 R r.2) R T [some (.ref (g.2.2.1 a0)), some (.int x1), none] [] 80) : ∀ (n : Nat) (T : Mm) (x2 : Int32), zl2 (pX12_image_51 R a0 x1 e80) n T x2 = some r → Zj X g 3 (QI X g r.1 R r.2) R T [some (.ref (g.2.2.1 a0)), some (.int x1), some (.int x2)] [] 51 := by
  intro n
  induction n with
  | zero =>
    intro T x2 h
    exact absurd h (by simp [zl2])
  | succ n hr51 =>
    intro T x2 h
    rw [zl2_s] at h
    unfold pX12_image_51 at h
    refine z_iload_n K dX12_image_51 rfl ?_
    refine z_bipush K 15 dX12_image_52 rfl ?_
    refine z_icmp_ge K 80 dX12_image_54 (by decide) (fun c => ?_) (fun c => ?_)
    · have h := ite_t h c
      refine Zj.mask [true, true, false] ?_
      exact he80 _ h
    · have h := ite_f h c
      refine z_aload_n K dX12_image_57 rfl ?_
      refine z_getR K clX12 k0 48 rfl rfl q1386 dX12_image_58 ?_
      refine z_bipush K 15 dX12_image_61 rfl ?_
      refine z_iload_n K dX12_image_63 rfl ?_
      refine z_imul K dX12_image_64 ?_
      refine z_iload_n K dX12_image_65 rfl ?_
      refine z_iadd K dX12_image_66 ?_
      refine z_aload_n K dX12_image_67 rfl ?_
      refine z_getR K clX12 k0 9 rfl rfl q1347 dX12_image_68 ?_
      refine z_iload_n K dX12_image_71 rfl ?_
      obtain ⟨hi, h⟩ := ix_e h
      refine z_lald K (hR.at (k := 9) (t := 30030) k0 rfl rfl) rfl rfl rfl hi dX12_image_72 ?_
      obtain ⟨hi, h⟩ := ix_e h
      refine z_last K (hR.at (k := 48) (t := 30030) k0 rfl rfl) rfl rfl rfl hi dX12_image_73 ?_
      refine z_iinc K 1 dX12_image_74 rfl rfl rfl rfl ?_
      refine z_goto K 51 dX12_image_77 (by decide) ?_
      refine Zj.mask [true, true, true] ?_
      exact hr51 _ _ h
set_option maxRecDepth 100000 in
set_option maxHeartbeats 4000000 in
theorem wX12_image_80 {X : Cx} {g : Gl} {l : Launch} {R : Rf} {a0 : Nat} {x1 : Int32} (K : Ok X g l cX12_image RX12 3 (some .boolean) rmX12_image) (hR : Ty g R) (k0 : kd g a0 = 12) {r : Int32 × Mm} (T : Mm) (h : pX12_image_80 R a0 x1 T = some r) : Zj X g 3 (QI X g r.1 R r.2) R T [some (.ref (g.2.2.1 a0)), some (.int x1), none] [] 80 := by
  unfold pX12_image_80 at h
  refine z_aload_n K dX12_image_80 rfl ?_
  refine z_getR K clX12 k0 49 rfl rfl q1387 dX12_image_81 ?_
  refine z_iload_n K dX12_image_84 rfl ?_
  refine z_iconst K 1 dX12_image_85 rfl ?_
  obtain ⟨hi, h⟩ := ix_e h
  refine z_zast K (hR.at (k := 49) (t := 40002) k0 rfl rfl) rfl rfl rfl hi rfl dX12_image_86 ?_
  refine z_iconst K 1 dX12_image_87 rfl ?_
  obtain rfl := Option.some.inj h
  exact z_zret (v := 1) K rfl dX12_image_88
set_option maxRecDepth 100000 in
set_option maxHeartbeats 4000000 in
theorem wX12_image_49 {X : Cx} {g : Gl} {l : Launch} {R : Rf} {a0 : Nat} {x1 : Int32} (K : Ok X g l cX12_image RX12 3 (some .boolean) rmX12_image) (hR : Ty g R) (k0 : kd g a0 = 12) {r : Int32 × Mm} (T : Mm) (h : pX12_image_49 R a0 x1 T = some r) : Zj X g 3 (QI X g r.1 R r.2) R T [some (.ref (g.2.2.1 a0)), some (.int x1), none] [] 49 := by
  unfold pX12_image_49 at h
  refine z_iconst K 0 dX12_image_49 rfl ?_
  refine z_istore_n K dX12_image_50 rfl rfl ?_
  refine Zj.mask [true, true, true] ?_
  exact wX12_image_51 K hR k0 (wX12_image_80 K hR k0) FU _ _ h
set_option maxRecDepth 100000 in
set_option maxHeartbeats 4000000 in
theorem mX12_image {g : Gl} {R : Rf} {T : Mm} {a0 : Nat} {x1 : Int32} (l : Launch) (hR : Ty g R) (k0 : kd g a0 = 12) {r : Int32 × Mm} (h : pX12_image R T a0 x1 = some r) : MI l g yX12_image cX12_image 3 (some .boolean) rmX12_image [.ref (g.2.2.1 a0), .int x1] R T r.1 R r.2 := by
  refine z_metI (own := RX12) (lv := [some (.ref (g.2.2.1 a0)), some (.int x1), none]) (by decide +kernel) rfl rfl rfl (fun X K => ?_)
  unfold pX12_image at h
  refine z_aload_n K dX12_image_0 rfl ?_
  refine z_iconst K 0 dX12_image_1 rfl ?_
  refine z_putI K clX12 tyX12_ok nmX12 k0 0 rfl rfl q1338 rfl rfl rfl dX12_image_2 ?_
  refine z_iload_n K dX12_image_5 rfl ?_
  refine z_iconst K 0 dX12_image_6 rfl ?_
  refine z_iconst K 1 dX12_image_7 rfl ?_
  obtain ⟨u2, hc, h⟩ := bd1_e h
  refine z_callSI K (mX12_isIn l hR hc) ceX12_isIn q1539 ⟨rfl, rfl, rfl, rfl⟩ rfl rfl rfl dX12_image_8 ?_
  refine z_if_ne K 16 dX12_image_11 (by decide) (fun c => ?_) (fun c => ?_)
  · have h := ite_f h c
    refine z_iconst K 0 dX12_image_16 rfl ?_
    refine z_istore_n K dX12_image_17 rfl rfl ?_
    refine Zj.mask [true, true, true] ?_
    exact wX12_image_18 K hR k0 (wX12_image_49 K hR k0) FU _ _ h
  · have h := ite_t h c
    refine z_iconst K 0 dX12_image_14 rfl ?_
    obtain rfl := Option.some.inj h
    exact z_zret (v := 0) K rfl dX12_image_15
/-! GoingOverModel.restore (I)Z -/
abbrev rmX12_restore : Room := { frames := 1, cells := 0, slots := 0, locals := 22 }
def pX12_restore_27 (R : Rf) (a0 : Nat) (x1 : Int32) (e58 : Mm → Option (Int32 × Mm)) (r27 : Mm → Int32 → Option (Int32 × Mm)) (T : Mm) (x2 : Int32) : Option (Int32 × Mm) :=
  if 270 ≤ x2 then e58 T else ix ((270 * x1) + x2) 540 (ix x2 270 (lt (wI T (R a0 6) x2.toNatClampNeg (T.1 (R a0 47) ((270 * x1) + x2).toNatClampNeg)) (fun (T3 : Mm) => lt (x2 + 1) (fun (v4 : Int32) => r27 T3 v4))))
def pX12_restore_60 (R : Rf) (a0 : Nat) (x1 : Int32) (e89 : Mm → Option (Int32 × Mm)) (r60 : Mm → Int32 → Option (Int32 × Mm)) (T : Mm) (x2 : Int32) : Option (Int32 × Mm) :=
  if 15 ≤ x2 then e89 T else ix ((15 * x1) + x2) 30 (ix x2 30 (lt (wJ T (R a0 9) x2.toNatClampNeg (T.2 (R a0 48) ((15 * x1) + x2).toNatClampNeg)) (fun (T5 : Mm) => lt (x2 + 1) (fun (v6 : Int32) => r60 T5 v6))))
def pX12_restore_89 (R : Rf) (a0 : Nat) (x1 : Int32) (T : Mm) : Option (Int32 × Mm) :=
  lt (wI T a0 23 0) (fun (T7 : Mm) => some (1, T7))
def pX12_restore_58 (R : Rf) (a0 : Nat) (x1 : Int32) (T : Mm) : Option (Int32 × Mm) :=
  zl2 (pX12_restore_60 R a0 x1 (pX12_restore_89 R a0 x1)) FU T 0
def pX12_restore (R : Rf) (T : Mm) (a0 : Nat) (x1 : Int32) : Option (Int32 × Mm) :=
  lt (wI T a0 0 0) (fun (T1 : Mm) => bd1 (pX12_isIn R T1 x1 0 1) (fun (u2 : Int32) => if u2 = 0 then some (0, T1) else ix x1 2 (if (T1.1 (R a0 49) x1.toNatClampNeg) = 0 then some (0, T1) else zl2 (pX12_restore_27 R a0 x1 (pX12_restore_58 R a0 x1)) FU T1 0)))
set_option maxRecDepth 100000 in
set_option maxHeartbeats 4000000 in
theorem wX12_restore_27 {X : Cx} {g : Gl} {l : Launch} {R : Rf} {a0 : Nat} {x1 : Int32} (K : Ok X g l cX12_restore RX12 3 (some .boolean) rmX12_restore) (hR : Ty g R) (k0 : kd g a0 = 12) {r : Int32 × Mm} {e58 : Mm → Option (Int32 × Mm)} (he58 : ∀ (T : Mm), e58 T = some r → Zj X g 3 (QI X g r.1 R r.2) R T [some (.ref (g.2.2.1 a0)), some (.int x1), none] [] 58) : ∀ (n : Nat) (T : Mm) (x2 : Int32), zl2 (pX12_restore_27 R a0 x1 e58) n T x2 = some r → Zj X g 3 (QI X g r.1 R r.2) R T [some (.ref (g.2.2.1 a0)), some (.int x1), some (.int x2)] [] 27 := by
  intro n
  induction n with
  | zero =>
    intro T x2 h
    exact absurd h (by simp [zl2])
  | succ n hr27 =>
    intro T x2 h
    rw [zl2_s] at h
    unfold pX12_restore_27 at h
    refine z_iload_n K dX12_restore_27 rfl ?_
    refine z_sipush K 270 dX12_restore_28 rfl ?_
    refine z_icmp_ge K 58 dX12_restore_31 (by decide) (fun c => ?_) (fun c => ?_)
    · have h := ite_t h c
      refine Zj.mask [true, true, false] ?_
      exact he58 _ h
    · have h := ite_f h c
      refine z_aload_n K dX12_restore_34 rfl ?_
      refine z_getR K clX12 k0 6 rfl rfl q1344 dX12_restore_35 ?_
      refine z_iload_n K dX12_restore_38 rfl ?_
      refine z_aload_n K dX12_restore_39 rfl ?_
      refine z_getR K clX12 k0 47 rfl rfl q1385 dX12_restore_40 ?_
      refine z_sipush K 270 dX12_restore_43 rfl ?_
      refine z_iload_n K dX12_restore_46 rfl ?_
      refine z_imul K dX12_restore_47 ?_
      refine z_iload_n K dX12_restore_48 rfl ?_
      refine z_iadd K dX12_restore_49 ?_
      obtain ⟨hi, h⟩ := ix_e h
      refine z_iald K (hR.at (k := 47) (t := 20540) k0 rfl rfl) rfl rfl rfl hi dX12_restore_50 ?_
      obtain ⟨hi, h⟩ := ix_e h
      refine z_iast K (hR.at (k := 6) (t := 20270) k0 rfl rfl) rfl rfl rfl hi dX12_restore_51 ?_
      refine z_iinc K 1 dX12_restore_52 rfl rfl rfl rfl ?_
      refine z_goto K 27 dX12_restore_55 (by decide) ?_
      refine Zj.mask [true, true, true] ?_
      exact hr27 _ _ h
set_option maxRecDepth 100000 in
set_option maxHeartbeats 4000000 in
theorem wX12_restore_60 {X : Cx} {g : Gl} {l : Launch} {R : Rf} {a0 : Nat} {x1 : Int32} (K : Ok X g l cX12_restore RX12 3 (some .boolean) rmX12_restore) (hR : Ty g R) (k0 : kd g a0 = 12) {r : Int32 × Mm} {e89 : Mm → Option (Int32 × Mm)} (he89 : ∀ (T : Mm), e89 T = some r → Zj X g 3 (QI X g r.1 R r.2) R T [some (.ref (g.2.2.1 a0)), none, none] [] 89) : ∀ (n : Nat) (T : Mm) (x2 : Int32), zl2 (pX12_restore_60 R a0 x1 e89) n T x2 = some r → Zj X g 3 (QI X g r.1 R r.2) R T [some (.ref (g.2.2.1 a0)), some (.int x1), some (.int x2)] [] 60 := by
  intro n
  induction n with
  | zero =>
    intro T x2 h
    exact absurd h (by simp [zl2])
  | succ n hr60 =>
    intro T x2 h
    rw [zl2_s] at h
    unfold pX12_restore_60 at h
    refine z_iload_n K dX12_restore_60 rfl ?_
    refine z_bipush K 15 dX12_restore_61 rfl ?_
    refine z_icmp_ge K 89 dX12_restore_63 (by decide) (fun c => ?_) (fun c => ?_)
    · have h := ite_t h c
      refine Zj.mask [true, false, false] ?_
      exact he89 _ h
    · have h := ite_f h c
      refine z_aload_n K dX12_restore_66 rfl ?_
      refine z_getR K clX12 k0 9 rfl rfl q1347 dX12_restore_67 ?_
      refine z_iload_n K dX12_restore_70 rfl ?_
      refine z_aload_n K dX12_restore_71 rfl ?_
      refine z_getR K clX12 k0 48 rfl rfl q1386 dX12_restore_72 ?_
      refine z_bipush K 15 dX12_restore_75 rfl ?_
      refine z_iload_n K dX12_restore_77 rfl ?_
      refine z_imul K dX12_restore_78 ?_
      refine z_iload_n K dX12_restore_79 rfl ?_
      refine z_iadd K dX12_restore_80 ?_
      obtain ⟨hi, h⟩ := ix_e h
      refine z_lald K (hR.at (k := 48) (t := 30030) k0 rfl rfl) rfl rfl rfl hi dX12_restore_81 ?_
      obtain ⟨hi, h⟩ := ix_e h
      refine z_last K (hR.at (k := 9) (t := 30030) k0 rfl rfl) rfl rfl rfl hi dX12_restore_82 ?_
      refine z_iinc K 1 dX12_restore_83 rfl rfl rfl rfl ?_
      refine z_goto K 60 dX12_restore_86 (by decide) ?_
      refine Zj.mask [true, true, true] ?_
      exact hr60 _ _ h
set_option maxRecDepth 100000 in
set_option maxHeartbeats 4000000 in
theorem wX12_restore_89 {X : Cx} {g : Gl} {l : Launch} {R : Rf} {a0 : Nat} {x1 : Int32} (K : Ok X g l cX12_restore RX12 3 (some .boolean) rmX12_restore) (hR : Ty g R) (k0 : kd g a0 = 12) {r : Int32 × Mm} (T : Mm) (h : pX12_restore_89 R a0 x1 T = some r) : Zj X g 3 (QI X g r.1 R r.2) R T [some (.ref (g.2.2.1 a0)), none, none] [] 89 := by
  unfold pX12_restore_89 at h
  refine z_aload_n K dX12_restore_89 rfl ?_
  refine z_iconst K 0 dX12_restore_90 rfl ?_
  refine z_putI K clX12 tyX12_ok nmX12 k0 23 rfl rfl q1361 rfl rfl rfl dX12_restore_91 ?_
  refine z_iconst K 1 dX12_restore_94 rfl ?_
  obtain rfl := Option.some.inj h
  exact z_zret (v := 1) K rfl dX12_restore_95
set_option maxRecDepth 100000 in
set_option maxHeartbeats 4000000 in
theorem wX12_restore_58 {X : Cx} {g : Gl} {l : Launch} {R : Rf} {a0 : Nat} {x1 : Int32} (K : Ok X g l cX12_restore RX12 3 (some .boolean) rmX12_restore) (hR : Ty g R) (k0 : kd g a0 = 12) {r : Int32 × Mm} (T : Mm) (h : pX12_restore_58 R a0 x1 T = some r) : Zj X g 3 (QI X g r.1 R r.2) R T [some (.ref (g.2.2.1 a0)), some (.int x1), none] [] 58 := by
  unfold pX12_restore_58 at h
  refine z_iconst K 0 dX12_restore_58 rfl ?_
  refine z_istore_n K dX12_restore_59 rfl rfl ?_
  refine Zj.mask [true, true, true] ?_
  exact wX12_restore_60 K hR k0 (wX12_restore_89 K hR k0) FU _ _ h
set_option maxRecDepth 100000 in
set_option maxHeartbeats 4000000 in
theorem mX12_restore {g : Gl} {R : Rf} {T : Mm} {a0 : Nat} {x1 : Int32} (l : Launch) (hR : Ty g R) (k0 : kd g a0 = 12) {r : Int32 × Mm} (h : pX12_restore R T a0 x1 = some r) : MI l g yX12_restore cX12_restore 3 (some .boolean) rmX12_restore [.ref (g.2.2.1 a0), .int x1] R T r.1 R r.2 := by
  refine z_metI (own := RX12) (lv := [some (.ref (g.2.2.1 a0)), some (.int x1), none]) (by decide +kernel) rfl rfl rfl (fun X K => ?_)
  unfold pX12_restore at h
  refine z_aload_n K dX12_restore_0 rfl ?_
  refine z_iconst K 0 dX12_restore_1 rfl ?_
  refine z_putI K clX12 tyX12_ok nmX12 k0 0 rfl rfl q1338 rfl rfl rfl dX12_restore_2 ?_
  refine z_iload_n K dX12_restore_5 rfl ?_
  refine z_iconst K 0 dX12_restore_6 rfl ?_
  refine z_iconst K 1 dX12_restore_7 rfl ?_
  obtain ⟨u2, hc, h⟩ := bd1_e h
  refine z_callSI K (mX12_isIn l hR hc) ceX12_isIn q1539 ⟨rfl, rfl, rfl, rfl⟩ rfl rfl rfl dX12_restore_8 ?_
  refine z_if_eq K 23 dX12_restore_11 (by decide) (fun c => ?_) (fun c => ?_)
  · have h := ite_t h c
    refine z_iconst K 0 dX12_restore_23 rfl ?_
    obtain rfl := Option.some.inj h
    exact z_zret (v := 0) K rfl dX12_restore_24
  · have h := ite_f h c
    refine z_aload_n K dX12_restore_14 rfl ?_
    refine z_getR K clX12 k0 49 rfl rfl q1387 dX12_restore_15 ?_
    refine z_iload_n K dX12_restore_18 rfl ?_
    obtain ⟨hi, h⟩ := ix_e h
    refine z_zald K (hR.at (k := 49) (t := 40002) k0 rfl rfl) rfl rfl rfl hi dX12_restore_19 ?_
    refine z_if_ne K 25 dX12_restore_20 (by decide) (fun c => ?_) (fun c => ?_)
    · have h := ite_f h c
      refine z_iconst K 0 dX12_restore_25 rfl ?_
      refine z_istore_n K dX12_restore_26 rfl rfl ?_
      refine Zj.mask [true, true, true] ?_
      exact wX12_restore_27 K hR k0 (wX12_restore_58 K hR k0) FU _ _ h
    · have h := ite_t h c
      refine z_iconst K 0 dX12_restore_23 rfl ?_
      obtain rfl := Option.some.inj h
      exact z_zret (v := 0) K rfl dX12_restore_24
/-! GoingOverModel.count (I)I -/
abbrev rmX12_count : Room := { frames := 1, cells := 0, slots := 0, locals := 22 }
def pX12_count (R : Rf) (T : Mm) (a0 : Nat) (x1 : Int32) : Option (Int32 × Mm) :=
  lt (wI T a0 0 0) (fun (T1 : Mm) => if x1 = 5 then some (T1.1 a0 2, T1) else bd1 (pX12_isIn R T1 x1 0 4) (fun (u2 : Int32) => if u2 = 0 then some ((-1), T1) else ix x1 270 (some (T1.1 (R a0 6) x1.toNatClampNeg, T1))))
set_option maxRecDepth 100000 in
set_option maxHeartbeats 4000000 in
theorem mX12_count {g : Gl} {R : Rf} {T : Mm} {a0 : Nat} {x1 : Int32} (l : Launch) (hR : Ty g R) (k0 : kd g a0 = 12) {r : Int32 × Mm} (h : pX12_count R T a0 x1 = some r) : MI l g yX12_count cX12_count 2 (some .int) rmX12_count [.ref (g.2.2.1 a0), .int x1] R T r.1 R r.2 := by
  refine z_metI (own := RX12) (lv := [some (.ref (g.2.2.1 a0)), some (.int x1)]) (by decide +kernel) rfl rfl rfl (fun X K => ?_)
  unfold pX12_count at h
  refine z_aload_n K dX12_count_0 rfl ?_
  refine z_iconst K 0 dX12_count_1 rfl ?_
  refine z_putI K clX12 tyX12_ok nmX12 k0 0 rfl rfl q1338 rfl rfl rfl dX12_count_2 ?_
  refine z_iload_n K dX12_count_5 rfl ?_
  refine z_iconst K 5 dX12_count_6 rfl ?_
  refine z_icmp_ne K 17 dX12_count_7 (by decide) (fun c => ?_) (fun c => ?_)
  · have h := ite_f h c
    refine z_iload_n K dX12_count_17 rfl ?_
    refine z_iconst K 0 dX12_count_18 rfl ?_
    refine z_iconst K 4 dX12_count_19 rfl ?_
    obtain ⟨u2, hc, h⟩ := bd1_e h
    refine z_callSI K (mX12_isIn l hR hc) ceX12_isIn q1539 ⟨rfl, rfl, rfl, rfl⟩ rfl rfl rfl dX12_count_20 ?_
    refine z_if_eq K 35 dX12_count_23 (by decide) (fun c => ?_) (fun c => ?_)
    · have h := ite_t h c
      refine z_iconst K (-1) dX12_count_35 rfl ?_
      obtain rfl := Option.some.inj h
      exact z_iret K dX12_count_36
    · have h := ite_f h c
      refine z_aload_n K dX12_count_26 rfl ?_
      refine z_getR K clX12 k0 6 rfl rfl q1344 dX12_count_27 ?_
      refine z_iload_n K dX12_count_30 rfl ?_
      obtain ⟨hi, h⟩ := ix_e h
      refine z_iald K (hR.at (k := 6) (t := 20270) k0 rfl rfl) rfl rfl rfl hi dX12_count_31 ?_
      refine z_goto K 36 dX12_count_32 (by decide) ?_
      obtain rfl := Option.some.inj h
      exact z_iret K dX12_count_36
  · have h := ite_t h c
    refine z_aload_n K dX12_count_10 rfl ?_
    refine z_getI K clX12 k0 2 rfl rfl q1340 dX12_count_11 ?_
    refine z_goto K 36 dX12_count_14 (by decide) ?_
    obtain rfl := Option.some.inj h
    exact z_iret K dX12_count_36
