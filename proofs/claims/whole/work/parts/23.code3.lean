/-! GoingOver.undo ()I -/
abbrev rmX11_undo : Room := { frames := 3, cells := 0, slots := 0, locals := 102 }
def pX11_undo (R : Rf) (T : Mm) (a0 : Nat) : Option (Int32 × Mm) :=
  bd2 (pX7_pop R T (R a0 3) (R a0 1)) (fun (u1 : Int32) (T1 : Mm) => some (u1, T1))
set_option maxRecDepth 100000 in
set_option maxHeartbeats 4000000 in
theorem mX11_undo {g : Gl} {R : Rf} {T : Mm} {a0 : Nat} (l : Launch) (hR : Ty g R) (k0 : kd g a0 = 11) {r : Int32 × Mm} (h : pX11_undo R T a0 = some r) : MI l g yX11_undo cX11_undo 1 (some .int) rmX11_undo [.ref (g.2.2.1 a0)] R T r.1 R r.2 := by
  refine z_metI (own := RX11) (lv := [some (.ref (g.2.2.1 a0))]) (by decide +kernel) rfl rfl rfl (fun X K => ?_)
  unfold pX11_undo at h
  refine z_aload_n K dX11_undo_0 rfl ?_
  refine z_getR K clX11 k0 3 rfl rfl q503 dX11_undo_1 ?_
  refine z_aload_n K dX11_undo_4 rfl ?_
  refine z_getR K clX11 k0 1 rfl rfl q501 dX11_undo_5 ?_
  obtain ⟨u1, T1, hc, h⟩ := bd2_e h
  refine z_callVI K (mX7_pop l hR (hR.at (k := 3) (t := 7) k0 rfl rfl) (hR.at (k := 1) (t := 1) k0 rfl rfl) hc) clX7 (hR.at (k := 3) (t := 7) k0 rfl rfl) ceX7_pop q871 ⟨rfl, rfl, rfl, rfl⟩ rfl rfl rfl dX11_undo_8 ?_
  obtain rfl := Option.some.inj h
  exact z_iret K dX11_undo_11
/-! GoingOver.fate (I)I -/
abbrev rmX11_fate : Room := { frames := 5, cells := 0, slots := 0, locals := 115 }
def pX11_fate (R : Rf) (T : Mm) (a0 : Nat) (x1 : Int32) : Option (Int32 × Mm) :=
  bd1 (pX3_hasPerson R T (R a0 11) x1) (fun (u1 : Int32) => if u1 = 0 then some ((-1), T) else bd2 (pX6_byFate R T (R a0 5) (R a0 11) (R a0 1) x1) (fun (u2 : Int32) (T2 : Mm) => some (u2, T2)))
set_option maxRecDepth 100000 in
set_option maxHeartbeats 4000000 in
theorem mX11_fate {g : Gl} {R : Rf} {T : Mm} {a0 : Nat} {x1 : Int32} (l : Launch) (hR : Ty g R) (k0 : kd g a0 = 11) {r : Int32 × Mm} (h : pX11_fate R T a0 x1 = some r) : MI l g yX11_fate cX11_fate 2 (some .int) rmX11_fate [.ref (g.2.2.1 a0), .int x1] R T r.1 R r.2 := by
  refine z_metI (own := RX11) (lv := [some (.ref (g.2.2.1 a0)), some (.int x1)]) (by decide +kernel) rfl rfl rfl (fun X K => ?_)
  unfold pX11_fate at h
  refine z_aload_n K dX11_fate_0 rfl ?_
  refine z_getR K clX11 k0 11 rfl rfl q511 dX11_fate_1 ?_
  refine z_iload_n K dX11_fate_4 rfl ?_
  obtain ⟨u1, hc, h⟩ := bd1_e h
  refine z_callVI K (mX3_hasPerson l hR (hR.at (k := 11) (t := 3) k0 rfl rfl) hc) clX3 (hR.at (k := 11) (t := 3) k0 rfl rfl) ceX3_hasPerson q786 ⟨rfl, rfl, rfl, rfl⟩ rfl rfl rfl dX11_fate_5 ?_
  refine z_if_eq K 30 dX11_fate_8 (by decide) (fun c => ?_) (fun c => ?_)
  · have h := ite_t h c
    refine z_iconst K (-1) dX11_fate_30 rfl ?_
    obtain rfl := Option.some.inj h
    exact z_iret K dX11_fate_31
  · have h := ite_f h c
    refine z_aload_n K dX11_fate_11 rfl ?_
    refine z_getR K clX11 k0 5 rfl rfl q505 dX11_fate_12 ?_
    refine z_aload_n K dX11_fate_15 rfl ?_
    refine z_getR K clX11 k0 11 rfl rfl q511 dX11_fate_16 ?_
    refine z_aload_n K dX11_fate_19 rfl ?_
    refine z_getR K clX11 k0 1 rfl rfl q501 dX11_fate_20 ?_
    refine z_iload_n K dX11_fate_23 rfl ?_
    obtain ⟨u2, T2, hc, h⟩ := bd2_e h
    refine z_callVI K (mX6_byFate l hR (hR.at (k := 5) (t := 6) k0 rfl rfl) (hR.at (k := 11) (t := 3) k0 rfl rfl) (hR.at (k := 1) (t := 1) k0 rfl rfl) hc) clX6 (hR.at (k := 5) (t := 6) k0 rfl rfl) ceX6_byFate q879 ⟨rfl, rfl, rfl, rfl⟩ rfl rfl rfl dX11_fate_24 ?_
    refine z_goto K 31 dX11_fate_27 (by decide) ?_
    obtain rfl := Option.some.inj h
    exact z_iret K dX11_fate_31
/-! GoingOver.canStillDrop (I)Z -/
abbrev rmX11_canStillDrop : Room := { frames := 1, cells := 0, slots := 0, locals := 21 }
def pX11_canStillDrop (R : Rf) (T : Mm) (a0 : Nat) (x1 : Int32) : Option (Int32) :=
  bd1 (pX3_hasPerson R T (R a0 11) x1) (fun (u1 : Int32) => if u1 = 0 then some 0 else ix x1 5 (if 1 < (T.1 (R (R a0 1) 4) x1.toNatClampNeg) then some 0 else some 1))
set_option maxRecDepth 100000 in
set_option maxHeartbeats 4000000 in
theorem mX11_canStillDrop {g : Gl} {R : Rf} {T : Mm} {a0 : Nat} {x1 : Int32} (l : Launch) (hR : Ty g R) (k0 : kd g a0 = 11) {r : Int32} (h : pX11_canStillDrop R T a0 x1 = some r) : MI l g yX11_canStillDrop cX11_canStillDrop 2 (some .boolean) rmX11_canStillDrop [.ref (g.2.2.1 a0), .int x1] R T r R T := by
  refine z_metI (own := RX11) (lv := [some (.ref (g.2.2.1 a0)), some (.int x1)]) (by decide +kernel) rfl rfl rfl (fun X K => ?_)
  unfold pX11_canStillDrop at h
  refine z_aload_n K dX11_canStillDrop_0 rfl ?_
  refine z_getR K clX11 k0 11 rfl rfl q511 dX11_canStillDrop_1 ?_
  refine z_iload_n K dX11_canStillDrop_4 rfl ?_
  obtain ⟨u1, hc, h⟩ := bd1_e h
  refine z_callVI K (mX3_hasPerson l hR (hR.at (k := 11) (t := 3) k0 rfl rfl) hc) clX3 (hR.at (k := 11) (t := 3) k0 rfl rfl) ceX3_hasPerson q786 ⟨rfl, rfl, rfl, rfl⟩ rfl rfl rfl dX11_canStillDrop_5 ?_
  refine z_if_eq K 28 dX11_canStillDrop_8 (by decide) (fun c => ?_) (fun c => ?_)
  · have h := ite_t h c
    refine z_iconst K 0 dX11_canStillDrop_28 rfl ?_
    obtain rfl := Option.some.inj h
    exact z_zret (v := 0) K rfl dX11_canStillDrop_29
  · have h := ite_f h c
    refine z_aload_n K dX11_canStillDrop_11 rfl ?_
    refine z_getR K clX11 k0 1 rfl rfl q501 dX11_canStillDrop_12 ?_
    refine z_getR K clX1 (hR.at (k := 1) (t := 1) k0 rfl rfl) 4 rfl rfl q347 dX11_canStillDrop_15 ?_
    refine z_iload_n K dX11_canStillDrop_18 rfl ?_
    obtain ⟨hi, h⟩ := ix_e h
    refine z_iald K (hR.at (k := 4) (t := 20005) (hR.at (k := 1) (t := 1) k0 rfl rfl) rfl rfl) rfl rfl rfl hi dX11_canStillDrop_19 ?_
    refine z_iconst K 1 dX11_canStillDrop_20 rfl ?_
    refine z_icmp_gt K 28 dX11_canStillDrop_21 (by decide) (fun c => ?_) (fun c => ?_)
    · have h := ite_t h c
      refine z_iconst K 0 dX11_canStillDrop_28 rfl ?_
      obtain rfl := Option.some.inj h
      exact z_zret (v := 0) K rfl dX11_canStillDrop_29
    · have h := ite_f h c
      refine z_iconst K 1 dX11_canStillDrop_24 rfl ?_
      refine z_goto K 29 dX11_canStillDrop_25 (by decide) ?_
      obtain rfl := Option.some.inj h
      exact z_zret (v := 1) K rfl dX11_canStillDrop_29
/-! GoingOver.straw (I)I -/
abbrev rmX11_straw : Room := { frames := 2, cells := 0, slots := 0, locals := 50 }
def pX11_straw_29 (R : Rf) (a0 : Nat) (x1 : Int32) (e87 : Mm → Int32 → Option (Int32 × Mm)) (e95 : Mm → Option (Int32 × Mm)) (r29 : Mm → Int32 → Int32 → Option (Int32 × Mm)) (T : Mm) (x2 : Int32) (x3 : Int32) : Option (Int32 × Mm) :=
  if (T.1 (R a0 11) 3) ≤ x3 then e95 T else bd1 (pX3_joinsHolding R T (R a0 11) x1 (T.1 (R a0 1) 2) ((T.1 (R a0 11) 3) - x3)) (fun (u4 : Int32) => bd1 (pX6_hold R T (R a0 5) (R a0 11) u4) (fun (T5 : Mm) => bd1 (pX6_number R T5 (R a0 5) x2) (fun (u6 : Int32) => if u6 = 1 then e87 T5 x3 else lt (x3 + 1) (fun (v7 : Int32) => r29 T5 x2 v7))))
def pX11_straw_87 (R : Rf) (a0 : Nat) (x1 : Int32) (T : Mm) (x3 : Int32) : Option (Int32 × Mm) :=
  some (x3, T)
def pX11_straw_95 (R : Rf) (a0 : Nat) (x1 : Int32) (T : Mm) : Option (Int32 × Mm) :=
  some ((-1), T)
def pX11_straw (R : Rf) (T : Mm) (a0 : Nat) (x1 : Int32) : Option (Int32 × Mm) :=
  bd1 (pX11_canStillDrop R T a0 x1) (fun (u1 : Int32) => if u1 = 0 then some ((-1), T) else bd1 (pX3_itemsOf R T (R a0 11) x1) (fun (u2 : Int32) => lt ((T.1 (R a0 1) 1) &&& u2) (fun (v3 : Int32) => zl3 (pX11_straw_29 R a0 x1 (pX11_straw_87 R a0 x1) (pX11_straw_95 R a0 x1)) FU T v3 0)))
set_option maxRecDepth 100000 in
set_option maxHeartbeats 4000000 in
theorem wX11_straw_29 {X : Cx} {g : Gl} {l : Launch} {R : Rf} {a0 : Nat} {x1 : Int32} (K : Ok X g l cX11_straw RX11 4 (some .int) rmX11_straw) (hR : Ty g R) (k0 : kd g a0 = 11) {r : Int32 × Mm} {e87 : Mm → Int32 → Option (Int32 × Mm)} (he87 : ∀ (T : Mm) (x3 : Int32), e87 T x3 = some r → Zj X g 4 (QI X g r.1 R r.2) R T [none, none, none, some (.int x3)] [] 87) {e95 : Mm → Option (Int32 × Mm)} (he95 : ∀ (T : Mm), e95 T = some r → Zj X g 4 (QI X g r.1 R r.2) R T [none, none, none, none] [] 95) : ∀ (n : Nat) (T : Mm) (x2 : Int32) (x3 : Int32), zl3 (pX11_straw_29 R a0 x1 e87 e95) n T x2 x3 = some r → Zj X g 4 (QI X g r.1 R r.2) R T [some (.ref (g.2.2.1 a0)), some (.int x1), some (.int x2), some (.int x3)] [] 29 := by
  intro n
  induction n with
  | zero =>
    intro T x2 x3 h
    exact absurd h (by simp [zl3])
  | succ n hr29 =>
    intro T x2 x3 h
    rw [zl3_s] at h
    unfold pX11_straw_29 at h
    refine z_iload_n K dX11_straw_29 rfl ?_
    refine z_aload_n K dX11_straw_30 rfl ?_
    refine z_getR K clX11 k0 11 rfl rfl q511 dX11_straw_31 ?_
    refine z_getI K clX3 (hR.at (k := 11) (t := 3) k0 rfl rfl) 3 rfl rfl q263 dX11_straw_34 ?_
    refine z_icmp_ge K 95 dX11_straw_37 (by decide) (fun c => ?_) (fun c => ?_)
    · have h := ite_t h c
      refine Zj.mask [false, false, false, false] ?_
      exact he95 _ h
    · have h := ite_f h c
      refine z_aload_n K dX11_straw_40 rfl ?_
      refine z_getR K clX11 k0 5 rfl rfl q505 dX11_straw_41 ?_
      refine z_aload_n K dX11_straw_44 rfl ?_
      refine z_getR K clX11 k0 11 rfl rfl q511 dX11_straw_45 ?_
      refine z_aload_n K dX11_straw_48 rfl ?_
      refine z_getR K clX11 k0 11 rfl rfl q511 dX11_straw_49 ?_
      refine z_iload_n K dX11_straw_52 rfl ?_
      refine z_aload_n K dX11_straw_53 rfl ?_
      refine z_getR K clX11 k0 1 rfl rfl q501 dX11_straw_54 ?_
      refine z_getI K clX1 (hR.at (k := 1) (t := 1) k0 rfl rfl) 2 rfl rfl q343 dX11_straw_57 ?_
      refine z_aload_n K dX11_straw_60 rfl ?_
      refine z_getR K clX11 k0 11 rfl rfl q511 dX11_straw_61 ?_
      refine z_getI K clX3 (hR.at (k := 11) (t := 3) k0 rfl rfl) 3 rfl rfl q263 dX11_straw_64 ?_
      refine z_iload_n K dX11_straw_67 rfl ?_
      refine z_isub K dX11_straw_68 ?_
      obtain ⟨u4, hc, h⟩ := bd1_e h
      refine z_callVI K (mX3_joinsHolding l hR (hR.at (k := 11) (t := 3) k0 rfl rfl) hc) clX3 (hR.at (k := 11) (t := 3) k0 rfl rfl) ceX3_joinsHolding q739 ⟨rfl, rfl, rfl, rfl⟩ rfl rfl rfl dX11_straw_69 ?_
      obtain ⟨T5, hc, h⟩ := bd1_e h
      refine z_callVV K (mX6_hold l hR (hR.at (k := 5) (t := 6) k0 rfl rfl) (hR.at (k := 11) (t := 3) k0 rfl rfl) hc) clX6 (hR.at (k := 5) (t := 6) k0 rfl rfl) ceX6_hold q747 ⟨rfl, rfl, rfl, rfl⟩ rfl rfl rfl dX11_straw_72 ?_
      refine z_aload_n K dX11_straw_75 rfl ?_
      refine z_getR K clX11 k0 5 rfl rfl q505 dX11_straw_76 ?_
      refine z_iload_n K dX11_straw_79 rfl ?_
      obtain ⟨u6, hc, h⟩ := bd1_e h
      refine z_callVI K (mX6_number l hR (hR.at (k := 5) (t := 6) k0 rfl rfl) hc) clX6 (hR.at (k := 5) (t := 6) k0 rfl rfl) ceX6_number q911 ⟨rfl, rfl, rfl, rfl⟩ rfl rfl rfl dX11_straw_80 ?_
      refine z_iconst K 1 dX11_straw_83 rfl ?_
      refine z_icmp_ne K 89 dX11_straw_84 (by decide) (fun c => ?_) (fun c => ?_)
      · have h := ite_f h c
        refine z_iinc K 1 dX11_straw_89 rfl rfl rfl rfl ?_
        refine z_goto K 29 dX11_straw_92 (by decide) ?_
        refine Zj.mask [true, true, true, true] ?_
        exact hr29 _ _ _ h
      · have h := ite_t h c
        refine Zj.mask [false, false, false, true] ?_
        exact he87 _ _ h
set_option maxRecDepth 100000 in
set_option maxHeartbeats 4000000 in
theorem wX11_straw_87 {X : Cx} {g : Gl} {l : Launch} {R : Rf} {a0 : Nat} {x1 : Int32} (K : Ok X g l cX11_straw RX11 4 (some .int) rmX11_straw) (hR : Ty g R) (k0 : kd g a0 = 11) {r : Int32 × Mm} (T : Mm) (x3 : Int32) (h : pX11_straw_87 R a0 x1 T x3 = some r) : Zj X g 4 (QI X g r.1 R r.2) R T [none, none, none, some (.int x3)] [] 87 := by
  unfold pX11_straw_87 at h
  refine z_iload_n K dX11_straw_87 rfl ?_
  obtain rfl := Option.some.inj h
  exact z_iret K dX11_straw_88
set_option maxRecDepth 100000 in
set_option maxHeartbeats 4000000 in
theorem wX11_straw_95 {X : Cx} {g : Gl} {l : Launch} {R : Rf} {a0 : Nat} {x1 : Int32} (K : Ok X g l cX11_straw RX11 4 (some .int) rmX11_straw) (hR : Ty g R) (k0 : kd g a0 = 11) {r : Int32 × Mm} (T : Mm) (h : pX11_straw_95 R a0 x1 T = some r) : Zj X g 4 (QI X g r.1 R r.2) R T [none, none, none, none] [] 95 := by
  unfold pX11_straw_95 at h
  refine z_iconst K (-1) dX11_straw_95 rfl ?_
  obtain rfl := Option.some.inj h
  exact z_iret K dX11_straw_96
set_option maxRecDepth 100000 in
set_option maxHeartbeats 4000000 in
theorem mX11_straw {g : Gl} {R : Rf} {T : Mm} {a0 : Nat} {x1 : Int32} (l : Launch) (hR : Ty g R) (k0 : kd g a0 = 11) {r : Int32 × Mm} (h : pX11_straw R T a0 x1 = some r) : MI l g yX11_straw cX11_straw 4 (some .int) rmX11_straw [.ref (g.2.2.1 a0), .int x1] R T r.1 R r.2 := by
  refine z_metI (own := RX11) (lv := [some (.ref (g.2.2.1 a0)), some (.int x1), none, none]) (by decide +kernel) rfl rfl rfl (fun X K => ?_)
  unfold pX11_straw at h
  refine z_aload_n K dX11_straw_0 rfl ?_
  refine z_iload_n K dX11_straw_1 rfl ?_
  obtain ⟨u1, hc, h⟩ := bd1_e h
  refine z_callVI K (mX11_canStillDrop l hR k0 hc) clX11 k0 ceX11_canStillDrop q906 ⟨rfl, rfl, rfl, rfl⟩ rfl rfl rfl dX11_straw_2 ?_
  refine z_if_ne K 10 dX11_straw_5 (by decide) (fun c => ?_) (fun c => ?_)
  · have h := ite_f h c
    refine z_aload_n K dX11_straw_10 rfl ?_
    refine z_getR K clX11 k0 1 rfl rfl q501 dX11_straw_11 ?_
    refine z_getI K clX1 (hR.at (k := 1) (t := 1) k0 rfl rfl) 1 rfl rfl q339 dX11_straw_14 ?_
    refine z_aload_n K dX11_straw_17 rfl ?_
    refine z_getR K clX11 k0 11 rfl rfl q511 dX11_straw_18 ?_
    refine z_iload_n K dX11_straw_21 rfl ?_
    obtain ⟨u2, hc, h⟩ := bd1_e h
    refine z_callVI K (mX3_itemsOf l hR (hR.at (k := 11) (t := 3) k0 rfl rfl) hc) clX3 (hR.at (k := 11) (t := 3) k0 rfl rfl) ceX3_itemsOf q910 ⟨rfl, rfl, rfl, rfl⟩ rfl rfl rfl dX11_straw_22 ?_
    refine z_iand K dX11_straw_25 ?_
    refine z_istore_n K dX11_straw_26 rfl rfl ?_
    refine z_iconst K 0 dX11_straw_27 rfl ?_
    refine z_istore_n K dX11_straw_28 rfl rfl ?_
    refine Zj.mask [true, true, true, true] ?_
    exact wX11_straw_29 K hR k0 (wX11_straw_87 K hR k0) (wX11_straw_95 K hR k0) FU _ _ _ h
  · have h := ite_t h c
    refine z_iconst K (-1) dX11_straw_8 rfl ?_
    obtain rfl := Option.some.inj h
    exact z_iret K dX11_straw_9
/-! GoingOver.lighten (I)I -/
abbrev rmX11_lighten : Room := { frames := 2, cells := 0, slots := 0, locals := 52 }
def pX11_lighten (R : Rf) (T : Mm) (a0 : Nat) (x1 : Int32) : Option (Int32 × Mm) :=
  bd1 (pX11_canStillDrop R T a0 x1) (fun (u1 : Int32) => if u1 = 0 then some ((-1), T) else bd1 (pX3_flowOn R T (R a0 11) (T.1 (R a0 1) 0)) (fun (u2 : Int32) => bd1 (pX3_itemsOf R T (R a0 11) x1) (fun (u3 : Int32) => bd1 (pX3_fewestOut R T (R a0 11) ((T.1 (R a0 1) 1) &&& u3) u2) (fun (u4 : Int32) => lt (wI T a0 16 u4) (fun (T5 : Mm) => bd1 (pJ6_bitCount_0f7a4 R T5 (T5.1 a0 16)) (fun (u6 : Int32) => some (u6, T5)))))))
set_option maxRecDepth 100000 in
set_option maxHeartbeats 4000000 in
theorem mX11_lighten {g : Gl} {R : Rf} {T : Mm} {a0 : Nat} {x1 : Int32} (l : Launch) (hR : Ty g R) (k0 : kd g a0 = 11) {r : Int32 × Mm} (h : pX11_lighten R T a0 x1 = some r) : MI l g yX11_lighten cX11_lighten 3 (some .int) rmX11_lighten [.ref (g.2.2.1 a0), .int x1] R T r.1 R r.2 := by
  refine z_metI (own := RX11) (lv := [some (.ref (g.2.2.1 a0)), some (.int x1), none]) (by decide +kernel) rfl rfl rfl (fun X K => ?_)
  unfold pX11_lighten at h
  refine z_aload_n K dX11_lighten_0 rfl ?_
  refine z_iload_n K dX11_lighten_1 rfl ?_
  obtain ⟨u1, hc, h⟩ := bd1_e h
  refine z_callVI K (mX11_canStillDrop l hR k0 hc) clX11 k0 ceX11_canStillDrop q906 ⟨rfl, rfl, rfl, rfl⟩ rfl rfl rfl dX11_lighten_2 ?_
  refine z_if_ne K 10 dX11_lighten_5 (by decide) (fun c => ?_) (fun c => ?_)
  · have h := ite_f h c
    refine z_aload_n K dX11_lighten_10 rfl ?_
    refine z_getR K clX11 k0 11 rfl rfl q511 dX11_lighten_11 ?_
    refine z_aload_n K dX11_lighten_14 rfl ?_
    refine z_getR K clX11 k0 1 rfl rfl q501 dX11_lighten_15 ?_
    refine z_getI K clX1 (hR.at (k := 1) (t := 1) k0 rfl rfl) 0 rfl rfl q335 dX11_lighten_18 ?_
    obtain ⟨u2, hc, h⟩ := bd1_e h
    refine z_callVI K (mX3_flowOn l hR (hR.at (k := 11) (t := 3) k0 rfl rfl) hc) clX3 (hR.at (k := 11) (t := 3) k0 rfl rfl) ceX3_flowOn q774 ⟨rfl, rfl, rfl, rfl⟩ rfl rfl rfl dX11_lighten_21 ?_
    refine z_istore_n K dX11_lighten_24 rfl rfl ?_
    refine z_aload_n K dX11_lighten_25 rfl ?_
    refine z_aload_n K dX11_lighten_26 rfl ?_
    refine z_getR K clX11 k0 11 rfl rfl q511 dX11_lighten_27 ?_
    refine z_aload_n K dX11_lighten_30 rfl ?_
    refine z_getR K clX11 k0 1 rfl rfl q501 dX11_lighten_31 ?_
    refine z_getI K clX1 (hR.at (k := 1) (t := 1) k0 rfl rfl) 1 rfl rfl q339 dX11_lighten_34 ?_
    refine z_aload_n K dX11_lighten_37 rfl ?_
    refine z_getR K clX11 k0 11 rfl rfl q511 dX11_lighten_38 ?_
    refine z_iload_n K dX11_lighten_41 rfl ?_
    obtain ⟨u3, hc, h⟩ := bd1_e h
    refine z_callVI K (mX3_itemsOf l hR (hR.at (k := 11) (t := 3) k0 rfl rfl) hc) clX3 (hR.at (k := 11) (t := 3) k0 rfl rfl) ceX3_itemsOf q910 ⟨rfl, rfl, rfl, rfl⟩ rfl rfl rfl dX11_lighten_42 ?_
    refine z_iand K dX11_lighten_45 ?_
    refine z_iload_n K dX11_lighten_46 rfl ?_
    obtain ⟨u4, hc, h⟩ := bd1_e h
    refine z_callVI K (mX3_fewestOut l hR (hR.at (k := 11) (t := 3) k0 rfl rfl) hc) clX3 (hR.at (k := 11) (t := 3) k0 rfl rfl) ceX3_fewestOut q916 ⟨rfl, rfl, rfl, rfl⟩ rfl rfl rfl dX11_lighten_47 ?_
    refine z_putI K clX11 tyX11_ok nmX11 k0 16 rfl rfl q516 rfl rfl rfl dX11_lighten_50 ?_
    refine z_aload_n K dX11_lighten_53 rfl ?_
    refine z_getI K clX11 k0 16 rfl rfl q516 dX11_lighten_54 ?_
    obtain ⟨u6, hc, h⟩ := bd1_e h
    refine z_callSI K (mJ6_bitCount_0f7a4 l hR hc) ceJ6_bitCount_0f7a4 q930 ⟨rfl, rfl, rfl, rfl⟩ rfl rfl rfl dX11_lighten_57 ?_
    obtain rfl := Option.some.inj h
    exact z_iret K dX11_lighten_60
  · have h := ite_t h c
    refine z_iconst K (-1) dX11_lighten_8 rfl ?_
    obtain rfl := Option.some.inj h
    exact z_iret K dX11_lighten_9
/-! GoingOver.lightened ()I -/
abbrev rmX11_lightened : Room := { frames := 0, cells := 0, slots := 0, locals := 0 }
def pX11_lightened (R : Rf) (T : Mm) (a0 : Nat) : Option (Int32) :=
  some (T.1 a0 16)
set_option maxRecDepth 100000 in
set_option maxHeartbeats 4000000 in
theorem mX11_lightened {g : Gl} {R : Rf} {T : Mm} {a0 : Nat} (l : Launch) (hR : Ty g R) (k0 : kd g a0 = 11) {r : Int32} (h : pX11_lightened R T a0 = some r) : MI l g yX11_lightened cX11_lightened 1 (some .int) rmX11_lightened [.ref (g.2.2.1 a0)] R T r R T := by
  refine z_metI (own := RX11) (lv := [some (.ref (g.2.2.1 a0))]) (by decide +kernel) rfl rfl rfl (fun X K => ?_)
  unfold pX11_lightened at h
  refine z_aload_n K dX11_lightened_0 rfl ?_
  refine z_getI K clX11 k0 16 rfl rfl q516 dX11_lightened_1 ?_
  obtain rfl := Option.some.inj h
  exact z_iret K dX11_lightened_4
/-! GoingOver.keep (I)I -/
abbrev rmX11_keep : Room := { frames := 4, cells := 0, slots := 0, locals := 92 }
def pX11_keep (R : Rf) (T : Mm) (a0 : Nat) (x1 : Int32) : Option (Int32 × Mm) :=
  bd1 (pX11_canStillDrop R T a0 x1) (fun (u1 : Int32) => if u1 = 0 then some ((-1), T) else bd1 (pX3_itemsOf R T (R a0 11) x1) (fun (u2 : Int32) => lt ((T.1 (R a0 1) 1) &&& u2) (fun (v3 : Int32) => bd1 (pX6_holdByFate R T (R a0 5) (R a0 11) (R a0 1) x1) (fun (T4 : Mm) => bd1 (pX3_flowOn R T4 (R a0 11) (T4.1 (R a0 1) 0)) (fun (u5 : Int32) => bd1 (pX6_heaviestWhole R T4 (R a0 5) (R a0 11) v3 u5) (fun (u6 : Int32) => lt (wI T4 a0 17 u6) (fun (T7 : Mm) => bd1 (pX3_weightOf R T7 (R a0 11) (T7.1 a0 17)) (fun (u8 : Int32) => some (u8, T7)))))))))
set_option maxRecDepth 100000 in
set_option maxHeartbeats 4000000 in
theorem mX11_keep {g : Gl} {R : Rf} {T : Mm} {a0 : Nat} {x1 : Int32} (l : Launch) (hR : Ty g R) (k0 : kd g a0 = 11) {r : Int32 × Mm} (h : pX11_keep R T a0 x1 = some r) : MI l g yX11_keep cX11_keep 3 (some .int) rmX11_keep [.ref (g.2.2.1 a0), .int x1] R T r.1 R r.2 := by
  refine z_metI (own := RX11) (lv := [some (.ref (g.2.2.1 a0)), some (.int x1), none]) (by decide +kernel) rfl rfl rfl (fun X K => ?_)
  unfold pX11_keep at h
  refine z_aload_n K dX11_keep_0 rfl ?_
  refine z_iload_n K dX11_keep_1 rfl ?_
  obtain ⟨u1, hc, h⟩ := bd1_e h
  refine z_callVI K (mX11_canStillDrop l hR k0 hc) clX11 k0 ceX11_canStillDrop q906 ⟨rfl, rfl, rfl, rfl⟩ rfl rfl rfl dX11_keep_2 ?_
  refine z_if_ne K 10 dX11_keep_5 (by decide) (fun c => ?_) (fun c => ?_)
  · have h := ite_f h c
    refine z_aload_n K dX11_keep_10 rfl ?_
    refine z_getR K clX11 k0 1 rfl rfl q501 dX11_keep_11 ?_
    refine z_getI K clX1 (hR.at (k := 1) (t := 1) k0 rfl rfl) 1 rfl rfl q339 dX11_keep_14 ?_
    refine z_aload_n K dX11_keep_17 rfl ?_
    refine z_getR K clX11 k0 11 rfl rfl q511 dX11_keep_18 ?_
    refine z_iload_n K dX11_keep_21 rfl ?_
    obtain ⟨u2, hc, h⟩ := bd1_e h
    refine z_callVI K (mX3_itemsOf l hR (hR.at (k := 11) (t := 3) k0 rfl rfl) hc) clX3 (hR.at (k := 11) (t := 3) k0 rfl rfl) ceX3_itemsOf q910 ⟨rfl, rfl, rfl, rfl⟩ rfl rfl rfl dX11_keep_22 ?_
    refine z_iand K dX11_keep_25 ?_
    refine z_istore_n K dX11_keep_26 rfl rfl ?_
    refine z_aload_n K dX11_keep_27 rfl ?_
    refine z_getR K clX11 k0 5 rfl rfl q505 dX11_keep_28 ?_
    refine z_aload_n K dX11_keep_31 rfl ?_
    refine z_getR K clX11 k0 11 rfl rfl q511 dX11_keep_32 ?_
    refine z_aload_n K dX11_keep_35 rfl ?_
    refine z_getR K clX11 k0 1 rfl rfl q501 dX11_keep_36 ?_
    refine z_iload_n K dX11_keep_39 rfl ?_
    obtain ⟨T4, hc, h⟩ := bd1_e h
    refine z_callVV K (mX6_holdByFate l hR (hR.at (k := 5) (t := 6) k0 rfl rfl) (hR.at (k := 11) (t := 3) k0 rfl rfl) (hR.at (k := 1) (t := 1) k0 rfl rfl) hc) clX6 (hR.at (k := 5) (t := 6) k0 rfl rfl) ceX6_holdByFate q939 ⟨rfl, rfl, rfl, rfl⟩ rfl rfl rfl dX11_keep_40 ?_
    refine z_aload_n K dX11_keep_43 rfl ?_
    refine z_aload_n K dX11_keep_44 rfl ?_
    refine z_getR K clX11 k0 5 rfl rfl q505 dX11_keep_45 ?_
    refine z_aload_n K dX11_keep_48 rfl ?_
    refine z_getR K clX11 k0 11 rfl rfl q511 dX11_keep_49 ?_
    refine z_iload_n K dX11_keep_52 rfl ?_
    refine z_aload_n K dX11_keep_53 rfl ?_
    refine z_getR K clX11 k0 11 rfl rfl q511 dX11_keep_54 ?_
    refine z_aload_n K dX11_keep_57 rfl ?_
    refine z_getR K clX11 k0 1 rfl rfl q501 dX11_keep_58 ?_
    refine z_getI K clX1 (hR.at (k := 1) (t := 1) k0 rfl rfl) 0 rfl rfl q335 dX11_keep_61 ?_
    obtain ⟨u5, hc, h⟩ := bd1_e h
    refine z_callVI K (mX3_flowOn l hR (hR.at (k := 11) (t := 3) k0 rfl rfl) hc) clX3 (hR.at (k := 11) (t := 3) k0 rfl rfl) ceX3_flowOn q774 ⟨rfl, rfl, rfl, rfl⟩ rfl rfl rfl dX11_keep_64 ?_
    obtain ⟨u6, hc, h⟩ := bd1_e h
    refine z_callVI K (mX6_heaviestWhole l hR (hR.at (k := 5) (t := 6) k0 rfl rfl) (hR.at (k := 11) (t := 3) k0 rfl rfl) hc) clX6 (hR.at (k := 5) (t := 6) k0 rfl rfl) ceX6_heaviestWhole q940 ⟨rfl, rfl, rfl, rfl⟩ rfl rfl rfl dX11_keep_67 ?_
    refine z_putI K clX11 tyX11_ok nmX11 k0 17 rfl rfl q517 rfl rfl rfl dX11_keep_70 ?_
    refine z_aload_n K dX11_keep_73 rfl ?_
    refine z_getR K clX11 k0 11 rfl rfl q511 dX11_keep_74 ?_
    refine z_aload_n K dX11_keep_77 rfl ?_
    refine z_getI K clX11 k0 17 rfl rfl q517 dX11_keep_78 ?_
    obtain ⟨u8, hc, h⟩ := bd1_e h
    refine z_callVI K (mX3_weightOf l hR (hR.at (k := 11) (t := 3) k0 rfl rfl) hc) clX3 (hR.at (k := 11) (t := 3) k0 rfl rfl) ceX3_weightOf q946 ⟨rfl, rfl, rfl, rfl⟩ rfl rfl rfl dX11_keep_81 ?_
    obtain rfl := Option.some.inj h
    exact z_iret K dX11_keep_84
  · have h := ite_t h c
    refine z_iconst K (-1) dX11_keep_8 rfl ?_
    obtain rfl := Option.some.inj h
    exact z_iret K dX11_keep_9
/-! GoingOver.keeps ()I -/
abbrev rmX11_keeps : Room := { frames := 0, cells := 0, slots := 0, locals := 0 }
def pX11_keeps (R : Rf) (T : Mm) (a0 : Nat) : Option (Int32) :=
  some (T.1 a0 17)
set_option maxRecDepth 100000 in
set_option maxHeartbeats 4000000 in
theorem mX11_keeps {g : Gl} {R : Rf} {T : Mm} {a0 : Nat} (l : Launch) (hR : Ty g R) (k0 : kd g a0 = 11) {r : Int32} (h : pX11_keeps R T a0 = some r) : MI l g yX11_keeps cX11_keeps 1 (some .int) rmX11_keeps [.ref (g.2.2.1 a0)] R T r R T := by
  refine z_metI (own := RX11) (lv := [some (.ref (g.2.2.1 a0))]) (by decide +kernel) rfl rfl rfl (fun X K => ?_)
  unfold pX11_keeps at h
  refine z_aload_n K dX11_keeps_0 rfl ?_
  refine z_getI K clX11 k0 17 rfl rfl q517 dX11_keeps_1 ?_
  obtain rfl := Option.some.inj h
  exact z_iret K dX11_keeps_4
/-! GoingOver.apart (II)I -/
abbrev rmX11_apart : Room := { frames := 4, cells := 0, slots := 0, locals := 92 }
def pX11_apart (R : Rf) (T : Mm) (a0 : Nat) (x1 : Int32) (x2 : Int32) : Option (Int32 × Mm) :=
  bd1 (pX3_hasItem R T (R a0 11) x1) (fun (u1 : Int32) => if u1 = 0 then some ((-1), T) else bd1 (pX3_hasItem R T (R a0 11) x2) (fun (u2 : Int32) => if u2 = 0 then some ((-1), T) else if x1 = x2 then some ((-1), T) else ix x1 10 (lt (T.1 (R (R a0 11) 8) x1.toNatClampNeg) (fun (v3 : Int32) => ix x2 10 (if (T.1 (R (R a0 11) 8) x2.toNatClampNeg) = v3 then bd1 (pX1_hasInside R T (R a0 1) x1) (fun (u4 : Int32) => if u4 = 0 then some ((-1), T) else bd1 (pX1_hasInside R T (R a0 1) x2) (fun (u5 : Int32) => if u5 = 0 then some ((-1), T) else bd1 (pX6_holdByFate R T (R a0 5) (R a0 11) (R a0 1) v3) (fun (T6 : Mm) => bd1 (pX6_around R T6 (R a0 5) x1 (T6.1 (R a0 1) 1)) (fun (u7 : Int32) => if ((u7 >>> (x2 &&& 31)) &&& 1) = 0 then some (1, T6) else some (0, T6))))) else some ((-1), T))))))
set_option maxRecDepth 100000 in
set_option maxHeartbeats 4000000 in
theorem mX11_apart {g : Gl} {R : Rf} {T : Mm} {a0 : Nat} {x1 : Int32} {x2 : Int32} (l : Launch) (hR : Ty g R) (k0 : kd g a0 = 11) {r : Int32 × Mm} (h : pX11_apart R T a0 x1 x2 = some r) : MI l g yX11_apart cX11_apart 4 (some .int) rmX11_apart [.ref (g.2.2.1 a0), .int x1, .int x2] R T r.1 R r.2 := by
  refine z_metI (own := RX11) (lv := [some (.ref (g.2.2.1 a0)), some (.int x1), some (.int x2), none]) (by decide +kernel) rfl rfl rfl (fun X K => ?_)
  unfold pX11_apart at h
  refine z_aload_n K dX11_apart_0 rfl ?_
  refine z_getR K clX11 k0 11 rfl rfl q511 dX11_apart_1 ?_
  refine z_iload_n K dX11_apart_4 rfl ?_
  obtain ⟨u1, hc, h⟩ := bd1_e h
  refine z_callVI K (mX3_hasItem l hR (hR.at (k := 11) (t := 3) k0 rfl rfl) hc) clX3 (hR.at (k := 11) (t := 3) k0 rfl rfl) ceX3_hasItem q730 ⟨rfl, rfl, rfl, rfl⟩ rfl rfl rfl dX11_apart_5 ?_
  refine z_if_eq K 27 dX11_apart_8 (by decide) (fun c => ?_) (fun c => ?_)
  · have h := ite_t h c
    refine z_iconst K (-1) dX11_apart_27 rfl ?_
    obtain rfl := Option.some.inj h
    exact z_iret K dX11_apart_28
  · have h := ite_f h c
    refine z_aload_n K dX11_apart_11 rfl ?_
    refine z_getR K clX11 k0 11 rfl rfl q511 dX11_apart_12 ?_
    refine z_iload_n K dX11_apart_15 rfl ?_
    obtain ⟨u2, hc, h⟩ := bd1_e h
    refine z_callVI K (mX3_hasItem l hR (hR.at (k := 11) (t := 3) k0 rfl rfl) hc) clX3 (hR.at (k := 11) (t := 3) k0 rfl rfl) ceX3_hasItem q730 ⟨rfl, rfl, rfl, rfl⟩ rfl rfl rfl dX11_apart_16 ?_
    refine z_if_eq K 27 dX11_apart_19 (by decide) (fun c => ?_) (fun c => ?_)
    · have h := ite_t h c
      refine z_iconst K (-1) dX11_apart_27 rfl ?_
      obtain rfl := Option.some.inj h
      exact z_iret K dX11_apart_28
    · have h := ite_f h c
      refine z_iload_n K dX11_apart_22 rfl ?_
      refine z_iload_n K dX11_apart_23 rfl ?_
      refine z_icmp_ne K 29 dX11_apart_24 (by decide) (fun c => ?_) (fun c => ?_)
      · have h := ite_f h c
        refine z_aload_n K dX11_apart_29 rfl ?_
        refine z_getR K clX11 k0 11 rfl rfl q511 dX11_apart_30 ?_
        refine z_getR K clX3 (hR.at (k := 11) (t := 3) k0 rfl rfl) 8 rfl rfl q275 dX11_apart_33 ?_
        refine z_iload_n K dX11_apart_36 rfl ?_
        obtain ⟨hi, h⟩ := ix_e h
        refine z_iald K (hR.at (k := 8) (t := 20010) (hR.at (k := 11) (t := 3) k0 rfl rfl) rfl rfl) rfl rfl rfl hi dX11_apart_37 ?_
        refine z_istore_n K dX11_apart_38 rfl rfl ?_
        refine z_aload_n K dX11_apart_39 rfl ?_
        refine z_getR K clX11 k0 11 rfl rfl q511 dX11_apart_40 ?_
        refine z_getR K clX3 (hR.at (k := 11) (t := 3) k0 rfl rfl) 8 rfl rfl q275 dX11_apart_43 ?_
        refine z_iload_n K dX11_apart_46 rfl ?_
        obtain ⟨hi, h⟩ := ix_e h
        refine z_iald K (hR.at (k := 8) (t := 20010) (hR.at (k := 11) (t := 3) k0 rfl rfl) rfl rfl) rfl rfl rfl hi dX11_apart_47 ?_
        refine z_iload_n K dX11_apart_48 rfl ?_
        refine z_icmp_ne K 74 dX11_apart_49 (by decide) (fun c => ?_) (fun c => ?_)
        · have h := ite_f h c
          refine z_iconst K (-1) dX11_apart_74 rfl ?_
          obtain rfl := Option.some.inj h
          exact z_iret K dX11_apart_75
        · have h := ite_t h c
          refine z_aload_n K dX11_apart_52 rfl ?_
          refine z_getR K clX11 k0 1 rfl rfl q501 dX11_apart_53 ?_
          refine z_iload_n K dX11_apart_56 rfl ?_
          obtain ⟨u4, hc, h⟩ := bd1_e h
          refine z_callVI K (mX1_hasInside l hR (hR.at (k := 1) (t := 1) k0 rfl rfl) hc) clX1 (hR.at (k := 1) (t := 1) k0 rfl rfl) ceX1_hasInside q734 ⟨rfl, rfl, rfl, rfl⟩ rfl rfl rfl dX11_apart_57 ?_
          refine z_if_eq K 74 dX11_apart_60 (by decide) (fun c => ?_) (fun c => ?_)
          · have h := ite_t h c
            refine z_iconst K (-1) dX11_apart_74 rfl ?_
            obtain rfl := Option.some.inj h
            exact z_iret K dX11_apart_75
          · have h := ite_f h c
            refine z_aload_n K dX11_apart_63 rfl ?_
            refine z_getR K clX11 k0 1 rfl rfl q501 dX11_apart_64 ?_
            refine z_iload_n K dX11_apart_67 rfl ?_
            obtain ⟨u5, hc, h⟩ := bd1_e h
            refine z_callVI K (mX1_hasInside l hR (hR.at (k := 1) (t := 1) k0 rfl rfl) hc) clX1 (hR.at (k := 1) (t := 1) k0 rfl rfl) ceX1_hasInside q734 ⟨rfl, rfl, rfl, rfl⟩ rfl rfl rfl dX11_apart_68 ?_
            refine z_if_ne K 76 dX11_apart_71 (by decide) (fun c => ?_) (fun c => ?_)
            · have h := ite_f h c
              refine z_aload_n K dX11_apart_76 rfl ?_
              refine z_getR K clX11 k0 5 rfl rfl q505 dX11_apart_77 ?_
              refine z_aload_n K dX11_apart_80 rfl ?_
              refine z_getR K clX11 k0 11 rfl rfl q511 dX11_apart_81 ?_
              refine z_aload_n K dX11_apart_84 rfl ?_
              refine z_getR K clX11 k0 1 rfl rfl q501 dX11_apart_85 ?_
              refine z_iload_n K dX11_apart_88 rfl ?_
              obtain ⟨T6, hc, h⟩ := bd1_e h
              refine z_callVV K (mX6_holdByFate l hR (hR.at (k := 5) (t := 6) k0 rfl rfl) (hR.at (k := 11) (t := 3) k0 rfl rfl) (hR.at (k := 1) (t := 1) k0 rfl rfl) hc) clX6 (hR.at (k := 5) (t := 6) k0 rfl rfl) ceX6_holdByFate q939 ⟨rfl, rfl, rfl, rfl⟩ rfl rfl rfl dX11_apart_89 ?_
              refine z_aload_n K dX11_apart_92 rfl ?_
              refine z_getR K clX11 k0 5 rfl rfl q505 dX11_apart_93 ?_
              refine z_iload_n K dX11_apart_96 rfl ?_
              refine z_aload_n K dX11_apart_97 rfl ?_
              refine z_getR K clX11 k0 1 rfl rfl q501 dX11_apart_98 ?_
              refine z_getI K clX1 (hR.at (k := 1) (t := 1) k0 rfl rfl) 1 rfl rfl q339 dX11_apart_101 ?_
              obtain ⟨u7, hc, h⟩ := bd1_e h
              refine z_callVI K (mX6_around l hR (hR.at (k := 5) (t := 6) k0 rfl rfl) hc) clX6 (hR.at (k := 5) (t := 6) k0 rfl rfl) ceX6_around q751 ⟨rfl, rfl, rfl, rfl⟩ rfl rfl rfl dX11_apart_104 ?_
              refine z_iload_n K dX11_apart_107 rfl ?_
              refine z_ishr K dX11_apart_108 ?_
              refine z_iconst K 1 dX11_apart_109 rfl ?_
              refine z_iand K dX11_apart_110 ?_
              refine z_if_ne K 118 dX11_apart_111 (by decide) (fun c => ?_) (fun c => ?_)
              · have h := ite_f h c
                refine z_iconst K 0 dX11_apart_118 rfl ?_
                obtain rfl := Option.some.inj h
                exact z_iret K dX11_apart_119
              · have h := ite_t h c
                refine z_iconst K 1 dX11_apart_114 rfl ?_
                refine z_goto K 119 dX11_apart_115 (by decide) ?_
                obtain rfl := Option.some.inj h
                exact z_iret K dX11_apart_119
            · have h := ite_t h c
              refine z_iconst K (-1) dX11_apart_74 rfl ?_
              obtain rfl := Option.some.inj h
              exact z_iret K dX11_apart_75
      · have h := ite_t h c
        refine z_iconst K (-1) dX11_apart_27 rfl ?_
        obtain rfl := Option.some.inj h
        exact z_iret K dX11_apart_28
/-! GoingOver.crack (I)I -/
abbrev rmX11_crack : Room := { frames := 1, cells := 0, slots := 0, locals := 21 }
def pX11_crack_17 (R : Rf) (T : Mm) (a0 : Nat) (x1 : Int32) (e85 : Int32 → Option (Int32)) (r17 : Int32 → Int32 → Option (Int32)) (x2 : Int32) (x3 : Int32) : Option (Int32) :=
  if (T.1 (R a0 11) 2) ≤ x3 then e85 x2 else bd1 (pX3_ownerOfJoin R T (R a0 11) x3) (fun (u2 : Int32) => if u2 = x1 then bd1 (pX1_isWhole R T (R a0 1) x3) (fun (u4 : Int32) => if u4 = 0 then lt (x3 + 1) (fun (v5 : Int32) => r17 x2 v5) else if x2 = (-1) then lt (x3 + 1) (fun (v6 : Int32) => r17 x3 v6) else ix x3 16 (ix x2 16 (if (T.1 (R (R a0 11) 12) x2.toNatClampNeg) ≤ (T.1 (R (R a0 11) 12) x3.toNatClampNeg) then lt (x3 + 1) (fun (v7 : Int32) => r17 x2 v7) else lt (x3 + 1) (fun (v8 : Int32) => r17 x3 v8)))) else lt (x3 + 1) (fun (v3 : Int32) => r17 x2 v3))
def pX11_crack_85 (R : Rf) (T : Mm) (a0 : Nat) (x1 : Int32) (x2 : Int32) : Option (Int32) :=
  some x2
def pX11_crack (R : Rf) (T : Mm) (a0 : Nat) (x1 : Int32) : Option (Int32) :=
  bd1 (pX3_hasPerson R T (R a0 11) x1) (fun (u1 : Int32) => if u1 = 0 then some (-1) else zl2 (pX11_crack_17 R T a0 x1 (pX11_crack_85 R T a0 x1)) FU (-1) 0)
set_option maxRecDepth 100000 in
set_option maxHeartbeats 4000000 in
theorem wX11_crack_17 {X : Cx} {g : Gl} {l : Launch} {R : Rf} {T : Mm} {a0 : Nat} {x1 : Int32} (K : Ok X g l cX11_crack RX11 4 (some .int) rmX11_crack) (hR : Ty g R) (k0 : kd g a0 = 11) {r : Int32} {e85 : Int32 → Option (Int32)} (he85 : ∀ (x2 : Int32), e85 x2 = some r → Zj X g 4 (QI X g r R T) R T [none, none, some (.int x2), none] [] 85) : ∀ (n : Nat) (x2 : Int32) (x3 : Int32), zl2 (pX11_crack_17 R T a0 x1 e85) n x2 x3 = some r → Zj X g 4 (QI X g r R T) R T [some (.ref (g.2.2.1 a0)), some (.int x1), some (.int x2), some (.int x3)] [] 17 := by
  intro n
  induction n with
  | zero =>
    intro x2 x3 h
    exact absurd h (by simp [zl2])
  | succ n hr17 =>
    intro x2 x3 h
    rw [zl2_s] at h
    unfold pX11_crack_17 at h
    refine z_iload_n K dX11_crack_17 rfl ?_
    refine z_aload_n K dX11_crack_18 rfl ?_
    refine z_getR K clX11 k0 11 rfl rfl q511 dX11_crack_19 ?_
    refine z_getI K clX3 (hR.at (k := 11) (t := 3) k0 rfl rfl) 2 rfl rfl q259 dX11_crack_22 ?_
    refine z_icmp_ge K 85 dX11_crack_25 (by decide) (fun c => ?_) (fun c => ?_)
    · have h := ite_t h c
      refine Zj.mask [false, false, true, false] ?_
      exact he85 _ h
    · have h := ite_f h c
      refine z_aload_n K dX11_crack_28 rfl ?_
      refine z_getR K clX11 k0 11 rfl rfl q511 dX11_crack_29 ?_
      refine z_iload_n K dX11_crack_32 rfl ?_
      obtain ⟨u2, hc, h⟩ := bd1_e h
      refine z_callVI K (mX3_ownerOfJoin l hR (hR.at (k := 11) (t := 3) k0 rfl rfl) hc) clX3 (hR.at (k := 11) (t := 3) k0 rfl rfl) ceX3_ownerOfJoin q959 ⟨rfl, rfl, rfl, rfl⟩ rfl rfl rfl dX11_crack_33 ?_
      refine z_iload_n K dX11_crack_36 rfl ?_
      refine z_icmp_ne K 79 dX11_crack_37 (by decide) (fun c => ?_) (fun c => ?_)
      · have h := ite_f h c
        refine z_iinc K 1 dX11_crack_79 rfl rfl rfl rfl ?_
        refine z_goto K 17 dX11_crack_82 (by decide) ?_
        refine Zj.mask [true, true, true, true] ?_
        exact hr17 _ _ h
      · have h := ite_t h c
        refine z_aload_n K dX11_crack_40 rfl ?_
        refine z_getR K clX11 k0 1 rfl rfl q501 dX11_crack_41 ?_
        refine z_iload_n K dX11_crack_44 rfl ?_
        obtain ⟨u4, hc, h⟩ := bd1_e h
        refine z_callVI K (mX1_isWhole l hR (hR.at (k := 1) (t := 1) k0 rfl rfl) hc) clX1 (hR.at (k := 1) (t := 1) k0 rfl rfl) ceX1_isWhole q766 ⟨rfl, rfl, rfl, rfl⟩ rfl rfl rfl dX11_crack_45 ?_
        refine z_if_eq K 79 dX11_crack_48 (by decide) (fun c => ?_) (fun c => ?_)
        · have h := ite_t h c
          refine z_iinc K 1 dX11_crack_79 rfl rfl rfl rfl ?_
          refine z_goto K 17 dX11_crack_82 (by decide) ?_
          refine Zj.mask [true, true, true, true] ?_
          exact hr17 _ _ h
        · have h := ite_f h c
          refine z_iload_n K dX11_crack_51 rfl ?_
          refine z_iconst K (-1) dX11_crack_52 rfl ?_
          refine z_icmp_eq K 77 dX11_crack_53 (by decide) (fun c => ?_) (fun c => ?_)
          · have h := ite_t h c
            refine z_iload_n K dX11_crack_77 rfl ?_
            refine z_istore_n K dX11_crack_78 rfl rfl ?_
            refine z_iinc K 1 dX11_crack_79 rfl rfl rfl rfl ?_
            refine z_goto K 17 dX11_crack_82 (by decide) ?_
            refine Zj.mask [true, true, true, true] ?_
            exact hr17 _ _ h
          · have h := ite_f h c
            refine z_aload_n K dX11_crack_56 rfl ?_
            refine z_getR K clX11 k0 11 rfl rfl q511 dX11_crack_57 ?_
            refine z_getR K clX3 (hR.at (k := 11) (t := 3) k0 rfl rfl) 12 rfl rfl q288 dX11_crack_60 ?_
            refine z_iload_n K dX11_crack_63 rfl ?_
            obtain ⟨hi, h⟩ := ix_e h
            refine z_iald K (hR.at (k := 12) (t := 20016) (hR.at (k := 11) (t := 3) k0 rfl rfl) rfl rfl) rfl rfl rfl hi dX11_crack_64 ?_
            refine z_aload_n K dX11_crack_65 rfl ?_
            refine z_getR K clX11 k0 11 rfl rfl q511 dX11_crack_66 ?_
            refine z_getR K clX3 (hR.at (k := 11) (t := 3) k0 rfl rfl) 12 rfl rfl q288 dX11_crack_69 ?_
            refine z_iload_n K dX11_crack_72 rfl ?_
            obtain ⟨hi, h⟩ := ix_e h
            refine z_iald K (hR.at (k := 12) (t := 20016) (hR.at (k := 11) (t := 3) k0 rfl rfl) rfl rfl) rfl rfl rfl hi dX11_crack_73 ?_
            refine z_icmp_ge K 79 dX11_crack_74 (by decide) (fun c => ?_) (fun c => ?_)
            · have h := ite_t h c
              refine z_iinc K 1 dX11_crack_79 rfl rfl rfl rfl ?_
              refine z_goto K 17 dX11_crack_82 (by decide) ?_
              refine Zj.mask [true, true, true, true] ?_
              exact hr17 _ _ h
            · have h := ite_f h c
              refine z_iload_n K dX11_crack_77 rfl ?_
              refine z_istore_n K dX11_crack_78 rfl rfl ?_
              refine z_iinc K 1 dX11_crack_79 rfl rfl rfl rfl ?_
              refine z_goto K 17 dX11_crack_82 (by decide) ?_
              refine Zj.mask [true, true, true, true] ?_
              exact hr17 _ _ h
set_option maxRecDepth 100000 in
set_option maxHeartbeats 4000000 in
theorem wX11_crack_85 {X : Cx} {g : Gl} {l : Launch} {R : Rf} {T : Mm} {a0 : Nat} {x1 : Int32} (K : Ok X g l cX11_crack RX11 4 (some .int) rmX11_crack) (hR : Ty g R) (k0 : kd g a0 = 11) {r : Int32} (x2 : Int32) (h : pX11_crack_85 R T a0 x1 x2 = some r) : Zj X g 4 (QI X g r R T) R T [none, none, some (.int x2), none] [] 85 := by
  unfold pX11_crack_85 at h
  refine z_iload_n K dX11_crack_85 rfl ?_
  obtain rfl := Option.some.inj h
  exact z_iret K dX11_crack_86
set_option maxRecDepth 100000 in
set_option maxHeartbeats 4000000 in
theorem mX11_crack {g : Gl} {R : Rf} {T : Mm} {a0 : Nat} {x1 : Int32} (l : Launch) (hR : Ty g R) (k0 : kd g a0 = 11) {r : Int32} (h : pX11_crack R T a0 x1 = some r) : MI l g yX11_crack cX11_crack 4 (some .int) rmX11_crack [.ref (g.2.2.1 a0), .int x1] R T r R T := by
  refine z_metI (own := RX11) (lv := [some (.ref (g.2.2.1 a0)), some (.int x1), none, none]) (by decide +kernel) rfl rfl rfl (fun X K => ?_)
  unfold pX11_crack at h
  refine z_aload_n K dX11_crack_0 rfl ?_
  refine z_getR K clX11 k0 11 rfl rfl q511 dX11_crack_1 ?_
  refine z_iload_n K dX11_crack_4 rfl ?_
  obtain ⟨u1, hc, h⟩ := bd1_e h
  refine z_callVI K (mX3_hasPerson l hR (hR.at (k := 11) (t := 3) k0 rfl rfl) hc) clX3 (hR.at (k := 11) (t := 3) k0 rfl rfl) ceX3_hasPerson q786 ⟨rfl, rfl, rfl, rfl⟩ rfl rfl rfl dX11_crack_5 ?_
  refine z_if_ne K 13 dX11_crack_8 (by decide) (fun c => ?_) (fun c => ?_)
  · have h := ite_f h c
    refine z_iconst K (-1) dX11_crack_13 rfl ?_
    refine z_istore_n K dX11_crack_14 rfl rfl ?_
    refine z_iconst K 0 dX11_crack_15 rfl ?_
    refine z_istore_n K dX11_crack_16 rfl rfl ?_
    refine Zj.mask [true, true, true, true] ?_
    exact wX11_crack_17 K hR k0 (wX11_crack_85 K hR k0) FU _ _ h
  · have h := ite_t h c
    refine z_iconst K (-1) dX11_crack_11 rfl ?_
    obtain rfl := Option.some.inj h
    exact z_iret K dX11_crack_12
/-! GoingOver.drops (I)I -/
abbrev rmX11_drops : Room := { frames := 1, cells := 0, slots := 0, locals := 24 }
def pX11_drops_41 (R : Rf) (T : Mm) (a0 : Nat) (x1 : Int32) (e67 : Int32 → Option (Int32)) (e75 : Option (Int32)) (r41 : Int32 → Int32 → Option (Int32)) (x2 : Int32) (x3 : Int32) : Option (Int32) :=
  if 99 < x3 then e75 else bd1 (pX3_flowOn R T (R a0 11) ((T.1 (R a0 1) 0) + x3)) (fun (u3 : Int32) => if u3 < x2 then lt (x3 + 1) (fun (v4 : Int32) => r41 x2 v4) else e67 x3)
def pX11_drops_67 (R : Rf) (T : Mm) (a0 : Nat) (x1 : Int32) (x3 : Int32) : Option (Int32) :=
  some x3
def pX11_drops_75 (R : Rf) (T : Mm) (a0 : Nat) (x1 : Int32) : Option (Int32) :=
  some (-1)
def pX11_drops (R : Rf) (T : Mm) (a0 : Nat) (x1 : Int32) : Option (Int32) :=
  bd1 (pX3_hasPerson R T (R a0 11) x1) (fun (u1 : Int32) => if u1 = 0 then some (-1) else ix x1 5 (if (T.1 (R (R a0 1) 4) x1.toNatClampNeg) = 1 then bd1 (pX1_weight R T (R a0 1) (R a0 11) x1) (fun (u2 : Int32) => zl2 (pX11_drops_41 R T a0 x1 (pX11_drops_67 R T a0 x1) (pX11_drops_75 R T a0 x1)) FU u2 1) else some (-1)))
set_option maxRecDepth 100000 in
set_option maxHeartbeats 4000000 in
theorem wX11_drops_41 {X : Cx} {g : Gl} {l : Launch} {R : Rf} {T : Mm} {a0 : Nat} {x1 : Int32} (K : Ok X g l cX11_drops RX11 4 (some .int) rmX11_drops) (hR : Ty g R) (k0 : kd g a0 = 11) {r : Int32} {e67 : Int32 → Option (Int32)} (he67 : ∀ (x3 : Int32), e67 x3 = some r → Zj X g 4 (QI X g r R T) R T [none, none, none, some (.int x3)] [] 67) {e75 : Option (Int32)} (he75 : e75 = some r → Zj X g 4 (QI X g r R T) R T [none, none, none, none] [] 75) : ∀ (n : Nat) (x2 : Int32) (x3 : Int32), zl2 (pX11_drops_41 R T a0 x1 e67 e75) n x2 x3 = some r → Zj X g 4 (QI X g r R T) R T [some (.ref (g.2.2.1 a0)), none, some (.int x2), some (.int x3)] [] 41 := by
  intro n
  induction n with
  | zero =>
    intro x2 x3 h
    exact absurd h (by simp [zl2])
  | succ n hr41 =>
    intro x2 x3 h
    rw [zl2_s] at h
    unfold pX11_drops_41 at h
    refine z_iload_n K dX11_drops_41 rfl ?_
    refine z_bipush K 99 dX11_drops_42 rfl ?_
    refine z_icmp_gt K 75 dX11_drops_44 (by decide) (fun c => ?_) (fun c => ?_)
    · have h := ite_t h c
      refine Zj.mask [false, false, false, false] ?_
      exact he75 h
    · have h := ite_f h c
      refine z_iload_n K dX11_drops_47 rfl ?_
      refine z_aload_n K dX11_drops_48 rfl ?_
      refine z_getR K clX11 k0 11 rfl rfl q511 dX11_drops_49 ?_
      refine z_aload_n K dX11_drops_52 rfl ?_
      refine z_getR K clX11 k0 1 rfl rfl q501 dX11_drops_53 ?_
      refine z_getI K clX1 (hR.at (k := 1) (t := 1) k0 rfl rfl) 0 rfl rfl q335 dX11_drops_56 ?_
      refine z_iload_n K dX11_drops_59 rfl ?_
      refine z_iadd K dX11_drops_60 ?_
      obtain ⟨u3, hc, h⟩ := bd1_e h
      refine z_callVI K (mX3_flowOn l hR (hR.at (k := 11) (t := 3) k0 rfl rfl) hc) clX3 (hR.at (k := 11) (t := 3) k0 rfl rfl) ceX3_flowOn q774 ⟨rfl, rfl, rfl, rfl⟩ rfl rfl rfl dX11_drops_61 ?_
      refine z_icmp_gt K 69 dX11_drops_64 (by decide) (fun c => ?_) (fun c => ?_)
      · have h := ite_t h c
        refine z_iinc K 1 dX11_drops_69 rfl rfl rfl rfl ?_
        refine z_goto K 41 dX11_drops_72 (by decide) ?_
        refine Zj.mask [true, false, true, true] ?_
        exact hr41 _ _ h
      · have h := ite_f h c
        refine Zj.mask [false, false, false, true] ?_
        exact he67 _ h
set_option maxRecDepth 100000 in
set_option maxHeartbeats 4000000 in
theorem wX11_drops_67 {X : Cx} {g : Gl} {l : Launch} {R : Rf} {T : Mm} {a0 : Nat} {x1 : Int32} (K : Ok X g l cX11_drops RX11 4 (some .int) rmX11_drops) (hR : Ty g R) (k0 : kd g a0 = 11) {r : Int32} (x3 : Int32) (h : pX11_drops_67 R T a0 x1 x3 = some r) : Zj X g 4 (QI X g r R T) R T [none, none, none, some (.int x3)] [] 67 := by
  unfold pX11_drops_67 at h
  refine z_iload_n K dX11_drops_67 rfl ?_
  obtain rfl := Option.some.inj h
  exact z_iret K dX11_drops_68
set_option maxRecDepth 100000 in
set_option maxHeartbeats 4000000 in
theorem wX11_drops_75 {X : Cx} {g : Gl} {l : Launch} {R : Rf} {T : Mm} {a0 : Nat} {x1 : Int32} (K : Ok X g l cX11_drops RX11 4 (some .int) rmX11_drops) (hR : Ty g R) (k0 : kd g a0 = 11) {r : Int32} (h : pX11_drops_75 R T a0 x1 = some r) : Zj X g 4 (QI X g r R T) R T [none, none, none, none] [] 75 := by
  unfold pX11_drops_75 at h
  refine z_iconst K (-1) dX11_drops_75 rfl ?_
  obtain rfl := Option.some.inj h
  exact z_iret K dX11_drops_76
set_option maxRecDepth 100000 in
set_option maxHeartbeats 4000000 in
theorem mX11_drops {g : Gl} {R : Rf} {T : Mm} {a0 : Nat} {x1 : Int32} (l : Launch) (hR : Ty g R) (k0 : kd g a0 = 11) {r : Int32} (h : pX11_drops R T a0 x1 = some r) : MI l g yX11_drops cX11_drops 4 (some .int) rmX11_drops [.ref (g.2.2.1 a0), .int x1] R T r R T := by
  refine z_metI (own := RX11) (lv := [some (.ref (g.2.2.1 a0)), some (.int x1), none, none]) (by decide +kernel) rfl rfl rfl (fun X K => ?_)
  unfold pX11_drops at h
  refine z_aload_n K dX11_drops_0 rfl ?_
  refine z_getR K clX11 k0 11 rfl rfl q511 dX11_drops_1 ?_
  refine z_iload_n K dX11_drops_4 rfl ?_
  obtain ⟨u1, hc, h⟩ := bd1_e h
  refine z_callVI K (mX3_hasPerson l hR (hR.at (k := 11) (t := 3) k0 rfl rfl) hc) clX3 (hR.at (k := 11) (t := 3) k0 rfl rfl) ceX3_hasPerson q786 ⟨rfl, rfl, rfl, rfl⟩ rfl rfl rfl dX11_drops_5 ?_
  refine z_if_eq K 24 dX11_drops_8 (by decide) (fun c => ?_) (fun c => ?_)
  · have h := ite_t h c
    refine z_iconst K (-1) dX11_drops_24 rfl ?_
    obtain rfl := Option.some.inj h
    exact z_iret K dX11_drops_25
  · have h := ite_f h c
    refine z_aload_n K dX11_drops_11 rfl ?_
    refine z_getR K clX11 k0 1 rfl rfl q501 dX11_drops_12 ?_
    refine z_getR K clX1 (hR.at (k := 1) (t := 1) k0 rfl rfl) 4 rfl rfl q347 dX11_drops_15 ?_
    refine z_iload_n K dX11_drops_18 rfl ?_
    obtain ⟨hi, h⟩ := ix_e h
    refine z_iald K (hR.at (k := 4) (t := 20005) (hR.at (k := 1) (t := 1) k0 rfl rfl) rfl rfl) rfl rfl rfl hi dX11_drops_19 ?_
    refine z_iconst K 1 dX11_drops_20 rfl ?_
    refine z_icmp_eq K 26 dX11_drops_21 (by decide) (fun c => ?_) (fun c => ?_)
    · have h := ite_t h c
      refine z_aload_n K dX11_drops_26 rfl ?_
      refine z_getR K clX11 k0 1 rfl rfl q501 dX11_drops_27 ?_
      refine z_aload_n K dX11_drops_30 rfl ?_
      refine z_getR K clX11 k0 11 rfl rfl q511 dX11_drops_31 ?_
      refine z_iload_n K dX11_drops_34 rfl ?_
      obtain ⟨u2, hc, h⟩ := bd1_e h
      refine z_callVI K (mX1_weight l hR (hR.at (k := 1) (t := 1) k0 rfl rfl) (hR.at (k := 11) (t := 3) k0 rfl rfl) hc) clX1 (hR.at (k := 1) (t := 1) k0 rfl rfl) ceX1_weight q964 ⟨rfl, rfl, rfl, rfl⟩ rfl rfl rfl dX11_drops_35 ?_
      refine z_istore_n K dX11_drops_38 rfl rfl ?_
      refine z_iconst K 1 dX11_drops_39 rfl ?_
      refine z_istore_n K dX11_drops_40 rfl rfl ?_
      refine Zj.mask [true, false, true, true] ?_
      exact wX11_drops_41 K hR k0 (wX11_drops_67 K hR k0) (wX11_drops_75 K hR k0) FU _ _ h
    · have h := ite_f h c
      refine z_iconst K (-1) dX11_drops_24 rfl ?_
      obtain rfl := Option.some.inj h
      exact z_iret K dX11_drops_25
/-! GoingOver.who ()I -/
abbrev rmX11_who : Room := { frames := 4, cells := 0, slots := 0, locals := 92 }
def pX11_who_33 (R : Rf) (a0 : Nat) (e110 : Mm → Int32 → Option (Int32 × Mm)) (r33 : Mm → Int32 → Int32 → Int32 → Option (Int32 × Mm)) (T : Mm) (x1 : Int32) (x2 : Int32) (x3 : Int32) : Option (Int32 × Mm) :=
  if (T.1 (R a0 11) 0) ≤ x3 then e110 T x2 else bd1 (pX6_holdByFate R T (R a0 5) (R a0 11) (R a0 1) x3) (fun (T3 : Mm) => bd1 (pX3_itemsOf R T3 (R a0 11) x3) (fun (u4 : Int32) => bd1 (pX6_weighJustSo R T3 (R a0 5) (R a0 11) ((T3.1 (R a0 1) 1) &&& u4) (R (R a0 0) 0) x1) (fun (u5 : Int32) => if u5 = 0 then lt (x3 + 1) (fun (v6 : Int32) => r33 T3 x1 x2 v6) else lt (x2 ||| (1 <<< (x3 &&& 31))) (fun (v7 : Int32) => lt (x3 + 1) (fun (v8 : Int32) => r33 T3 x1 v7 v8)))))
def pX11_who_110 (R : Rf) (a0 : Nat) (T : Mm) (x2 : Int32) : Option (Int32 × Mm) :=
  some (x2, T)
def pX11_who (R : Rf) (T : Mm) (a0 : Nat) : Option (Int32 × Mm) :=
  lt (T.1 (R a0 0) 1) (fun (v1 : Int32) => lt (wI T (R a0 0) 1 0) (fun (T2 : Mm) => if v1 < 1 then some ((-1), T2) else if v1 ≤ 6 then zl4 (pX11_who_33 R a0 (pX11_who_110 R a0)) FU T2 v1 0 0 else some ((-1), T2)))
set_option maxRecDepth 100000 in
set_option maxHeartbeats 4000000 in
theorem wX11_who_33 {X : Cx} {g : Gl} {l : Launch} {R : Rf} {a0 : Nat} (K : Ok X g l cX11_who RX11 4 (some .int) rmX11_who) (hR : Ty g R) (k0 : kd g a0 = 11) {r : Int32 × Mm} {e110 : Mm → Int32 → Option (Int32 × Mm)} (he110 : ∀ (T : Mm) (x2 : Int32), e110 T x2 = some r → Zj X g 4 (QI X g r.1 R r.2) R T [none, none, some (.int x2), none] [] 110) : ∀ (n : Nat) (T : Mm) (x1 : Int32) (x2 : Int32) (x3 : Int32), zl4 (pX11_who_33 R a0 e110) n T x1 x2 x3 = some r → Zj X g 4 (QI X g r.1 R r.2) R T [some (.ref (g.2.2.1 a0)), some (.int x1), some (.int x2), some (.int x3)] [] 33 := by
  intro n
  induction n with
  | zero =>
    intro T x1 x2 x3 h
    exact absurd h (by simp [zl4])
  | succ n hr33 =>
    intro T x1 x2 x3 h
    rw [zl4_s] at h
    unfold pX11_who_33 at h
    refine z_iload_n K dX11_who_33 rfl ?_
    refine z_aload_n K dX11_who_34 rfl ?_
    refine z_getR K clX11 k0 11 rfl rfl q511 dX11_who_35 ?_
    refine z_getI K clX3 (hR.at (k := 11) (t := 3) k0 rfl rfl) 0 rfl rfl q249 dX11_who_38 ?_
    refine z_icmp_ge K 110 dX11_who_41 (by decide) (fun c => ?_) (fun c => ?_)
    · have h := ite_t h c
      refine Zj.mask [false, false, true, false] ?_
      exact he110 _ _ h
    · have h := ite_f h c
      refine z_aload_n K dX11_who_44 rfl ?_
      refine z_getR K clX11 k0 5 rfl rfl q505 dX11_who_45 ?_
      refine z_aload_n K dX11_who_48 rfl ?_
      refine z_getR K clX11 k0 11 rfl rfl q511 dX11_who_49 ?_
      refine z_aload_n K dX11_who_52 rfl ?_
      refine z_getR K clX11 k0 1 rfl rfl q501 dX11_who_53 ?_
      refine z_iload_n K dX11_who_56 rfl ?_
      obtain ⟨T3, hc, h⟩ := bd1_e h
      refine z_callVV K (mX6_holdByFate l hR (hR.at (k := 5) (t := 6) k0 rfl rfl) (hR.at (k := 11) (t := 3) k0 rfl rfl) (hR.at (k := 1) (t := 1) k0 rfl rfl) hc) clX6 (hR.at (k := 5) (t := 6) k0 rfl rfl) ceX6_holdByFate q939 ⟨rfl, rfl, rfl, rfl⟩ rfl rfl rfl dX11_who_57 ?_
      refine z_aload_n K dX11_who_60 rfl ?_
      refine z_getR K clX11 k0 5 rfl rfl q505 dX11_who_61 ?_
      refine z_aload_n K dX11_who_64 rfl ?_
      refine z_getR K clX11 k0 11 rfl rfl q511 dX11_who_65 ?_
      refine z_aload_n K dX11_who_68 rfl ?_
      refine z_getR K clX11 k0 1 rfl rfl q501 dX11_who_69 ?_
      refine z_getI K clX1 (hR.at (k := 1) (t := 1) k0 rfl rfl) 1 rfl rfl q339 dX11_who_72 ?_
      refine z_aload_n K dX11_who_75 rfl ?_
      refine z_getR K clX11 k0 11 rfl rfl q511 dX11_who_76 ?_
      refine z_iload_n K dX11_who_79 rfl ?_
      obtain ⟨u4, hc, h⟩ := bd1_e h
      refine z_callVI K (mX3_itemsOf l hR (hR.at (k := 11) (t := 3) k0 rfl rfl) hc) clX3 (hR.at (k := 11) (t := 3) k0 rfl rfl) ceX3_itemsOf q910 ⟨rfl, rfl, rfl, rfl⟩ rfl rfl rfl dX11_who_80 ?_
      refine z_iand K dX11_who_83 ?_
      refine z_aload_n K dX11_who_84 rfl ?_
      refine z_getR K clX11 k0 0 rfl rfl q500 dX11_who_85 ?_
      refine z_getR K clX10 (hR.at (k := 0) (t := 10) k0 rfl rfl) 0 rfl rfl q196 dX11_who_88 ?_
      refine z_iload_n K dX11_who_91 rfl ?_
      obtain ⟨u5, hc, h⟩ := bd1_e h
      refine z_callVI K (mX6_weighJustSo l hR (hR.at (k := 5) (t := 6) k0 rfl rfl) (hR.at (k := 11) (t := 3) k0 rfl rfl) (hR.at (k := 0) (t := 20940) (hR.at (k := 0) (t := 10) k0 rfl rfl) rfl rfl) hc) clX6 (hR.at (k := 5) (t := 6) k0 rfl rfl) ceX6_weighJustSo q969 ⟨rfl, rfl, rfl, rfl⟩ rfl rfl rfl dX11_who_92 ?_
      refine z_if_eq K 104 dX11_who_95 (by decide) (fun c => ?_) (fun c => ?_)
      · have h := ite_t h c
        refine z_iinc K 1 dX11_who_104 rfl rfl rfl rfl ?_
        refine z_goto K 33 dX11_who_107 (by decide) ?_
        refine Zj.mask [true, true, true, true] ?_
        exact hr33 _ _ _ _ h
      · have h := ite_f h c
        refine z_iload_n K dX11_who_98 rfl ?_
        refine z_iconst K 1 dX11_who_99 rfl ?_
        refine z_iload_n K dX11_who_100 rfl ?_
        refine z_ishl K dX11_who_101 ?_
        refine z_ior K dX11_who_102 ?_
        refine z_istore_n K dX11_who_103 rfl rfl ?_
        refine z_iinc K 1 dX11_who_104 rfl rfl rfl rfl ?_
        refine z_goto K 33 dX11_who_107 (by decide) ?_
        refine Zj.mask [true, true, true, true] ?_
        exact hr33 _ _ _ _ h
set_option maxRecDepth 100000 in
set_option maxHeartbeats 4000000 in
theorem wX11_who_110 {X : Cx} {g : Gl} {l : Launch} {R : Rf} {a0 : Nat} (K : Ok X g l cX11_who RX11 4 (some .int) rmX11_who) (hR : Ty g R) (k0 : kd g a0 = 11) {r : Int32 × Mm} (T : Mm) (x2 : Int32) (h : pX11_who_110 R a0 T x2 = some r) : Zj X g 4 (QI X g r.1 R r.2) R T [none, none, some (.int x2), none] [] 110 := by
  unfold pX11_who_110 at h
  refine z_iload_n K dX11_who_110 rfl ?_
  obtain rfl := Option.some.inj h
  exact z_iret K dX11_who_111
set_option maxRecDepth 100000 in
set_option maxHeartbeats 4000000 in
theorem mX11_who {g : Gl} {R : Rf} {T : Mm} {a0 : Nat} (l : Launch) (hR : Ty g R) (k0 : kd g a0 = 11) {r : Int32 × Mm} (h : pX11_who R T a0 = some r) : MI l g yX11_who cX11_who 4 (some .int) rmX11_who [.ref (g.2.2.1 a0)] R T r.1 R r.2 := by
  refine z_metI (own := RX11) (lv := [some (.ref (g.2.2.1 a0)), none, none, none]) (by decide +kernel) rfl rfl rfl (fun X K => ?_)
  unfold pX11_who at h
  refine z_aload_n K dX11_who_0 rfl ?_
  refine z_getR K clX11 k0 0 rfl rfl q500 dX11_who_1 ?_
  refine z_getI K clX10 (hR.at (k := 0) (t := 10) k0 rfl rfl) 1 rfl rfl q197 dX11_who_4 ?_
  refine z_istore_n K dX11_who_7 rfl rfl ?_
  refine z_aload_n K dX11_who_8 rfl ?_
  refine z_getR K clX11 k0 0 rfl rfl q500 dX11_who_9 ?_
  refine z_iconst K 0 dX11_who_12 rfl ?_
  refine z_putI K clX10 tyX10_ok nmX10 (hR.at (k := 0) (t := 10) k0 rfl rfl) 1 rfl rfl q197 rfl rfl rfl dX11_who_13 ?_
  refine z_iload_n K dX11_who_16 rfl ?_
  refine z_iconst K 1 dX11_who_17 rfl ?_
  refine z_icmp_lt K 27 dX11_who_18 (by decide) (fun c => ?_) (fun c => ?_)
  · have h := ite_t h c
    refine z_iconst K (-1) dX11_who_27 rfl ?_
    obtain rfl := Option.some.inj h
    exact z_iret K dX11_who_28
  · have h := ite_f h c
    refine z_iload_n K dX11_who_21 rfl ?_
    refine z_bipush K 6 dX11_who_22 rfl ?_
    refine z_icmp_le K 29 dX11_who_24 (by decide) (fun c => ?_) (fun c => ?_)
    · have h := ite_t h c
      refine z_iconst K 0 dX11_who_29 rfl ?_
      refine z_istore_n K dX11_who_30 rfl rfl ?_
      refine z_iconst K 0 dX11_who_31 rfl ?_
      refine z_istore_n K dX11_who_32 rfl rfl ?_
      refine Zj.mask [true, true, true, true] ?_
      exact wX11_who_33 K hR k0 (wX11_who_110 K hR k0) FU _ _ _ _ h
    · have h := ite_f h c
      refine z_iconst K (-1) dX11_who_27 rfl ?_
      obtain rfl := Option.some.inj h
      exact z_iret K dX11_who_28
/-! GoingOver.heights ()I -/
abbrev rmX11_heights : Room := { frames := 4, cells := 0, slots := 0, locals := 97 }
def pX11_heights_37 (R : Rf) (a0 : Nat) (e61 : Mm → Option (Int32 × Mm)) (e69 : Mm → Int32 → Option (Int32 × Mm)) (r37 : Mm → Int32 → Int32 → Option (Int32 × Mm)) (T : Mm) (x1 : Int32) (x2 : Int32) : Option (Int32 × Mm) :=
  if x1 ≤ x2 then e69 T x1 else ix x2 940 (bd1 (pX3_hasPerson R T (R a0 11) (T.1 (R (R a0 0) 0) x2.toNatClampNeg)) (fun (u3 : Int32) => if u3 = 0 then e61 T else lt (x2 + 2) (fun (v4 : Int32) => r37 T x1 v4)))
def pX11_heights_61 (R : Rf) (a0 : Nat) (T : Mm) : Option (Int32 × Mm) :=
  some ((-1), T)
def pX11_heights_135 (R : Rf) (a0 : Nat) (T : Mm) (x2 : Int32) : Option (Int32 × Mm) :=
  bd1 (pJ6_bitCount_0f7a4 R T x2) (fun (u7 : Int32) => some (u7, T))
def pX11_heights_69 (R : Rf) (a0 : Nat) (T : Mm) (x1 : Int32) : Option (Int32 × Mm) :=
  bd1 (pX4_fill R T (R a0 6) (R a0 11) (R a0 1) (R a0 5)) (fun (T5 : Mm) => bd1 (pX4_agreeing R T5 (R a0 6) (R (R a0 0) 0) x1) (fun (u6 : Int32) => if u6 = 0 then pX11_heights_135 R a0 T5 u6 else bd1 (pX4_leastOf R T5 u6) (fun (u8 : Int32) => lt (wI T5 a0 18 u8) (fun (T9 : Mm) => bd1 (pX4_bestWatched R T9 (R a0 6) u6 (T9.1 (R a0 11) 0)) (fun (u10 : Int32) => lt (wI T9 a0 19 u10) (fun (T11 : Mm) => pX11_heights_135 R a0 T11 u6))))))
def pX11_heights (R : Rf) (T : Mm) (a0 : Nat) : Option (Int32 × Mm) :=
  lt (T.1 (R a0 0) 1) (fun (v1 : Int32) => lt (wI T (R a0 0) 1 0) (fun (T2 : Mm) => if v1 < 2 then some ((-1), T2) else if 10 < v1 then some ((-1), T2) else if (v1 - v1 / 2 * 2) = 0 then zl3 (pX11_heights_37 R a0 (pX11_heights_61 R a0) (pX11_heights_69 R a0)) FU T2 v1 0 else some ((-1), T2)))
set_option maxRecDepth 100000 in
set_option maxHeartbeats 4000000 in
theorem wX11_heights_37 {X : Cx} {g : Gl} {l : Launch} {R : Rf} {a0 : Nat} (K : Ok X g l cX11_heights RX11 3 (some .int) rmX11_heights) (hR : Ty g R) (k0 : kd g a0 = 11) {r : Int32 × Mm} {e61 : Mm → Option (Int32 × Mm)} (he61 : ∀ (T : Mm), e61 T = some r → Zj X g 3 (QI X g r.1 R r.2) R T [none, none, none] [] 61) {e69 : Mm → Int32 → Option (Int32 × Mm)} (he69 : ∀ (T : Mm) (x1 : Int32), e69 T x1 = some r → Zj X g 3 (QI X g r.1 R r.2) R T [some (.ref (g.2.2.1 a0)), some (.int x1), none] [] 69) : ∀ (n : Nat) (T : Mm) (x1 : Int32) (x2 : Int32), zl3 (pX11_heights_37 R a0 e61 e69) n T x1 x2 = some r → Zj X g 3 (QI X g r.1 R r.2) R T [some (.ref (g.2.2.1 a0)), some (.int x1), some (.int x2)] [] 37 := by
  intro n
  induction n with
  | zero =>
    intro T x1 x2 h
    exact absurd h (by simp [zl3])
  | succ n hr37 =>
    intro T x1 x2 h
    rw [zl3_s] at h
    unfold pX11_heights_37 at h
    refine z_iload_n K dX11_heights_37 rfl ?_
    refine z_iload_n K dX11_heights_38 rfl ?_
    refine z_icmp_ge K 69 dX11_heights_39 (by decide) (fun c => ?_) (fun c => ?_)
    · have h := ite_t h c
      refine Zj.mask [true, true, false] ?_
      exact he69 _ _ h
    · have h := ite_f h c
      refine z_aload_n K dX11_heights_42 rfl ?_
      refine z_getR K clX11 k0 11 rfl rfl q511 dX11_heights_43 ?_
      refine z_aload_n K dX11_heights_46 rfl ?_
      refine z_getR K clX11 k0 0 rfl rfl q500 dX11_heights_47 ?_
      refine z_getR K clX10 (hR.at (k := 0) (t := 10) k0 rfl rfl) 0 rfl rfl q196 dX11_heights_50 ?_
      refine z_iload_n K dX11_heights_53 rfl ?_
      obtain ⟨hi, h⟩ := ix_e h
      refine z_iald K (hR.at (k := 0) (t := 20940) (hR.at (k := 0) (t := 10) k0 rfl rfl) rfl rfl) rfl rfl rfl hi dX11_heights_54 ?_
      obtain ⟨u3, hc, h⟩ := bd1_e h
      refine z_callVI K (mX3_hasPerson l hR (hR.at (k := 11) (t := 3) k0 rfl rfl) hc) clX3 (hR.at (k := 11) (t := 3) k0 rfl rfl) ceX3_hasPerson q786 ⟨rfl, rfl, rfl, rfl⟩ rfl rfl rfl dX11_heights_55 ?_
      refine z_if_ne K 63 dX11_heights_58 (by decide) (fun c => ?_) (fun c => ?_)
      · have h := ite_f h c
        refine z_iinc K 2 dX11_heights_63 rfl rfl rfl rfl ?_
        refine z_goto K 37 dX11_heights_66 (by decide) ?_
        refine Zj.mask [true, true, true] ?_
        exact hr37 _ _ _ h
      · have h := ite_t h c
        refine Zj.mask [false, false, false] ?_
        exact he61 _ h
set_option maxRecDepth 100000 in
set_option maxHeartbeats 4000000 in
theorem wX11_heights_61 {X : Cx} {g : Gl} {l : Launch} {R : Rf} {a0 : Nat} (K : Ok X g l cX11_heights RX11 3 (some .int) rmX11_heights) (hR : Ty g R) (k0 : kd g a0 = 11) {r : Int32 × Mm} (T : Mm) (h : pX11_heights_61 R a0 T = some r) : Zj X g 3 (QI X g r.1 R r.2) R T [none, none, none] [] 61 := by
  unfold pX11_heights_61 at h
  refine z_iconst K (-1) dX11_heights_61 rfl ?_
  obtain rfl := Option.some.inj h
  exact z_iret K dX11_heights_62
set_option maxRecDepth 100000 in
set_option maxHeartbeats 4000000 in
theorem wX11_heights_135 {X : Cx} {g : Gl} {l : Launch} {R : Rf} {a0 : Nat} (K : Ok X g l cX11_heights RX11 3 (some .int) rmX11_heights) (hR : Ty g R) (k0 : kd g a0 = 11) {r : Int32 × Mm} (T : Mm) (x2 : Int32) (h : pX11_heights_135 R a0 T x2 = some r) : Zj X g 3 (QI X g r.1 R r.2) R T [none, none, some (.int x2)] [] 135 := by
  unfold pX11_heights_135 at h
  refine z_iload_n K dX11_heights_135 rfl ?_
  obtain ⟨u7, hc, h⟩ := bd1_e h
  refine z_callSI K (mJ6_bitCount_0f7a4 l hR hc) ceJ6_bitCount_0f7a4 q930 ⟨rfl, rfl, rfl, rfl⟩ rfl rfl rfl dX11_heights_136 ?_
  obtain rfl := Option.some.inj h
  exact z_iret K dX11_heights_139
set_option maxRecDepth 100000 in
set_option maxHeartbeats 4000000 in
theorem wX11_heights_69 {X : Cx} {g : Gl} {l : Launch} {R : Rf} {a0 : Nat} (K : Ok X g l cX11_heights RX11 3 (some .int) rmX11_heights) (hR : Ty g R) (k0 : kd g a0 = 11) {r : Int32 × Mm} (T : Mm) (x1 : Int32) (h : pX11_heights_69 R a0 T x1 = some r) : Zj X g 3 (QI X g r.1 R r.2) R T [some (.ref (g.2.2.1 a0)), some (.int x1), none] [] 69 := by
  unfold pX11_heights_69 at h
  refine z_aload_n K dX11_heights_69 rfl ?_
  refine z_getR K clX11 k0 6 rfl rfl q506 dX11_heights_70 ?_
  refine z_aload_n K dX11_heights_73 rfl ?_
  refine z_getR K clX11 k0 11 rfl rfl q511 dX11_heights_74 ?_
  refine z_aload_n K dX11_heights_77 rfl ?_
  refine z_getR K clX11 k0 1 rfl rfl q501 dX11_heights_78 ?_
  refine z_aload_n K dX11_heights_81 rfl ?_
  refine z_getR K clX11 k0 5 rfl rfl q505 dX11_heights_82 ?_
  obtain ⟨T5, hc, h⟩ := bd1_e h
  refine z_callVV K (mX4_fill l hR (hR.at (k := 6) (t := 4) k0 rfl rfl) (hR.at (k := 11) (t := 3) k0 rfl rfl) (hR.at (k := 1) (t := 1) k0 rfl rfl) (hR.at (k := 5) (t := 6) k0 rfl rfl) hc) clX4 (hR.at (k := 6) (t := 4) k0 rfl rfl) ceX4_fill q980 ⟨rfl, rfl, rfl, rfl⟩ rfl rfl rfl dX11_heights_85 ?_
  refine z_aload_n K dX11_heights_88 rfl ?_
  refine z_getR K clX11 k0 6 rfl rfl q506 dX11_heights_89 ?_
  refine z_aload_n K dX11_heights_92 rfl ?_
  refine z_getR K clX11 k0 0 rfl rfl q500 dX11_heights_93 ?_
  refine z_getR K clX10 (hR.at (k := 0) (t := 10) k0 rfl rfl) 0 rfl rfl q196 dX11_heights_96 ?_
  refine z_iload_n K dX11_heights_99 rfl ?_
  obtain ⟨u6, hc, h⟩ := bd1_e h
  refine z_callVI K (mX4_agreeing l hR (hR.at (k := 6) (t := 4) k0 rfl rfl) (hR.at (k := 0) (t := 20940) (hR.at (k := 0) (t := 10) k0 rfl rfl) rfl rfl) hc) clX4 (hR.at (k := 6) (t := 4) k0 rfl rfl) ceX4_agreeing q988 ⟨rfl, rfl, rfl, rfl⟩ rfl rfl rfl dX11_heights_100 ?_
  refine z_istore_n K dX11_heights_103 rfl rfl ?_
  refine z_iload_n K dX11_heights_104 rfl ?_
  refine z_if_eq K 135 dX11_heights_105 (by decide) (fun c => ?_) (fun c => ?_)
  · have h := ite_t h c
    refine Zj.mask [false, false, true] ?_
    exact wX11_heights_135 K hR k0 _ _ h
  · have h := ite_f h c
    refine z_aload_n K dX11_heights_108 rfl ?_
    refine z_iload_n K dX11_heights_109 rfl ?_
    obtain ⟨u8, hc, h⟩ := bd1_e h
    refine z_callSI K (mX4_leastOf l hR hc) ceX4_leastOf q992 ⟨rfl, rfl, rfl, rfl⟩ rfl rfl rfl dX11_heights_110 ?_
    refine z_putI K clX11 tyX11_ok nmX11 k0 18 rfl rfl q518 rfl rfl rfl dX11_heights_113 ?_
    refine z_aload_n K dX11_heights_116 rfl ?_
    refine z_aload_n K dX11_heights_117 rfl ?_
    refine z_getR K clX11 k0 6 rfl rfl q506 dX11_heights_118 ?_
    refine z_iload_n K dX11_heights_121 rfl ?_
    refine z_aload_n K dX11_heights_122 rfl ?_
    refine z_getR K clX11 k0 11 rfl rfl q511 dX11_heights_123 ?_
    refine z_getI K clX3 (hR.at (k := 11) (t := 3) k0 rfl rfl) 0 rfl rfl q249 dX11_heights_126 ?_
    obtain ⟨u10, hc, h⟩ := bd1_e h
    refine z_callVI K (mX4_bestWatched l hR (hR.at (k := 6) (t := 4) k0 rfl rfl) hc) clX4 (hR.at (k := 6) (t := 4) k0 rfl rfl) ceX4_bestWatched q995 ⟨rfl, rfl, rfl, rfl⟩ rfl rfl rfl dX11_heights_129 ?_
    refine z_putI K clX11 tyX11_ok nmX11 k0 19 rfl rfl q519 rfl rfl rfl dX11_heights_132 ?_
    refine Zj.mask [false, false, true] ?_
    exact wX11_heights_135 K hR k0 _ _ h
set_option maxRecDepth 100000 in
set_option maxHeartbeats 4000000 in
theorem mX11_heights {g : Gl} {R : Rf} {T : Mm} {a0 : Nat} (l : Launch) (hR : Ty g R) (k0 : kd g a0 = 11) {r : Int32 × Mm} (h : pX11_heights R T a0 = some r) : MI l g yX11_heights cX11_heights 3 (some .int) rmX11_heights [.ref (g.2.2.1 a0)] R T r.1 R r.2 := by
  refine z_metI (own := RX11) (lv := [some (.ref (g.2.2.1 a0)), none, none]) (by decide +kernel) rfl rfl rfl (fun X K => ?_)
  unfold pX11_heights at h
  refine z_aload_n K dX11_heights_0 rfl ?_
  refine z_getR K clX11 k0 0 rfl rfl q500 dX11_heights_1 ?_
  refine z_getI K clX10 (hR.at (k := 0) (t := 10) k0 rfl rfl) 1 rfl rfl q197 dX11_heights_4 ?_
  refine z_istore_n K dX11_heights_7 rfl rfl ?_
  refine z_aload_n K dX11_heights_8 rfl ?_
  refine z_getR K clX11 k0 0 rfl rfl q500 dX11_heights_9 ?_
  refine z_iconst K 0 dX11_heights_12 rfl ?_
  refine z_putI K clX10 tyX10_ok nmX10 (hR.at (k := 0) (t := 10) k0 rfl rfl) 1 rfl rfl q197 rfl rfl rfl dX11_heights_13 ?_
  refine z_iload_n K dX11_heights_16 rfl ?_
  refine z_iconst K 2 dX11_heights_17 rfl ?_
  refine z_icmp_lt K 33 dX11_heights_18 (by decide) (fun c => ?_) (fun c => ?_)
  · have h := ite_t h c
    refine z_iconst K (-1) dX11_heights_33 rfl ?_
    obtain rfl := Option.some.inj h
    exact z_iret K dX11_heights_34
  · have h := ite_f h c
    refine z_iload_n K dX11_heights_21 rfl ?_
    refine z_bipush K 10 dX11_heights_22 rfl ?_
    refine z_icmp_gt K 33 dX11_heights_24 (by decide) (fun c => ?_) (fun c => ?_)
    · have h := ite_t h c
      refine z_iconst K (-1) dX11_heights_33 rfl ?_
      obtain rfl := Option.some.inj h
      exact z_iret K dX11_heights_34
    · have h := ite_f h c
      refine z_iload_n K dX11_heights_27 rfl ?_
      refine z_iconst K 2 dX11_heights_28 rfl ?_
      refine z_irem K dX11_heights_29 (by decide) ?_
      refine z_if_eq K 35 dX11_heights_30 (by decide) (fun c => ?_) (fun c => ?_)
      · have h := ite_t h c
        refine z_iconst K 0 dX11_heights_35 rfl ?_
        refine z_istore_n K dX11_heights_36 rfl rfl ?_
        refine Zj.mask [true, true, true] ?_
        exact wX11_heights_37 K hR k0 (wX11_heights_61 K hR k0) (wX11_heights_69 K hR k0) FU _ _ _ h
      · have h := ite_f h c
        refine z_iconst K (-1) dX11_heights_33 rfl ?_
        obtain rfl := Option.some.inj h
        exact z_iret K dX11_heights_34
/-! GoingOver.lowest ()I -/
abbrev rmX11_lowest : Room := { frames := 0, cells := 0, slots := 0, locals := 0 }
def pX11_lowest (R : Rf) (T : Mm) (a0 : Nat) : Option (Int32) :=
  some (T.1 a0 18)
set_option maxRecDepth 100000 in
set_option maxHeartbeats 4000000 in
theorem mX11_lowest {g : Gl} {R : Rf} {T : Mm} {a0 : Nat} (l : Launch) (hR : Ty g R) (k0 : kd g a0 = 11) {r : Int32} (h : pX11_lowest R T a0 = some r) : MI l g yX11_lowest cX11_lowest 1 (some .int) rmX11_lowest [.ref (g.2.2.1 a0)] R T r R T := by
  refine z_metI (own := RX11) (lv := [some (.ref (g.2.2.1 a0))]) (by decide +kernel) rfl rfl rfl (fun X K => ?_)
  unfold pX11_lowest at h
  refine z_aload_n K dX11_lowest_0 rfl ?_
  refine z_getI K clX11 k0 18 rfl rfl q518 dX11_lowest_1 ?_
  obtain rfl := Option.some.inj h
  exact z_iret K dX11_lowest_4
/-! GoingOver.watch ()I -/
abbrev rmX11_watch : Room := { frames := 0, cells := 0, slots := 0, locals := 0 }
def pX11_watch (R : Rf) (T : Mm) (a0 : Nat) : Option (Int32) :=
  some (T.1 a0 19)
set_option maxRecDepth 100000 in
set_option maxHeartbeats 4000000 in
theorem mX11_watch {g : Gl} {R : Rf} {T : Mm} {a0 : Nat} (l : Launch) (hR : Ty g R) (k0 : kd g a0 = 11) {r : Int32} (h : pX11_watch R T a0 = some r) : MI l g yX11_watch cX11_watch 1 (some .int) rmX11_watch [.ref (g.2.2.1 a0)] R T r R T := by
  refine z_metI (own := RX11) (lv := [some (.ref (g.2.2.1 a0))]) (by decide +kernel) rfl rfl rfl (fun X K => ?_)
  unfold pX11_watch at h
  refine z_aload_n K dX11_watch_0 rfl ?_
  refine z_getI K clX11 k0 19 rfl rfl q519 dX11_watch_1 ?_
  obtain rfl := Option.some.inj h
  exact z_iret K dX11_watch_4
/-! GoingOver.heaviest ()I -/
abbrev rmX11_heaviest : Room := { frames := 1, cells := 0, slots := 0, locals := 24 }
def pX11_heaviest_6 (R : Rf) (T : Mm) (a0 : Nat) (e48 : Int32 → Option (Int32)) (r6 : Int32 → Int32 → Int32 → Option (Int32)) (x1 : Int32) (x2 : Int32) (x3 : Int32) : Option (Int32) :=
  if (T.1 (R a0 11) 0) ≤ x3 then e48 x1 else bd1 (pX1_weight R T (R a0 1) (R a0 11) x3) (fun (u1 : Int32) => if u1 ≤ x2 then lt (x3 + 1) (fun (v2 : Int32) => r6 x1 x2 v2) else lt (x3 + 1) (fun (v3 : Int32) => r6 x3 u1 v3))
def pX11_heaviest_48 (R : Rf) (T : Mm) (a0 : Nat) (x1 : Int32) : Option (Int32) :=
  some x1
def pX11_heaviest (R : Rf) (T : Mm) (a0 : Nat) : Option (Int32) :=
  zl3 (pX11_heaviest_6 R T a0 (pX11_heaviest_48 R T a0)) FU (-1) (-1) 0
set_option maxRecDepth 100000 in
set_option maxHeartbeats 4000000 in
theorem wX11_heaviest_6 {X : Cx} {g : Gl} {l : Launch} {R : Rf} {T : Mm} {a0 : Nat} (K : Ok X g l cX11_heaviest RX11 5 (some .int) rmX11_heaviest) (hR : Ty g R) (k0 : kd g a0 = 11) {r : Int32} {e48 : Int32 → Option (Int32)} (he48 : ∀ (x1 : Int32), e48 x1 = some r → Zj X g 5 (QI X g r R T) R T [none, some (.int x1), none, none, none] [] 48) : ∀ (n : Nat) (x1 : Int32) (x2 : Int32) (x3 : Int32), zl3 (pX11_heaviest_6 R T a0 e48) n x1 x2 x3 = some r → Zj X g 5 (QI X g r R T) R T [some (.ref (g.2.2.1 a0)), some (.int x1), some (.int x2), some (.int x3), none] [] 6 := by
  intro n
  induction n with
  | zero =>
    intro x1 x2 x3 h
    exact absurd h (by simp [zl3])
  | succ n hr6 =>
    intro x1 x2 x3 h
    rw [zl3_s] at h
    unfold pX11_heaviest_6 at h
    refine z_iload_n K dX11_heaviest_6 rfl ?_
    refine z_aload_n K dX11_heaviest_7 rfl ?_
    refine z_getR K clX11 k0 11 rfl rfl q511 dX11_heaviest_8 ?_
    refine z_getI K clX3 (hR.at (k := 11) (t := 3) k0 rfl rfl) 0 rfl rfl q249 dX11_heaviest_11 ?_
    refine z_icmp_ge K 48 dX11_heaviest_14 (by decide) (fun c => ?_) (fun c => ?_)
    · have h := ite_t h c
      refine Zj.mask [false, true, false, false, false] ?_
      exact he48 _ h
    · have h := ite_f h c
      refine z_aload_n K dX11_heaviest_17 rfl ?_
      refine z_getR K clX11 k0 1 rfl rfl q501 dX11_heaviest_18 ?_
      refine z_aload_n K dX11_heaviest_21 rfl ?_
      refine z_getR K clX11 k0 11 rfl rfl q511 dX11_heaviest_22 ?_
      refine z_iload_n K dX11_heaviest_25 rfl ?_
      obtain ⟨u1, hc, h⟩ := bd1_e h
      refine z_callVI K (mX1_weight l hR (hR.at (k := 1) (t := 1) k0 rfl rfl) (hR.at (k := 11) (t := 3) k0 rfl rfl) hc) clX1 (hR.at (k := 1) (t := 1) k0 rfl rfl) ceX1_weight q964 ⟨rfl, rfl, rfl, rfl⟩ rfl rfl rfl dX11_heaviest_26 ?_
      refine z_istore K dX11_heaviest_29 rfl rfl ?_
      refine z_iload K dX11_heaviest_31 rfl ?_
      refine z_iload_n K dX11_heaviest_33 rfl ?_
      refine z_icmp_le K 42 dX11_heaviest_34 (by decide) (fun c => ?_) (fun c => ?_)
      · have h := ite_t h c
        refine z_iinc K 1 dX11_heaviest_42 rfl rfl rfl rfl ?_
        refine z_goto K 6 dX11_heaviest_45 (by decide) ?_
        refine Zj.mask [true, true, true, true, false] ?_
        exact hr6 _ _ _ h
      · have h := ite_f h c
        refine z_iload K dX11_heaviest_37 rfl ?_
        refine z_istore_n K dX11_heaviest_39 rfl rfl ?_
        refine z_iload_n K dX11_heaviest_40 rfl ?_
        refine z_istore_n K dX11_heaviest_41 rfl rfl ?_
        refine z_iinc K 1 dX11_heaviest_42 rfl rfl rfl rfl ?_
        refine z_goto K 6 dX11_heaviest_45 (by decide) ?_
        refine Zj.mask [true, true, true, true, false] ?_
        exact hr6 _ _ _ h
set_option maxRecDepth 100000 in
set_option maxHeartbeats 4000000 in
theorem wX11_heaviest_48 {X : Cx} {g : Gl} {l : Launch} {R : Rf} {T : Mm} {a0 : Nat} (K : Ok X g l cX11_heaviest RX11 5 (some .int) rmX11_heaviest) (hR : Ty g R) (k0 : kd g a0 = 11) {r : Int32} (x1 : Int32) (h : pX11_heaviest_48 R T a0 x1 = some r) : Zj X g 5 (QI X g r R T) R T [none, some (.int x1), none, none, none] [] 48 := by
  unfold pX11_heaviest_48 at h
  refine z_iload_n K dX11_heaviest_48 rfl ?_
  obtain rfl := Option.some.inj h
  exact z_iret K dX11_heaviest_49
set_option maxRecDepth 100000 in
set_option maxHeartbeats 4000000 in
theorem mX11_heaviest {g : Gl} {R : Rf} {T : Mm} {a0 : Nat} (l : Launch) (hR : Ty g R) (k0 : kd g a0 = 11) {r : Int32} (h : pX11_heaviest R T a0 = some r) : MI l g yX11_heaviest cX11_heaviest 5 (some .int) rmX11_heaviest [.ref (g.2.2.1 a0)] R T r R T := by
  refine z_metI (own := RX11) (lv := [some (.ref (g.2.2.1 a0)), none, none, none, none]) (by decide +kernel) rfl rfl rfl (fun X K => ?_)
  unfold pX11_heaviest at h
  refine z_iconst K (-1) dX11_heaviest_0 rfl ?_
  refine z_istore_n K dX11_heaviest_1 rfl rfl ?_
  refine z_iconst K (-1) dX11_heaviest_2 rfl ?_
  refine z_istore_n K dX11_heaviest_3 rfl rfl ?_
  refine z_iconst K 0 dX11_heaviest_4 rfl ?_
  refine z_istore_n K dX11_heaviest_5 rfl rfl ?_
  refine Zj.mask [true, true, true, true, false] ?_
  exact wX11_heaviest_6 K hR k0 (wX11_heaviest_48 K hR k0) FU _ _ _ h
/-! GoingOver.commonOf (II)I -/
abbrev rmX11_commonOf : Room := { frames := 0, cells := 0, slots := 0, locals := 0 }
def pX11_commonOf_2 (R : Rf) (T : Mm) (x0 : Int32) (x1 : Int32) (e19 : Int32 → Option (Int32)) (e27 : Option (Int32)) (r2 : Int32 → Option (Int32)) (x2 : Int32) : Option (Int32) :=
  if x2 ≤ 1 then e27 else nz x2 (if (x0 - x0 / x2 * x2) = 0 then nz x2 (if (x1 - x1 / x2 * x2) = 0 then e19 x2 else lt (x2 + (-1)) (fun (v2 : Int32) => r2 v2)) else lt (x2 + (-1)) (fun (v1 : Int32) => r2 v1))
def pX11_commonOf_19 (R : Rf) (T : Mm) (x0 : Int32) (x1 : Int32) (x2 : Int32) : Option (Int32) :=
  some x2
def pX11_commonOf_27 (R : Rf) (T : Mm) (x0 : Int32) (x1 : Int32) : Option (Int32) :=
  some 1
def pX11_commonOf (R : Rf) (T : Mm) (x0 : Int32) (x1 : Int32) : Option (Int32) :=
  zl1 (pX11_commonOf_2 R T x0 x1 (pX11_commonOf_19 R T x0 x1) (pX11_commonOf_27 R T x0 x1)) FU x1
set_option maxRecDepth 100000 in
set_option maxHeartbeats 4000000 in
theorem wX11_commonOf_2 {X : Cx} {g : Gl} {l : Launch} {R : Rf} {T : Mm} {x0 : Int32} {x1 : Int32} (K : Ok X g l cX11_commonOf RX11 3 (some .int) rmX11_commonOf) (hR : Ty g R) {r : Int32} {e19 : Int32 → Option (Int32)} (he19 : ∀ (x2 : Int32), e19 x2 = some r → Zj X g 3 (QI X g r R T) R T [none, none, some (.int x2)] [] 19) {e27 : Option (Int32)} (he27 : e27 = some r → Zj X g 3 (QI X g r R T) R T [none, none, none] [] 27) : ∀ (n : Nat) (x2 : Int32), zl1 (pX11_commonOf_2 R T x0 x1 e19 e27) n x2 = some r → Zj X g 3 (QI X g r R T) R T [some (.int x0), some (.int x1), some (.int x2)] [] 2 := by
  intro n
  induction n with
  | zero =>
    intro x2 h
    exact absurd h (by simp [zl1])
  | succ n hr2 =>
    intro x2 h
    rw [zl1_s] at h
    unfold pX11_commonOf_2 at h
    refine z_iload_n K dX11_commonOf_2 rfl ?_
    refine z_iconst K 1 dX11_commonOf_3 rfl ?_
    refine z_icmp_le K 27 dX11_commonOf_4 (by decide) (fun c => ?_) (fun c => ?_)
    · have h := ite_t h c
      refine Zj.mask [false, false, false] ?_
      exact he27 h
    · have h := ite_f h c
      refine z_iload_n K dX11_commonOf_7 rfl ?_
      refine z_iload_n K dX11_commonOf_8 rfl ?_
      obtain ⟨hz, h⟩ := nz_e h
      refine z_irem K dX11_commonOf_9 hz ?_
      refine z_if_ne K 21 dX11_commonOf_10 (by decide) (fun c => ?_) (fun c => ?_)
      · have h := ite_f h c
        refine z_iinc K (-1) dX11_commonOf_21 rfl rfl rfl rfl ?_
        refine z_goto K 2 dX11_commonOf_24 (by decide) ?_
        refine Zj.mask [true, true, true] ?_
        exact hr2 _ h
      · have h := ite_t h c
        refine z_iload_n K dX11_commonOf_13 rfl ?_
        refine z_iload_n K dX11_commonOf_14 rfl ?_
        obtain ⟨hz, h⟩ := nz_e h
        refine z_irem K dX11_commonOf_15 hz ?_
        refine z_if_ne K 21 dX11_commonOf_16 (by decide) (fun c => ?_) (fun c => ?_)
        · have h := ite_f h c
          refine z_iinc K (-1) dX11_commonOf_21 rfl rfl rfl rfl ?_
          refine z_goto K 2 dX11_commonOf_24 (by decide) ?_
          refine Zj.mask [true, true, true] ?_
          exact hr2 _ h
        · have h := ite_t h c
          refine Zj.mask [false, false, true] ?_
          exact he19 _ h
set_option maxRecDepth 100000 in
set_option maxHeartbeats 4000000 in
theorem wX11_commonOf_19 {X : Cx} {g : Gl} {l : Launch} {R : Rf} {T : Mm} {x0 : Int32} {x1 : Int32} (K : Ok X g l cX11_commonOf RX11 3 (some .int) rmX11_commonOf) (hR : Ty g R) {r : Int32} (x2 : Int32) (h : pX11_commonOf_19 R T x0 x1 x2 = some r) : Zj X g 3 (QI X g r R T) R T [none, none, some (.int x2)] [] 19 := by
  unfold pX11_commonOf_19 at h
  refine z_iload_n K dX11_commonOf_19 rfl ?_
  obtain rfl := Option.some.inj h
  exact z_iret K dX11_commonOf_20
set_option maxRecDepth 100000 in
set_option maxHeartbeats 4000000 in
theorem wX11_commonOf_27 {X : Cx} {g : Gl} {l : Launch} {R : Rf} {T : Mm} {x0 : Int32} {x1 : Int32} (K : Ok X g l cX11_commonOf RX11 3 (some .int) rmX11_commonOf) (hR : Ty g R) {r : Int32} (h : pX11_commonOf_27 R T x0 x1 = some r) : Zj X g 3 (QI X g r R T) R T [none, none, none] [] 27 := by
  unfold pX11_commonOf_27 at h
  refine z_iconst K 1 dX11_commonOf_27 rfl ?_
  obtain rfl := Option.some.inj h
  exact z_iret K dX11_commonOf_28
set_option maxRecDepth 100000 in
set_option maxHeartbeats 4000000 in
theorem mX11_commonOf {g : Gl} {R : Rf} {T : Mm} {x0 : Int32} {x1 : Int32} (l : Launch) (hR : Ty g R) {r : Int32} (h : pX11_commonOf R T x0 x1 = some r) : MI l g yX11_commonOf cX11_commonOf 3 (some .int) rmX11_commonOf [.int x0, .int x1] R T r R T := by
  refine z_metI (own := RX11) (lv := [some (.int x0), some (.int x1), none]) (by decide +kernel) rfl rfl rfl (fun X K => ?_)
  unfold pX11_commonOf at h
  refine z_iload_n K dX11_commonOf_0 rfl ?_
  refine z_istore_n K dX11_commonOf_1 rfl rfl ?_
  refine Zj.mask [true, true, true] ?_
  exact wX11_commonOf_2 K hR (wX11_commonOf_19 K hR) (wX11_commonOf_27 K hR) FU _ h
/-! GoingOver.byteAt (I)I -/
abbrev rmX11_byteAt : Room := { frames := 0, cells := 0, slots := 0, locals := 0 }
def pX11_byteAt (R : Rf) (T : Mm) (a0 : Nat) (x1 : Int32) : Option (Int32) :=
  if x1 < 0 then some (-1) else if (T.1 (R a0 8) 1) ≤ x1 then some (-1) else ix x1 16 (some (T.1 (R (R a0 8) 0) x1.toNatClampNeg))
set_option maxRecDepth 100000 in
set_option maxHeartbeats 4000000 in
theorem mX11_byteAt {g : Gl} {R : Rf} {T : Mm} {a0 : Nat} {x1 : Int32} (l : Launch) (hR : Ty g R) (k0 : kd g a0 = 11) {r : Int32} (h : pX11_byteAt R T a0 x1 = some r) : MI l g yX11_byteAt cX11_byteAt 2 (some .int) rmX11_byteAt [.ref (g.2.2.1 a0), .int x1] R T r R T := by
  refine z_metI (own := RX11) (lv := [some (.ref (g.2.2.1 a0)), some (.int x1)]) (by decide +kernel) rfl rfl rfl (fun X K => ?_)
  unfold pX11_byteAt at h
  refine z_iload_n K dX11_byteAt_0 rfl ?_
  refine z_if_lt K 27 dX11_byteAt_1 (by decide) (fun c => ?_) (fun c => ?_)
  · have h := ite_t h c
    refine z_iconst K (-1) dX11_byteAt_27 rfl ?_
    obtain rfl := Option.some.inj h
    exact z_iret K dX11_byteAt_28
  · have h := ite_f h c
    refine z_iload_n K dX11_byteAt_4 rfl ?_
    refine z_aload_n K dX11_byteAt_5 rfl ?_
    refine z_getR K clX11 k0 8 rfl rfl q508 dX11_byteAt_6 ?_
    refine z_getI K clX9 (hR.at (k := 8) (t := 9) k0 rfl rfl) 1 rfl rfl q441 dX11_byteAt_9 ?_
    refine z_icmp_ge K 27 dX11_byteAt_12 (by decide) (fun c => ?_) (fun c => ?_)
    · have h := ite_t h c
      refine z_iconst K (-1) dX11_byteAt_27 rfl ?_
      obtain rfl := Option.some.inj h
      exact z_iret K dX11_byteAt_28
    · have h := ite_f h c
      refine z_aload_n K dX11_byteAt_15 rfl ?_
      refine z_getR K clX11 k0 8 rfl rfl q508 dX11_byteAt_16 ?_
      refine z_getR K clX9 (hR.at (k := 8) (t := 9) k0 rfl rfl) 0 rfl rfl q439 dX11_byteAt_19 ?_
      refine z_iload_n K dX11_byteAt_22 rfl ?_
      obtain ⟨hi, h⟩ := ix_e h
      refine z_iald K (hR.at (k := 0) (t := 20016) (hR.at (k := 8) (t := 9) k0 rfl rfl) rfl rfl) rfl rfl rfl hi dX11_byteAt_23 ?_
      refine z_goto K 28 dX11_byteAt_24 (by decide) ?_
      obtain rfl := Option.some.inj h
      exact z_iret K dX11_byteAt_28
/-! GoingOver.drawn (II)I -/
abbrev rmX11_drawn : Room := { frames := 5, cells := 0, slots := 0, locals := 119 }
def pX11_drawn (R : Rf) (T : Mm) (a0 : Nat) (x1 : Int32) (x2 : Int32) : Option (Int32 × Mm) :=
  if x1 < 1 then some ((-1), T) else if x1 ≤ 60 then if (T.1 (R a0 1) 0) < 400 then bd1 (pX7_push R T (R a0 3) (R a0 1)) (fun (T1 : Mm) => bd2 (pX2_live R T1 (R a0 7) (R a0 11) (R a0 1) x1 x2) (fun (u2 : Int32) (T2 : Mm) => some (u2, T2))) else some (0, T) else some ((-1), T)
set_option maxRecDepth 100000 in
set_option maxHeartbeats 4000000 in
theorem mX11_drawn {g : Gl} {R : Rf} {T : Mm} {a0 : Nat} {x1 : Int32} {x2 : Int32} (l : Launch) (hR : Ty g R) (k0 : kd g a0 = 11) {r : Int32 × Mm} (h : pX11_drawn R T a0 x1 x2 = some r) : MI l g yX11_drawn cX11_drawn 3 (some .int) rmX11_drawn [.ref (g.2.2.1 a0), .int x1, .int x2] R T r.1 R r.2 := by
  refine z_metI (own := RX11) (lv := [some (.ref (g.2.2.1 a0)), some (.int x1), some (.int x2)]) (by decide +kernel) rfl rfl rfl (fun X K => ?_)
  unfold pX11_drawn at h
  refine z_iload_n K dX11_drawn_0 rfl ?_
  refine z_iconst K 1 dX11_drawn_1 rfl ?_
  refine z_icmp_lt K 11 dX11_drawn_2 (by decide) (fun c => ?_) (fun c => ?_)
  · have h := ite_t h c
    refine z_iconst K (-1) dX11_drawn_11 rfl ?_
    obtain rfl := Option.some.inj h
    exact z_iret K dX11_drawn_12
  · have h := ite_f h c
    refine z_iload_n K dX11_drawn_5 rfl ?_
    refine z_bipush K 60 dX11_drawn_6 rfl ?_
    refine z_icmp_le K 13 dX11_drawn_8 (by decide) (fun c => ?_) (fun c => ?_)
    · have h := ite_t h c
      refine z_aload_n K dX11_drawn_13 rfl ?_
      refine z_getR K clX11 k0 1 rfl rfl q501 dX11_drawn_14 ?_
      refine z_getI K clX1 (hR.at (k := 1) (t := 1) k0 rfl rfl) 0 rfl rfl q335 dX11_drawn_17 ?_
      refine z_sipush K 400 dX11_drawn_20 rfl ?_
      refine z_icmp_lt K 28 dX11_drawn_23 (by decide) (fun c => ?_) (fun c => ?_)
      · have h := ite_t h c
        refine z_aload_n K dX11_drawn_28 rfl ?_
        refine z_getR K clX11 k0 3 rfl rfl q503 dX11_drawn_29 ?_
        refine z_aload_n K dX11_drawn_32 rfl ?_
        refine z_getR K clX11 k0 1 rfl rfl q501 dX11_drawn_33 ?_
        obtain ⟨T1, hc, h⟩ := bd1_e h
        refine z_callVV K (mX7_push l hR (hR.at (k := 3) (t := 7) k0 rfl rfl) (hR.at (k := 1) (t := 1) k0 rfl rfl) hc) clX7 (hR.at (k := 3) (t := 7) k0 rfl rfl) ceX7_push q838 ⟨rfl, rfl, rfl, rfl⟩ rfl rfl rfl dX11_drawn_36 ?_
        refine z_aload_n K dX11_drawn_39 rfl ?_
        refine z_getR K clX11 k0 7 rfl rfl q507 dX11_drawn_40 ?_
        refine z_aload_n K dX11_drawn_43 rfl ?_
        refine z_getR K clX11 k0 11 rfl rfl q511 dX11_drawn_44 ?_
        refine z_aload_n K dX11_drawn_47 rfl ?_
        refine z_getR K clX11 k0 1 rfl rfl q501 dX11_drawn_48 ?_
        refine z_iload_n K dX11_drawn_51 rfl ?_
        refine z_iload_n K dX11_drawn_52 rfl ?_
        obtain ⟨u2, T2, hc, h⟩ := bd2_e h
        refine z_callVI K (mX2_live l hR (hR.at (k := 7) (t := 2) k0 rfl rfl) (hR.at (k := 11) (t := 3) k0 rfl rfl) (hR.at (k := 1) (t := 1) k0 rfl rfl) hc) clX2 (hR.at (k := 7) (t := 2) k0 rfl rfl) ceX2_live q1051 ⟨rfl, rfl, rfl, rfl⟩ rfl rfl rfl dX11_drawn_53 ?_
        obtain rfl := Option.some.inj h
        exact z_iret K dX11_drawn_56
      · have h := ite_f h c
        refine z_iconst K 0 dX11_drawn_26 rfl ?_
        obtain rfl := Option.some.inj h
        exact z_iret K dX11_drawn_27
    · have h := ite_f h c
      refine z_iconst K (-1) dX11_drawn_11 rfl ?_
      obtain rfl := Option.some.inj h
      exact z_iret K dX11_drawn_12
/-! GoingOver.odds (III)I -/
abbrev rmX11_odds : Room := { frames := 5, cells := 0, slots := 0, locals := 119 }
def pX11_odds_30 (R : Rf) (a0 : Nat) (x1 : Int32) (x2 : Int32) (x3 : Int32) (e111 : Mm → Int32 → Option (Int32 × Mm)) (r30 : Mm → Int32 → Int32 → Option (Int32 × Mm)) (T : Mm) (x4 : Int32) (x5 : Int32) : Option (Int32 × Mm) :=
  if x2 ≤ x5 then e111 T x4 else bd1 (pX1_copy R T (R a0 2) (R a0 1)) (fun (T2 : Mm) => bd2 (pX2_live R T2 (R a0 7) (R a0 11) (R a0 2) 20 (x3 + x5)) (fun (u3 : Int32) (T3 : Mm) => ix x1 5 (if (T3.1 (R (R a0 2) 4) x1.toNatClampNeg) < 2 then lt (x5 + 1) (fun (v4 : Int32) => r30 T3 x4 v4) else bd2 (pX6_asTheyAre R T3 (R a0 5) (R a0 11) (R a0 2) x1) (fun (u5 : Int32) (T5 : Mm) => if u5 = 1 then lt (x4 + 1) (fun (v7 : Int32) => lt (x5 + 1) (fun (v8 : Int32) => r30 T5 v7 v8)) else lt (x5 + 1) (fun (v6 : Int32) => r30 T5 x4 v6)))))
def pX11_odds_111 (R : Rf) (a0 : Nat) (x1 : Int32) (x2 : Int32) (x3 : Int32) (T : Mm) (x4 : Int32) : Option (Int32 × Mm) :=
  some (x4, T)
def pX11_odds (R : Rf) (T : Mm) (a0 : Nat) (x1 : Int32) (x2 : Int32) (x3 : Int32) : Option (Int32 × Mm) :=
  bd1 (pX3_hasPerson R T (R a0 11) x1) (fun (u1 : Int32) => if u1 = 0 then some ((-1), T) else if x2 < 1 then some ((-1), T) else if x2 ≤ 30 then zl3 (pX11_odds_30 R a0 x1 x2 x3 (pX11_odds_111 R a0 x1 x2 x3)) FU T 0 0 else some ((-1), T))
set_option maxRecDepth 100000 in
set_option maxHeartbeats 4000000 in
theorem wX11_odds_30 {X : Cx} {g : Gl} {l : Launch} {R : Rf} {a0 : Nat} {x1 : Int32} {x2 : Int32} {x3 : Int32} (K : Ok X g l cX11_odds RX11 6 (some .int) rmX11_odds) (hR : Ty g R) (k0 : kd g a0 = 11) {r : Int32 × Mm} {e111 : Mm → Int32 → Option (Int32 × Mm)} (he111 : ∀ (T : Mm) (x4 : Int32), e111 T x4 = some r → Zj X g 6 (QI X g r.1 R r.2) R T [none, none, none, none, some (.int x4), none] [] 111) : ∀ (n : Nat) (T : Mm) (x4 : Int32) (x5 : Int32), zl3 (pX11_odds_30 R a0 x1 x2 x3 e111) n T x4 x5 = some r → Zj X g 6 (QI X g r.1 R r.2) R T [some (.ref (g.2.2.1 a0)), some (.int x1), some (.int x2), some (.int x3), some (.int x4), some (.int x5)] [] 30 := by
  intro n
  induction n with
  | zero =>
    intro T x4 x5 h
    exact absurd h (by simp [zl3])
  | succ n hr30 =>
    intro T x4 x5 h
    rw [zl3_s] at h
    unfold pX11_odds_30 at h
    refine z_iload K dX11_odds_30 rfl ?_
    refine z_iload_n K dX11_odds_32 rfl ?_
    refine z_icmp_ge K 111 dX11_odds_33 (by decide) (fun c => ?_) (fun c => ?_)
    · have h := ite_t h c
      refine Zj.mask [false, false, false, false, true, false] ?_
      exact he111 _ _ h
    · have h := ite_f h c
      refine z_aload_n K dX11_odds_36 rfl ?_
      refine z_getR K clX11 k0 2 rfl rfl q502 dX11_odds_37 ?_
      refine z_aload_n K dX11_odds_40 rfl ?_
      refine z_getR K clX11 k0 1 rfl rfl q501 dX11_odds_41 ?_
      obtain ⟨T2, hc, h⟩ := bd1_e h
      refine z_callVV K (mX1_copy l hR (hR.at (k := 2) (t := 1) k0 rfl rfl) (hR.at (k := 1) (t := 1) k0 rfl rfl) hc) clX1 (hR.at (k := 2) (t := 1) k0 rfl rfl) ceX1_copy q794 ⟨rfl, rfl, rfl, rfl⟩ rfl rfl rfl dX11_odds_44 ?_
      refine z_aload_n K dX11_odds_47 rfl ?_
      refine z_getR K clX11 k0 7 rfl rfl q507 dX11_odds_48 ?_
      refine z_aload_n K dX11_odds_51 rfl ?_
      refine z_getR K clX11 k0 11 rfl rfl q511 dX11_odds_52 ?_
      refine z_aload_n K dX11_odds_55 rfl ?_
      refine z_getR K clX11 k0 2 rfl rfl q502 dX11_odds_56 ?_
      refine z_bipush K 20 dX11_odds_59 rfl ?_
      refine z_iload_n K dX11_odds_61 rfl ?_
      refine z_iload K dX11_odds_62 rfl ?_
      refine z_iadd K dX11_odds_64 ?_
      obtain ⟨u3, T3, hc, h⟩ := bd2_e h
      refine z_callVI K (mX2_live l hR (hR.at (k := 7) (t := 2) k0 rfl rfl) (hR.at (k := 11) (t := 3) k0 rfl rfl) (hR.at (k := 2) (t := 1) k0 rfl rfl) hc) clX2 (hR.at (k := 7) (t := 2) k0 rfl rfl) ceX2_live q1051 ⟨rfl, rfl, rfl, rfl⟩ rfl rfl rfl dX11_odds_65 ?_
      refine z_pop K dX11_odds_68 rfl ?_
      refine z_aload_n K dX11_odds_69 rfl ?_
      refine z_getR K clX11 k0 2 rfl rfl q502 dX11_odds_70 ?_
      refine z_getR K clX1 (hR.at (k := 2) (t := 1) k0 rfl rfl) 4 rfl rfl q347 dX11_odds_73 ?_
      refine z_iload_n K dX11_odds_76 rfl ?_
      obtain ⟨hi, h⟩ := ix_e h
      refine z_iald K (hR.at (k := 4) (t := 20005) (hR.at (k := 2) (t := 1) k0 rfl rfl) rfl rfl) rfl rfl rfl hi dX11_odds_77 ?_
      refine z_iconst K 2 dX11_odds_78 rfl ?_
      refine z_icmp_lt K 105 dX11_odds_79 (by decide) (fun c => ?_) (fun c => ?_)
      · have h := ite_t h c
        refine z_iinc K 1 dX11_odds_105 rfl rfl rfl rfl ?_
        refine z_goto K 30 dX11_odds_108 (by decide) ?_
        refine Zj.mask [true, true, true, true, true, true] ?_
        exact hr30 _ _ _ h
      · have h := ite_f h c
        refine z_aload_n K dX11_odds_82 rfl ?_
        refine z_getR K clX11 k0 5 rfl rfl q505 dX11_odds_83 ?_
        refine z_aload_n K dX11_odds_86 rfl ?_
        refine z_getR K clX11 k0 11 rfl rfl q511 dX11_odds_87 ?_
        refine z_aload_n K dX11_odds_90 rfl ?_
        refine z_getR K clX11 k0 2 rfl rfl q502 dX11_odds_91 ?_
        refine z_iload_n K dX11_odds_94 rfl ?_
        obtain ⟨u5, T5, hc, h⟩ := bd2_e h
        refine z_callVI K (mX6_asTheyAre l hR (hR.at (k := 5) (t := 6) k0 rfl rfl) (hR.at (k := 11) (t := 3) k0 rfl rfl) (hR.at (k := 2) (t := 1) k0 rfl rfl) hc) clX6 (hR.at (k := 5) (t := 6) k0 rfl rfl) ceX6_asTheyAre q1019 ⟨rfl, rfl, rfl, rfl⟩ rfl rfl rfl dX11_odds_95 ?_
        refine z_iconst K 1 dX11_odds_98 rfl ?_
        refine z_icmp_ne K 105 dX11_odds_99 (by decide) (fun c => ?_) (fun c => ?_)
        · have h := ite_f h c
          refine z_iinc K 1 dX11_odds_105 rfl rfl rfl rfl ?_
          refine z_goto K 30 dX11_odds_108 (by decide) ?_
          refine Zj.mask [true, true, true, true, true, true] ?_
          exact hr30 _ _ _ h
        · have h := ite_t h c
          refine z_iinc K 1 dX11_odds_102 rfl rfl rfl rfl ?_
          refine z_iinc K 1 dX11_odds_105 rfl rfl rfl rfl ?_
          refine z_goto K 30 dX11_odds_108 (by decide) ?_
          refine Zj.mask [true, true, true, true, true, true] ?_
          exact hr30 _ _ _ h
set_option maxRecDepth 100000 in
set_option maxHeartbeats 4000000 in
theorem wX11_odds_111 {X : Cx} {g : Gl} {l : Launch} {R : Rf} {a0 : Nat} {x1 : Int32} {x2 : Int32} {x3 : Int32} (K : Ok X g l cX11_odds RX11 6 (some .int) rmX11_odds) (hR : Ty g R) (k0 : kd g a0 = 11) {r : Int32 × Mm} (T : Mm) (x4 : Int32) (h : pX11_odds_111 R a0 x1 x2 x3 T x4 = some r) : Zj X g 6 (QI X g r.1 R r.2) R T [none, none, none, none, some (.int x4), none] [] 111 := by
  unfold pX11_odds_111 at h
  refine z_iload K dX11_odds_111 rfl ?_
  obtain rfl := Option.some.inj h
  exact z_iret K dX11_odds_113
set_option maxRecDepth 100000 in
set_option maxHeartbeats 4000000 in
theorem mX11_odds {g : Gl} {R : Rf} {T : Mm} {a0 : Nat} {x1 : Int32} {x2 : Int32} {x3 : Int32} (l : Launch) (hR : Ty g R) (k0 : kd g a0 = 11) {r : Int32 × Mm} (h : pX11_odds R T a0 x1 x2 x3 = some r) : MI l g yX11_odds cX11_odds 6 (some .int) rmX11_odds [.ref (g.2.2.1 a0), .int x1, .int x2, .int x3] R T r.1 R r.2 := by
  refine z_metI (own := RX11) (lv := [some (.ref (g.2.2.1 a0)), some (.int x1), some (.int x2), some (.int x3), none, none]) (by decide +kernel) rfl rfl rfl (fun X K => ?_)
  unfold pX11_odds at h
  refine z_aload_n K dX11_odds_0 rfl ?_
  refine z_getR K clX11 k0 11 rfl rfl q511 dX11_odds_1 ?_
  refine z_iload_n K dX11_odds_4 rfl ?_
  obtain ⟨u1, hc, h⟩ := bd1_e h
  refine z_callVI K (mX3_hasPerson l hR (hR.at (k := 11) (t := 3) k0 rfl rfl) hc) clX3 (hR.at (k := 11) (t := 3) k0 rfl rfl) ceX3_hasPerson q786 ⟨rfl, rfl, rfl, rfl⟩ rfl rfl rfl dX11_odds_5 ?_
  refine z_if_eq K 22 dX11_odds_8 (by decide) (fun c => ?_) (fun c => ?_)
  · have h := ite_t h c
    refine z_iconst K (-1) dX11_odds_22 rfl ?_
    obtain rfl := Option.some.inj h
    exact z_iret K dX11_odds_23
  · have h := ite_f h c
    refine z_iload_n K dX11_odds_11 rfl ?_
    refine z_iconst K 1 dX11_odds_12 rfl ?_
    refine z_icmp_lt K 22 dX11_odds_13 (by decide) (fun c => ?_) (fun c => ?_)
    · have h := ite_t h c
      refine z_iconst K (-1) dX11_odds_22 rfl ?_
      obtain rfl := Option.some.inj h
      exact z_iret K dX11_odds_23
    · have h := ite_f h c
      refine z_iload_n K dX11_odds_16 rfl ?_
      refine z_bipush K 30 dX11_odds_17 rfl ?_
      refine z_icmp_le K 24 dX11_odds_19 (by decide) (fun c => ?_) (fun c => ?_)
      · have h := ite_t h c
        refine z_iconst K 0 dX11_odds_24 rfl ?_
        refine z_istore K dX11_odds_25 rfl rfl ?_
        refine z_iconst K 0 dX11_odds_27 rfl ?_
        refine z_istore K dX11_odds_28 rfl rfl ?_
        refine Zj.mask [true, true, true, true, true, true] ?_
        exact wX11_odds_30 K hR k0 (wX11_odds_111 K hR k0) FU _ _ _ h
      · have h := ite_f h c
        refine z_iconst K (-1) dX11_odds_22 rfl ?_
        obtain rfl := Option.some.inj h
        exact z_iret K dX11_odds_23
/-! GoingOver.book (I)I -/
abbrev rmX11_book : Room := { frames := 6, cells := 0, slots := 0, locals := 140 }
def pX11_book_169 (R : Rf) (a0 : Nat) (x1 : Int32) (T : Mm) (x2 : Int32) : Option (Int32 × Mm) :=
  if (T.1 (R a0 4) 0) = 0 then some ((-1), T) else some (x2, T)
def pX11_book_13 (R : Rf) (a0 : Nat) (x1 : Int32) (T : Mm) : Option (Int32 × Mm) :=
  bd1 (pX0_read R T (R a0 4) (R a0 0) (R a0 11)) (fun (T1 : Mm) => lt (wI T1 a0 15 (T1.1 (R a0 0) 2)) (fun (T2 : Mm) => lt (wI T2 (R a0 0) 1 0) (fun (T3 : Mm) => if (T3.1 a0 15) = 0 then bd1 (pX1_copy R T3 (R a0 2) (R a0 1)) (fun (T4 : Mm) => bd2 (pX0_live R T4 (R a0 4) (R a0 11) (R a0 2)) (fun (u5 : Int32) (T5 : Mm) => ix 0 4 (lt (wI T5 (R a0 10) (0 : Int32).toNatClampNeg (T5.1 (R a0 4) 0)) (fun (T6 : Mm) => ix 1 4 (lt (wI T6 (R a0 10) (1 : Int32).toNatClampNeg u5) (fun (T7 : Mm) => ix 2 4 (lt (wI T7 (R a0 10) (2 : Int32).toNatClampNeg (T7.1 (R a0 2) 0)) (fun (T8 : Mm) => ix 3 4 (lt (wI T8 (R a0 10) (3 : Int32).toNatClampNeg (T8.1 (R a0 2) 2)) (fun (T9 : Mm) => if x1 = 1 then if u5 ≤ 0 then pX11_book_169 R a0 x1 T9 u5 else bd1 (pX7_push R T9 (R a0 3) (R a0 1)) (fun (T10 : Mm) => bd1 (pX1_copy R T10 (R a0 1) (R a0 2)) (fun (T11 : Mm) => pX11_book_169 R a0 x1 T11 u5)) else pX11_book_169 R a0 x1 T9 u5)))))))))) else some ((-2) - (T3.1 (R a0 0) 3), T3))))
def pX11_book (R : Rf) (T : Mm) (a0 : Nat) (x1 : Int32) : Option (Int32 × Mm) :=
  if x1 = 0 then pX11_book_13 R a0 x1 T else if x1 = 1 then pX11_book_13 R a0 x1 T else some ((-1000), T)
set_option maxRecDepth 100000 in
set_option maxHeartbeats 4000000 in
theorem wX11_book_169 {X : Cx} {g : Gl} {l : Launch} {R : Rf} {a0 : Nat} {x1 : Int32} (K : Ok X g l cX11_book RX11 3 (some .int) rmX11_book) (hR : Ty g R) (k0 : kd g a0 = 11) {r : Int32 × Mm} (T : Mm) (x2 : Int32) (h : pX11_book_169 R a0 x1 T x2 = some r) : Zj X g 3 (QI X g r.1 R r.2) R T [some (.ref (g.2.2.1 a0)), none, some (.int x2)] [] 169 := by
  unfold pX11_book_169 at h
  refine z_aload_n K dX11_book_169 rfl ?_
  refine z_getR K clX11 k0 4 rfl rfl q504 dX11_book_170 ?_
  refine z_getI K clX0 (hR.at (k := 4) (t := 0) k0 rfl rfl) 0 rfl rfl q387 dX11_book_173 ?_
  refine z_if_ne K 183 dX11_book_176 (by decide) (fun c => ?_) (fun c => ?_)
  · have h := ite_f h c
    refine z_iload_n K dX11_book_183 rfl ?_
    obtain rfl := Option.some.inj h
    exact z_iret K dX11_book_184
  · have h := ite_t h c
    refine z_iconst K (-1) dX11_book_179 rfl ?_
    refine z_goto K 184 dX11_book_180 (by decide) ?_
    obtain rfl := Option.some.inj h
    exact z_iret K dX11_book_184
set_option maxRecDepth 100000 in
set_option maxHeartbeats 4000000 in
theorem wX11_book_13 {X : Cx} {g : Gl} {l : Launch} {R : Rf} {a0 : Nat} {x1 : Int32} (K : Ok X g l cX11_book RX11 3 (some .int) rmX11_book) (hR : Ty g R) (k0 : kd g a0 = 11) {r : Int32 × Mm} (T : Mm) (h : pX11_book_13 R a0 x1 T = some r) : Zj X g 3 (QI X g r.1 R r.2) R T [some (.ref (g.2.2.1 a0)), some (.int x1), none] [] 13 := by
  unfold pX11_book_13 at h
  refine z_aload_n K dX11_book_13 rfl ?_
  refine z_getR K clX11 k0 4 rfl rfl q504 dX11_book_14 ?_
  refine z_aload_n K dX11_book_17 rfl ?_
  refine z_getR K clX11 k0 0 rfl rfl q500 dX11_book_18 ?_
  refine z_aload_n K dX11_book_21 rfl ?_
  refine z_getR K clX11 k0 11 rfl rfl q511 dX11_book_22 ?_
  obtain ⟨T1, hc, h⟩ := bd1_e h
  refine z_callVV K (mX0_read l hR (hR.at (k := 4) (t := 0) k0 rfl rfl) (hR.at (k := 0) (t := 10) k0 rfl rfl) (hR.at (k := 11) (t := 3) k0 rfl rfl) hc) clX0 (hR.at (k := 4) (t := 0) k0 rfl rfl) ceX0_read q1079 ⟨rfl, rfl, rfl, rfl⟩ rfl rfl rfl dX11_book_25 ?_
  refine z_aload_n K dX11_book_28 rfl ?_
  refine z_aload_n K dX11_book_29 rfl ?_
  refine z_getR K clX11 k0 0 rfl rfl q500 dX11_book_30 ?_
  refine z_getI K clX10 (hR.at (k := 0) (t := 10) k0 rfl rfl) 2 rfl rfl q199 dX11_book_33 ?_
  refine z_putI K clX11 tyX11_ok nmX11 k0 15 rfl rfl q515 rfl rfl rfl dX11_book_36 ?_
  refine z_aload_n K dX11_book_39 rfl ?_
  refine z_getR K clX11 k0 0 rfl rfl q500 dX11_book_40 ?_
  refine z_iconst K 0 dX11_book_43 rfl ?_
  refine z_putI K clX10 tyX10_ok nmX10 (hR.at (k := 0) (t := 10) k0 rfl rfl) 1 rfl rfl q197 rfl rfl rfl dX11_book_44 ?_
  refine z_aload_n K dX11_book_47 rfl ?_
  refine z_getI K clX11 k0 15 rfl rfl q515 dX11_book_48 ?_
  refine z_if_eq K 65 dX11_book_51 (by decide) (fun c => ?_) (fun c => ?_)
  · have h := ite_t h c
    refine z_aload_n K dX11_book_65 rfl ?_
    refine z_getR K clX11 k0 2 rfl rfl q502 dX11_book_66 ?_
    refine z_aload_n K dX11_book_69 rfl ?_
    refine z_getR K clX11 k0 1 rfl rfl q501 dX11_book_70 ?_
    obtain ⟨T4, hc, h⟩ := bd1_e h
    refine z_callVV K (mX1_copy l hR (hR.at (k := 2) (t := 1) k0 rfl rfl) (hR.at (k := 1) (t := 1) k0 rfl rfl) hc) clX1 (hR.at (k := 2) (t := 1) k0 rfl rfl) ceX1_copy q794 ⟨rfl, rfl, rfl, rfl⟩ rfl rfl rfl dX11_book_73 ?_
    refine z_aload_n K dX11_book_76 rfl ?_
    refine z_getR K clX11 k0 4 rfl rfl q504 dX11_book_77 ?_
    refine z_aload_n K dX11_book_80 rfl ?_
    refine z_getR K clX11 k0 11 rfl rfl q511 dX11_book_81 ?_
    refine z_aload_n K dX11_book_84 rfl ?_
    refine z_getR K clX11 k0 2 rfl rfl q502 dX11_book_85 ?_
    obtain ⟨u5, T5, hc, h⟩ := bd2_e h
    refine z_callVI K (mX0_live l hR (hR.at (k := 4) (t := 0) k0 rfl rfl) (hR.at (k := 11) (t := 3) k0 rfl rfl) (hR.at (k := 2) (t := 1) k0 rfl rfl) hc) clX0 (hR.at (k := 4) (t := 0) k0 rfl rfl) ceX0_live q1107 ⟨rfl, rfl, rfl, rfl⟩ rfl rfl rfl dX11_book_88 ?_
    refine z_istore_n K dX11_book_91 rfl rfl ?_
    refine z_aload_n K dX11_book_92 rfl ?_
    refine z_getR K clX11 k0 10 rfl rfl q510 dX11_book_93 ?_
    refine z_iconst K 0 dX11_book_96 rfl ?_
    refine z_aload_n K dX11_book_97 rfl ?_
    refine z_getR K clX11 k0 4 rfl rfl q504 dX11_book_98 ?_
    refine z_getI K clX0 (hR.at (k := 4) (t := 0) k0 rfl rfl) 0 rfl rfl q387 dX11_book_101 ?_
    obtain ⟨hi, h⟩ := ix_e h
    refine z_iast K (hR.at (k := 10) (t := 20004) k0 rfl rfl) rfl rfl rfl hi dX11_book_104 ?_
    refine z_aload_n K dX11_book_105 rfl ?_
    refine z_getR K clX11 k0 10 rfl rfl q510 dX11_book_106 ?_
    refine z_iconst K 1 dX11_book_109 rfl ?_
    refine z_iload_n K dX11_book_110 rfl ?_
    obtain ⟨hi, h⟩ := ix_e h
    refine z_iast K (hR.at (k := 10) (t := 20004) k0 rfl rfl) rfl rfl rfl hi dX11_book_111 ?_
    refine z_aload_n K dX11_book_112 rfl ?_
    refine z_getR K clX11 k0 10 rfl rfl q510 dX11_book_113 ?_
    refine z_iconst K 2 dX11_book_116 rfl ?_
    refine z_aload_n K dX11_book_117 rfl ?_
    refine z_getR K clX11 k0 2 rfl rfl q502 dX11_book_118 ?_
    refine z_getI K clX1 (hR.at (k := 2) (t := 1) k0 rfl rfl) 0 rfl rfl q335 dX11_book_121 ?_
    obtain ⟨hi, h⟩ := ix_e h
    refine z_iast K (hR.at (k := 10) (t := 20004) k0 rfl rfl) rfl rfl rfl hi dX11_book_124 ?_
    refine z_aload_n K dX11_book_125 rfl ?_
    refine z_getR K clX11 k0 10 rfl rfl q510 dX11_book_126 ?_
    refine z_iconst K 3 dX11_book_129 rfl ?_
    refine z_aload_n K dX11_book_130 rfl ?_
    refine z_getR K clX11 k0 2 rfl rfl q502 dX11_book_131 ?_
    refine z_getI K clX1 (hR.at (k := 2) (t := 1) k0 rfl rfl) 2 rfl rfl q343 dX11_book_134 ?_
    obtain ⟨hi, h⟩ := ix_e h
    refine z_iast K (hR.at (k := 10) (t := 20004) k0 rfl rfl) rfl rfl rfl hi dX11_book_137 ?_
    refine z_iload_n K dX11_book_138 rfl ?_
    refine z_iconst K 1 dX11_book_139 rfl ?_
    refine z_icmp_ne K 169 dX11_book_140 (by decide) (fun c => ?_) (fun c => ?_)
    · have h := ite_f h c
      refine Zj.mask [true, false, true] ?_
      exact wX11_book_169 K hR k0 _ _ h
    · have h := ite_t h c
      refine z_iload_n K dX11_book_143 rfl ?_
      refine z_if_le K 169 dX11_book_144 (by decide) (fun c => ?_) (fun c => ?_)
      · have h := ite_t h c
        refine Zj.mask [true, false, true] ?_
        exact wX11_book_169 K hR k0 _ _ h
      · have h := ite_f h c
        refine z_aload_n K dX11_book_147 rfl ?_
        refine z_getR K clX11 k0 3 rfl rfl q503 dX11_book_148 ?_
        refine z_aload_n K dX11_book_151 rfl ?_
        refine z_getR K clX11 k0 1 rfl rfl q501 dX11_book_152 ?_
        obtain ⟨T10, hc, h⟩ := bd1_e h
        refine z_callVV K (mX7_push l hR (hR.at (k := 3) (t := 7) k0 rfl rfl) (hR.at (k := 1) (t := 1) k0 rfl rfl) hc) clX7 (hR.at (k := 3) (t := 7) k0 rfl rfl) ceX7_push q838 ⟨rfl, rfl, rfl, rfl⟩ rfl rfl rfl dX11_book_155 ?_
        refine z_aload_n K dX11_book_158 rfl ?_
        refine z_getR K clX11 k0 1 rfl rfl q501 dX11_book_159 ?_
        refine z_aload_n K dX11_book_162 rfl ?_
        refine z_getR K clX11 k0 2 rfl rfl q502 dX11_book_163 ?_
        obtain ⟨T11, hc, h⟩ := bd1_e h
        refine z_callVV K (mX1_copy l hR (hR.at (k := 1) (t := 1) k0 rfl rfl) (hR.at (k := 2) (t := 1) k0 rfl rfl) hc) clX1 (hR.at (k := 1) (t := 1) k0 rfl rfl) ceX1_copy q794 ⟨rfl, rfl, rfl, rfl⟩ rfl rfl rfl dX11_book_166 ?_
        refine Zj.mask [true, false, true] ?_
        exact wX11_book_169 K hR k0 _ _ h
  · have h := ite_f h c
    refine z_bipush K (-2) dX11_book_54 rfl ?_
    refine z_aload_n K dX11_book_56 rfl ?_
    refine z_getR K clX11 k0 0 rfl rfl q500 dX11_book_57 ?_
    refine z_getI K clX10 (hR.at (k := 0) (t := 10) k0 rfl rfl) 3 rfl rfl q202 dX11_book_60 ?_
    refine z_isub K dX11_book_63 ?_
    obtain rfl := Option.some.inj h
    exact z_iret K dX11_book_64
set_option maxRecDepth 100000 in
set_option maxHeartbeats 4000000 in
theorem mX11_book {g : Gl} {R : Rf} {T : Mm} {a0 : Nat} {x1 : Int32} (l : Launch) (hR : Ty g R) (k0 : kd g a0 = 11) {r : Int32 × Mm} (h : pX11_book R T a0 x1 = some r) : MI l g yX11_book cX11_book 3 (some .int) rmX11_book [.ref (g.2.2.1 a0), .int x1] R T r.1 R r.2 := by
  refine z_metI (own := RX11) (lv := [some (.ref (g.2.2.1 a0)), some (.int x1), none]) (by decide +kernel) rfl rfl rfl (fun X K => ?_)
  unfold pX11_book at h
  refine z_iload_n K dX11_book_0 rfl ?_
  refine z_if_eq K 13 dX11_book_1 (by decide) (fun c => ?_) (fun c => ?_)
  · have h := ite_t h c
    refine Zj.mask [true, true, false] ?_
    exact wX11_book_13 K hR k0 _ h
  · have h := ite_f h c
    refine z_iload_n K dX11_book_4 rfl ?_
    refine z_iconst K 1 dX11_book_5 rfl ?_
    refine z_icmp_eq K 13 dX11_book_6 (by decide) (fun c => ?_) (fun c => ?_)
    · have h := ite_t h c
      refine Zj.mask [true, true, false] ?_
      exact wX11_book_13 K hR k0 _ h
    · have h := ite_f h c
      refine z_sipush K (-1000) dX11_book_9 rfl ?_
      obtain rfl := Option.some.inj h
      exact z_iret K dX11_book_12
/-! GoingOver.told (I)I -/
abbrev rmX11_told : Room := { frames := 0, cells := 0, slots := 0, locals := 0 }
def pX11_told (R : Rf) (T : Mm) (a0 : Nat) (x1 : Int32) : Option (Int32) :=
  if x1 < 0 then some (-1) else if 4 ≤ x1 then some (-1) else ix x1 4 (some (T.1 (R a0 10) x1.toNatClampNeg))
set_option maxRecDepth 100000 in
set_option maxHeartbeats 4000000 in
theorem mX11_told {g : Gl} {R : Rf} {T : Mm} {a0 : Nat} {x1 : Int32} (l : Launch) (hR : Ty g R) (k0 : kd g a0 = 11) {r : Int32} (h : pX11_told R T a0 x1 = some r) : MI l g yX11_told cX11_told 2 (some .int) rmX11_told [.ref (g.2.2.1 a0), .int x1] R T r R T := by
  refine z_metI (own := RX11) (lv := [some (.ref (g.2.2.1 a0)), some (.int x1)]) (by decide +kernel) rfl rfl rfl (fun X K => ?_)
  unfold pX11_told at h
  refine z_iload_n K dX11_told_0 rfl ?_
  refine z_if_lt K 18 dX11_told_1 (by decide) (fun c => ?_) (fun c => ?_)
  · have h := ite_t h c
    refine z_iconst K (-1) dX11_told_18 rfl ?_
    obtain rfl := Option.some.inj h
    exact z_iret K dX11_told_19
  · have h := ite_f h c
    refine z_iload_n K dX11_told_4 rfl ?_
    refine z_iconst K 4 dX11_told_5 rfl ?_
    refine z_icmp_ge K 18 dX11_told_6 (by decide) (fun c => ?_) (fun c => ?_)
    · have h := ite_t h c
      refine z_iconst K (-1) dX11_told_18 rfl ?_
      obtain rfl := Option.some.inj h
      exact z_iret K dX11_told_19
    · have h := ite_f h c
      refine z_aload_n K dX11_told_9 rfl ?_
      refine z_getR K clX11 k0 10 rfl rfl q510 dX11_told_10 ?_
      refine z_iload_n K dX11_told_13 rfl ?_
      obtain ⟨hi, h⟩ := ix_e h
      refine z_iald K (hR.at (k := 10) (t := 20004) k0 rfl rfl) rfl rfl rfl hi dX11_told_14 ?_
      refine z_goto K 19 dX11_told_15 (by decide) ?_
      obtain rfl := Option.some.inj h
      exact z_iret K dX11_told_19
/-! GoingOver.sentence ()I -/
abbrev rmX11_sentence : Room := { frames := 83, cells := 0, slots := 0, locals := 2377 }
def pX11_sentence (R : Rf) (T : Mm) (a0 : Nat) : Option (Int32 × Mm × Rf) :=
  bd1 (pX8_read R T (R a0 14) (R a0 0) (R a0 11)) (fun (T1 : Mm) => lt (wI T1 a0 15 (T1.1 (R a0 0) 2)) (fun (T2 : Mm) => lt (wI T2 (R a0 0) 1 0) (fun (T3 : Mm) => if (T3.1 a0 15) = 0 then lt (up2 R a0 13 (R a0 14)) (fun (R4 : Rf) => lt (up2 R4 a0 14 (R a0 13)) (fun (R5 : Rf) => some (T3.1 (R5 a0 13) 0, T3, R5))) else some ((-1) - (T3.1 (R a0 0) 3), T3, R))))
set_option maxRecDepth 100000 in
set_option maxHeartbeats 4000000 in
theorem mX11_sentence {g : Gl} {R : Rf} {T : Mm} {a0 : Nat} (l : Launch) (hR : Ty g R) (k0 : kd g a0 = 11) {r : Int32 × Mm × Rf} (h : pX11_sentence R T a0 = some r) : MI l g yX11_sentence cX11_sentence 2 (some .int) rmX11_sentence [.ref (g.2.2.1 a0)] R T r.1 r.2.2 r.2.1 := by
  refine z_metI (own := RX11) (lv := [some (.ref (g.2.2.1 a0)), none]) (by decide +kernel) rfl rfl rfl (fun X K => ?_)
  unfold pX11_sentence at h
  refine z_aload_n K dX11_sentence_0 rfl ?_
  refine z_getR K clX11 k0 14 rfl rfl q514 dX11_sentence_1 ?_
  refine z_aload_n K dX11_sentence_4 rfl ?_
  refine z_getR K clX11 k0 0 rfl rfl q500 dX11_sentence_5 ?_
  refine z_aload_n K dX11_sentence_8 rfl ?_
  refine z_getR K clX11 k0 11 rfl rfl q511 dX11_sentence_9 ?_
  obtain ⟨T1, hc, h⟩ := bd1_e h
  refine z_callVV K (mX8_read l hR (hR.at (k := 14) (t := 8) k0 rfl rfl) (hR.at (k := 0) (t := 10) k0 rfl rfl) (hR.at (k := 11) (t := 3) k0 rfl rfl) hc) clX8 (hR.at (k := 14) (t := 8) k0 rfl rfl) ceX8_read q1128 ⟨rfl, rfl, rfl, rfl⟩ rfl rfl rfl dX11_sentence_12 ?_
  refine z_aload_n K dX11_sentence_15 rfl ?_
  refine z_aload_n K dX11_sentence_16 rfl ?_
  refine z_getR K clX11 k0 0 rfl rfl q500 dX11_sentence_17 ?_
  refine z_getI K clX10 (hR.at (k := 0) (t := 10) k0 rfl rfl) 2 rfl rfl q199 dX11_sentence_20 ?_
  refine z_putI K clX11 tyX11_ok nmX11 k0 15 rfl rfl q515 rfl rfl rfl dX11_sentence_23 ?_
  refine z_aload_n K dX11_sentence_26 rfl ?_
  refine z_getR K clX11 k0 0 rfl rfl q500 dX11_sentence_27 ?_
  refine z_iconst K 0 dX11_sentence_30 rfl ?_
  refine z_putI K clX10 tyX10_ok nmX10 (hR.at (k := 0) (t := 10) k0 rfl rfl) 1 rfl rfl q197 rfl rfl rfl dX11_sentence_31 ?_
  refine z_aload_n K dX11_sentence_34 rfl ?_
  refine z_getI K clX11 k0 15 rfl rfl q515 dX11_sentence_35 ?_
  refine z_if_eq K 51 dX11_sentence_38 (by decide) (fun c => ?_) (fun c => ?_)
  · have h := ite_t h c
    refine z_aload_n K dX11_sentence_51 rfl ?_
    refine z_getR K clX11 k0 13 rfl rfl q513 dX11_sentence_52 ?_
    refine z_astore_n K dX11_sentence_55 rfl rfl ?_
    refine z_aload_n K dX11_sentence_56 rfl ?_
    refine z_aload_n K dX11_sentence_57 rfl ?_
    refine z_getR K clX11 k0 14 rfl rfl q514 dX11_sentence_58 ?_
    refine z_putR K clX11 tyX11_ok nmX11 k0 13 rfl rfl q513 rfl rfl rfl (hR.at (k := 14) (t := 8) k0 rfl rfl) rfl dX11_sentence_61 ?_
    have hR4 := hR.put2 k0 (k := 13) (t := 8) rfl (hR.at (k := 14) (t := 8) k0 rfl rfl)
    refine z_aload_n K dX11_sentence_64 rfl ?_
    refine z_aload_n K dX11_sentence_65 rfl ?_
    refine z_putR K clX11 tyX11_ok nmX11 k0 14 rfl rfl q514 rfl rfl rfl (hR.at (k := 13) (t := 8) k0 rfl rfl) rfl dX11_sentence_66 ?_
    have hR5 := hR4.put2 k0 (k := 14) (t := 8) rfl (hR.at (k := 13) (t := 8) k0 rfl rfl)
    refine z_aload_n K dX11_sentence_69 rfl ?_
    refine z_getR K clX11 k0 13 rfl rfl q513 dX11_sentence_70 ?_
    refine z_getI K clX8 (hR5.at (k := 13) (t := 8) k0 rfl rfl) 0 rfl rfl q454 dX11_sentence_73 ?_
    obtain rfl := Option.some.inj h
    exact z_iret K dX11_sentence_76
  · have h := ite_f h c
    refine z_iconst K (-1) dX11_sentence_41 rfl ?_
    refine z_aload_n K dX11_sentence_42 rfl ?_
    refine z_getR K clX11 k0 0 rfl rfl q500 dX11_sentence_43 ?_
    refine z_getI K clX10 (hR.at (k := 0) (t := 10) k0 rfl rfl) 3 rfl rfl q202 dX11_sentence_46 ?_
    refine z_isub K dX11_sentence_49 ?_
    obtain rfl := Option.some.inj h
    exact z_iret K dX11_sentence_50
/-! GoingOver.said (I)I -/
abbrev rmX11_said : Room := { frames := 5, cells := 0, slots := 0, locals := 124 }
def pX11_said_21 (R : Rf) (a0 : Nat) (x1 : Int32) (e60 : Mm → Int32 → Option (Int32 × Mm)) (e71 : Mm → Int32 → Option (Int32 × Mm)) (r21 : Mm → Int32 → Int32 → Option (Int32 × Mm)) (T : Mm) (x2 : Int32) (x3 : Int32) : Option (Int32 × Mm) :=
  if (T.1 (R a0 11) 0) ≤ x3 then e71 T x2 else bd2 (pX8_holdsOf R T (R a0 13) (R a0 11) (R a0 1) (R a0 5) x3) (fun (u1 : Int32) (T1 : Mm) => if u1 = 0 then lt (x3 + 1) (fun (v2 : Int32) => r21 T1 x2 v2) else if x2 = x1 then e60 T1 x3 else lt (x2 + 1) (fun (v3 : Int32) => lt (x3 + 1) (fun (v4 : Int32) => r21 T1 v3 v4)))
def pX11_said_60 (R : Rf) (a0 : Nat) (x1 : Int32) (T : Mm) (x3 : Int32) : Option (Int32 × Mm) :=
  some (x3, T)
def pX11_said_71 (R : Rf) (a0 : Nat) (x1 : Int32) (T : Mm) (x2 : Int32) : Option (Int32 × Mm) :=
  if x1 = (-1) then some (x2, T) else some ((-1), T)
def pX11_said (R : Rf) (T : Mm) (a0 : Nat) (x1 : Int32) : Option (Int32 × Mm) :=
  if (T.1 (R a0 13) 1) = 0 then some ((-1), T) else if (-1) ≤ x1 then zl3 (pX11_said_21 R a0 x1 (pX11_said_60 R a0 x1) (pX11_said_71 R a0 x1)) FU T 0 0 else some ((-1), T)
set_option maxRecDepth 100000 in
set_option maxHeartbeats 4000000 in
theorem wX11_said_21 {X : Cx} {g : Gl} {l : Launch} {R : Rf} {a0 : Nat} {x1 : Int32} (K : Ok X g l cX11_said RX11 4 (some .int) rmX11_said) (hR : Ty g R) (k0 : kd g a0 = 11) {r : Int32 × Mm} {e60 : Mm → Int32 → Option (Int32 × Mm)} (he60 : ∀ (T : Mm) (x3 : Int32), e60 T x3 = some r → Zj X g 4 (QI X g r.1 R r.2) R T [none, none, none, some (.int x3)] [] 60) {e71 : Mm → Int32 → Option (Int32 × Mm)} (he71 : ∀ (T : Mm) (x2 : Int32), e71 T x2 = some r → Zj X g 4 (QI X g r.1 R r.2) R T [none, some (.int x1), some (.int x2), none] [] 71) : ∀ (n : Nat) (T : Mm) (x2 : Int32) (x3 : Int32), zl3 (pX11_said_21 R a0 x1 e60 e71) n T x2 x3 = some r → Zj X g 4 (QI X g r.1 R r.2) R T [some (.ref (g.2.2.1 a0)), some (.int x1), some (.int x2), some (.int x3)] [] 21 := by
  intro n
  induction n with
  | zero =>
    intro T x2 x3 h
    exact absurd h (by simp [zl3])
  | succ n hr21 =>
    intro T x2 x3 h
    rw [zl3_s] at h
    unfold pX11_said_21 at h
    refine z_iload_n K dX11_said_21 rfl ?_
    refine z_aload_n K dX11_said_22 rfl ?_
    refine z_getR K clX11 k0 11 rfl rfl q511 dX11_said_23 ?_
    refine z_getI K clX3 (hR.at (k := 11) (t := 3) k0 rfl rfl) 0 rfl rfl q249 dX11_said_26 ?_
    refine z_icmp_ge K 71 dX11_said_29 (by decide) (fun c => ?_) (fun c => ?_)
    · have h := ite_t h c
      refine Zj.mask [false, true, true, false] ?_
      exact he71 _ _ h
    · have h := ite_f h c
      refine z_aload_n K dX11_said_32 rfl ?_
      refine z_getR K clX11 k0 13 rfl rfl q513 dX11_said_33 ?_
      refine z_aload_n K dX11_said_36 rfl ?_
      refine z_getR K clX11 k0 11 rfl rfl q511 dX11_said_37 ?_
      refine z_aload_n K dX11_said_40 rfl ?_
      refine z_getR K clX11 k0 1 rfl rfl q501 dX11_said_41 ?_
      refine z_aload_n K dX11_said_44 rfl ?_
      refine z_getR K clX11 k0 5 rfl rfl q505 dX11_said_45 ?_
      refine z_iload_n K dX11_said_48 rfl ?_
      obtain ⟨u1, T1, hc, h⟩ := bd2_e h
      refine z_callVI K (mX8_holdsOf l hR (hR.at (k := 13) (t := 8) k0 rfl rfl) (hR.at (k := 11) (t := 3) k0 rfl rfl) (hR.at (k := 1) (t := 1) k0 rfl rfl) (hR.at (k := 5) (t := 6) k0 rfl rfl) hc) clX8 (hR.at (k := 13) (t := 8) k0 rfl rfl) ceX8_holdsOf q1165 ⟨rfl, rfl, rfl, rfl⟩ rfl rfl rfl dX11_said_49 ?_
      refine z_if_eq K 65 dX11_said_52 (by decide) (fun c => ?_) (fun c => ?_)
      · have h := ite_t h c
        refine z_iinc K 1 dX11_said_65 rfl rfl rfl rfl ?_
        refine z_goto K 21 dX11_said_68 (by decide) ?_
        refine Zj.mask [true, true, true, true] ?_
        exact hr21 _ _ _ h
      · have h := ite_f h c
        refine z_iload_n K dX11_said_55 rfl ?_
        refine z_iload_n K dX11_said_56 rfl ?_
        refine z_icmp_ne K 62 dX11_said_57 (by decide) (fun c => ?_) (fun c => ?_)
        · have h := ite_f h c
          refine z_iinc K 1 dX11_said_62 rfl rfl rfl rfl ?_
          refine z_iinc K 1 dX11_said_65 rfl rfl rfl rfl ?_
          refine z_goto K 21 dX11_said_68 (by decide) ?_
          refine Zj.mask [true, true, true, true] ?_
          exact hr21 _ _ _ h
        · have h := ite_t h c
          refine Zj.mask [false, false, false, true] ?_
          exact he60 _ _ h
set_option maxRecDepth 100000 in
set_option maxHeartbeats 4000000 in
theorem wX11_said_60 {X : Cx} {g : Gl} {l : Launch} {R : Rf} {a0 : Nat} {x1 : Int32} (K : Ok X g l cX11_said RX11 4 (some .int) rmX11_said) (hR : Ty g R) (k0 : kd g a0 = 11) {r : Int32 × Mm} (T : Mm) (x3 : Int32) (h : pX11_said_60 R a0 x1 T x3 = some r) : Zj X g 4 (QI X g r.1 R r.2) R T [none, none, none, some (.int x3)] [] 60 := by
  unfold pX11_said_60 at h
  refine z_iload_n K dX11_said_60 rfl ?_
  obtain rfl := Option.some.inj h
  exact z_iret K dX11_said_61
set_option maxRecDepth 100000 in
set_option maxHeartbeats 4000000 in
theorem wX11_said_71 {X : Cx} {g : Gl} {l : Launch} {R : Rf} {a0 : Nat} {x1 : Int32} (K : Ok X g l cX11_said RX11 4 (some .int) rmX11_said) (hR : Ty g R) (k0 : kd g a0 = 11) {r : Int32 × Mm} (T : Mm) (x2 : Int32) (h : pX11_said_71 R a0 x1 T x2 = some r) : Zj X g 4 (QI X g r.1 R r.2) R T [none, some (.int x1), some (.int x2), none] [] 71 := by
  unfold pX11_said_71 at h
  refine z_iload_n K dX11_said_71 rfl ?_
  refine z_iconst K (-1) dX11_said_72 rfl ?_
  refine z_icmp_ne K 80 dX11_said_73 (by decide) (fun c => ?_) (fun c => ?_)
  · have h := ite_f h c
    refine z_iconst K (-1) dX11_said_80 rfl ?_
    obtain rfl := Option.some.inj h
    exact z_iret K dX11_said_81
  · have h := ite_t h c
    refine z_iload_n K dX11_said_76 rfl ?_
    refine z_goto K 81 dX11_said_77 (by decide) ?_
    obtain rfl := Option.some.inj h
    exact z_iret K dX11_said_81
set_option maxRecDepth 100000 in
set_option maxHeartbeats 4000000 in
theorem mX11_said {g : Gl} {R : Rf} {T : Mm} {a0 : Nat} {x1 : Int32} (l : Launch) (hR : Ty g R) (k0 : kd g a0 = 11) {r : Int32 × Mm} (h : pX11_said R T a0 x1 = some r) : MI l g yX11_said cX11_said 4 (some .int) rmX11_said [.ref (g.2.2.1 a0), .int x1] R T r.1 R r.2 := by
  refine z_metI (own := RX11) (lv := [some (.ref (g.2.2.1 a0)), some (.int x1), none, none]) (by decide +kernel) rfl rfl rfl (fun X K => ?_)
  unfold pX11_said at h
  refine z_aload_n K dX11_said_0 rfl ?_
  refine z_getR K clX11 k0 13 rfl rfl q513 dX11_said_1 ?_
  refine z_getI K clX8 (hR.at (k := 13) (t := 8) k0 rfl rfl) 1 rfl rfl q456 dX11_said_4 ?_
  refine z_if_eq K 15 dX11_said_7 (by decide) (fun c => ?_) (fun c => ?_)
  · have h := ite_t h c
    refine z_iconst K (-1) dX11_said_15 rfl ?_
    obtain rfl := Option.some.inj h
    exact z_iret K dX11_said_16
  · have h := ite_f h c
    refine z_iload_n K dX11_said_10 rfl ?_
    refine z_iconst K (-1) dX11_said_11 rfl ?_
    refine z_icmp_ge K 17 dX11_said_12 (by decide) (fun c => ?_) (fun c => ?_)
    · have h := ite_t h c
      refine z_iconst K 0 dX11_said_17 rfl ?_
      refine z_istore_n K dX11_said_18 rfl rfl ?_
      refine z_iconst K 0 dX11_said_19 rfl ?_
      refine z_istore_n K dX11_said_20 rfl rfl ?_
      refine Zj.mask [true, true, true, true] ?_
      exact wX11_said_21 K hR k0 (wX11_said_60 K hR k0) (wX11_said_71 K hR k0) FU _ _ _ h
    · have h := ite_f h c
      refine z_iconst K (-1) dX11_said_15 rfl ?_
      obtain rfl := Option.some.inj h
      exact z_iret K dX11_said_16
/-! GoingOver.image (I)Z -/
abbrev rmX11_image : Room := { frames := 2, cells := 0, slots := 0, locals := 81 }
def pX11_image (R : Rf) (T : Mm) (a0 : Nat) (x1 : Int32) : Option (Int32 × Mm) :=
  if x1 < 0 then some (0, T) else if x1 ≤ 1 then ix x1 2 (bd1 (pX3_copy R T (R (R (R a0 9) x1.toNatClampNeg) 1) (R a0 11)) (fun (T1 : Mm) => bd1 (pX1_copy R T1 (R (R (R a0 9) x1.toNatClampNeg) 2) (R a0 1)) (fun (T2 : Mm) => bd1 (pX8_copy R T2 (R (R (R a0 9) x1.toNatClampNeg) 3) (R a0 13)) (fun (T3 : Mm) => lt (wI T3 (R (R a0 9) x1.toNatClampNeg) 0 1) (fun (T4 : Mm) => some (1, T4)))))) else some (0, T)
set_option maxRecDepth 100000 in
set_option maxHeartbeats 4000000 in
theorem mX11_image {g : Gl} {R : Rf} {T : Mm} {a0 : Nat} {x1 : Int32} (l : Launch) (hR : Ty g R) (k0 : kd g a0 = 11) {r : Int32 × Mm} (h : pX11_image R T a0 x1 = some r) : MI l g yX11_image cX11_image 3 (some .boolean) rmX11_image [.ref (g.2.2.1 a0), .int x1] R T r.1 R r.2 := by
  refine z_metI (own := RX11) (lv := [some (.ref (g.2.2.1 a0)), some (.int x1), none]) (by decide +kernel) rfl rfl rfl (fun X K => ?_)
  unfold pX11_image at h
  refine z_iload_n K dX11_image_0 rfl ?_
  refine z_if_lt K 9 dX11_image_1 (by decide) (fun c => ?_) (fun c => ?_)
  · have h := ite_t h c
    refine z_iconst K 0 dX11_image_9 rfl ?_
    obtain rfl := Option.some.inj h
    exact z_zret (v := 0) K rfl dX11_image_10
  · have h := ite_f h c
    refine z_iload_n K dX11_image_4 rfl ?_
    refine z_iconst K 1 dX11_image_5 rfl ?_
    refine z_icmp_le K 11 dX11_image_6 (by decide) (fun c => ?_) (fun c => ?_)
    · have h := ite_t h c
      refine z_aload_n K dX11_image_11 rfl ?_
      refine z_getR K clX11 k0 9 rfl rfl q509 dX11_image_12 ?_
      refine z_iload_n K dX11_image_15 rfl ?_
      obtain ⟨hi, h⟩ := ix_e h
      refine z_aald5 K (hR.at (k := 9) (t := 60002) k0 rfl rfl) rfl rfl rfl hi dX11_image_16 ?_
      refine z_astore_n K dX11_image_17 rfl rfl ?_
      refine z_aload_n K dX11_image_18 rfl ?_
      refine z_getR K clX5 (hR.at (t := 5) (hR.at (k := 9) (t := 60002) k0 rfl rfl) rfl rfl) 1 rfl rfl q486 dX11_image_19 ?_
      refine z_aload_n K dX11_image_22 rfl ?_
      refine z_getR K clX11 k0 11 rfl rfl q511 dX11_image_23 ?_
      obtain ⟨T1, hc, h⟩ := bd1_e h
      refine z_callVV K (mX3_copy l hR (hR.at (k := 1) (t := 3) (hR.at (t := 5) (hR.at (k := 9) (t := 60002) k0 rfl rfl) rfl rfl) rfl rfl) (hR.at (k := 11) (t := 3) k0 rfl rfl) hc) clX3 (hR.at (k := 1) (t := 3) (hR.at (t := 5) (hR.at (k := 9) (t := 60002) k0 rfl rfl) rfl rfl) rfl rfl) ceX3_copy q1184 ⟨rfl, rfl, rfl, rfl⟩ rfl rfl rfl dX11_image_26 ?_
      refine z_aload_n K dX11_image_29 rfl ?_
      refine z_getR K clX5 (hR.at (t := 5) (hR.at (k := 9) (t := 60002) k0 rfl rfl) rfl rfl) 2 rfl rfl q488 dX11_image_30 ?_
      refine z_aload_n K dX11_image_33 rfl ?_
      refine z_getR K clX11 k0 1 rfl rfl q501 dX11_image_34 ?_
      obtain ⟨T2, hc, h⟩ := bd1_e h
      refine z_callVV K (mX1_copy l hR (hR.at (k := 2) (t := 1) (hR.at (t := 5) (hR.at (k := 9) (t := 60002) k0 rfl rfl) rfl rfl) rfl rfl) (hR.at (k := 1) (t := 1) k0 rfl rfl) hc) clX1 (hR.at (k := 2) (t := 1) (hR.at (t := 5) (hR.at (k := 9) (t := 60002) k0 rfl rfl) rfl rfl) rfl rfl) ceX1_copy q794 ⟨rfl, rfl, rfl, rfl⟩ rfl rfl rfl dX11_image_37 ?_
      refine z_aload_n K dX11_image_40 rfl ?_
      refine z_getR K clX5 (hR.at (t := 5) (hR.at (k := 9) (t := 60002) k0 rfl rfl) rfl rfl) 3 rfl rfl q490 dX11_image_41 ?_
      refine z_aload_n K dX11_image_44 rfl ?_
      refine z_getR K clX11 k0 13 rfl rfl q513 dX11_image_45 ?_
      obtain ⟨T3, hc, h⟩ := bd1_e h
      refine z_callVV K (mX8_copy l hR (hR.at (k := 3) (t := 8) (hR.at (t := 5) (hR.at (k := 9) (t := 60002) k0 rfl rfl) rfl rfl) rfl rfl) (hR.at (k := 13) (t := 8) k0 rfl rfl) hc) clX8 (hR.at (k := 3) (t := 8) (hR.at (t := 5) (hR.at (k := 9) (t := 60002) k0 rfl rfl) rfl rfl) rfl rfl) ceX8_copy q1189 ⟨rfl, rfl, rfl, rfl⟩ rfl rfl rfl dX11_image_48 ?_
      refine z_aload_n K dX11_image_51 rfl ?_
      refine z_iconst K 1 dX11_image_52 rfl ?_
      refine z_putI K clX5 tyX5_ok nmX5 (hR.at (t := 5) (hR.at (k := 9) (t := 60002) k0 rfl rfl) rfl rfl) 0 rfl rfl q484 rfl rfl rfl dX11_image_53 ?_
      refine z_iconst K 1 dX11_image_56 rfl ?_
      obtain rfl := Option.some.inj h
      exact z_zret (v := 1) K rfl dX11_image_57
    · have h := ite_f h c
      refine z_iconst K 0 dX11_image_9 rfl ?_
      obtain rfl := Option.some.inj h
      exact z_zret (v := 0) K rfl dX11_image_10
/-! GoingOver.restore (I)Z -/
abbrev rmX11_restore : Room := { frames := 2, cells := 0, slots := 0, locals := 81 }
def pX11_restore (R : Rf) (T : Mm) (a0 : Nat) (x1 : Int32) : Option (Int32 × Mm) :=
  if x1 < 0 then some (0, T) else if 1 < x1 then some (0, T) else ix x1 2 (if (T.1 (R (R a0 9) x1.toNatClampNeg) 0) = 0 then some (0, T) else ix x1 2 (bd1 (pX3_copy R T (R a0 11) (R (R (R a0 9) x1.toNatClampNeg) 1)) (fun (T1 : Mm) => bd1 (pX1_copy R T1 (R a0 1) (R (R (R a0 9) x1.toNatClampNeg) 2)) (fun (T2 : Mm) => bd1 (pX8_copy R T2 (R a0 13) (R (R (R a0 9) x1.toNatClampNeg) 3)) (fun (T3 : Mm) => lt (wI T3 (R a0 3) 0 0) (fun (T4 : Mm) => some (1, T4)))))))
set_option maxRecDepth 100000 in
set_option maxHeartbeats 4000000 in
theorem mX11_restore {g : Gl} {R : Rf} {T : Mm} {a0 : Nat} {x1 : Int32} (l : Launch) (hR : Ty g R) (k0 : kd g a0 = 11) {r : Int32 × Mm} (h : pX11_restore R T a0 x1 = some r) : MI l g yX11_restore cX11_restore 3 (some .boolean) rmX11_restore [.ref (g.2.2.1 a0), .int x1] R T r.1 R r.2 := by
  refine z_metI (own := RX11) (lv := [some (.ref (g.2.2.1 a0)), some (.int x1), none]) (by decide +kernel) rfl rfl rfl (fun X K => ?_)
  unfold pX11_restore at h
  refine z_iload_n K dX11_restore_0 rfl ?_
  refine z_if_lt K 21 dX11_restore_1 (by decide) (fun c => ?_) (fun c => ?_)
  · have h := ite_t h c
    refine z_iconst K 0 dX11_restore_21 rfl ?_
    obtain rfl := Option.some.inj h
    exact z_zret (v := 0) K rfl dX11_restore_22
  · have h := ite_f h c
    refine z_iload_n K dX11_restore_4 rfl ?_
    refine z_iconst K 1 dX11_restore_5 rfl ?_
    refine z_icmp_gt K 21 dX11_restore_6 (by decide) (fun c => ?_) (fun c => ?_)
    · have h := ite_t h c
      refine z_iconst K 0 dX11_restore_21 rfl ?_
      obtain rfl := Option.some.inj h
      exact z_zret (v := 0) K rfl dX11_restore_22
    · have h := ite_f h c
      refine z_aload_n K dX11_restore_9 rfl ?_
      refine z_getR K clX11 k0 9 rfl rfl q509 dX11_restore_10 ?_
      refine z_iload_n K dX11_restore_13 rfl ?_
      obtain ⟨hi, h⟩ := ix_e h
      refine z_aald5 K (hR.at (k := 9) (t := 60002) k0 rfl rfl) rfl rfl rfl hi dX11_restore_14 ?_
      refine z_getI K clX5 (hR.at (t := 5) (hR.at (k := 9) (t := 60002) k0 rfl rfl) rfl rfl) 0 rfl rfl q484 dX11_restore_15 ?_
      refine z_if_ne K 23 dX11_restore_18 (by decide) (fun c => ?_) (fun c => ?_)
      · have h := ite_f h c
        refine z_aload_n K dX11_restore_23 rfl ?_
        refine z_getR K clX11 k0 9 rfl rfl q509 dX11_restore_24 ?_
        refine z_iload_n K dX11_restore_27 rfl ?_
        obtain ⟨hi, h⟩ := ix_e h
        refine z_aald5 K (hR.at (k := 9) (t := 60002) k0 rfl rfl) rfl rfl rfl hi dX11_restore_28 ?_
        refine z_astore_n K dX11_restore_29 rfl rfl ?_
        refine z_aload_n K dX11_restore_30 rfl ?_
        refine z_getR K clX11 k0 11 rfl rfl q511 dX11_restore_31 ?_
        refine z_aload_n K dX11_restore_34 rfl ?_
        refine z_getR K clX5 (hR.at (t := 5) (hR.at (k := 9) (t := 60002) k0 rfl rfl) rfl rfl) 1 rfl rfl q486 dX11_restore_35 ?_
        obtain ⟨T1, hc, h⟩ := bd1_e h
        refine z_callVV K (mX3_copy l hR (hR.at (k := 11) (t := 3) k0 rfl rfl) (hR.at (k := 1) (t := 3) (hR.at (t := 5) (hR.at (k := 9) (t := 60002) k0 rfl rfl) rfl rfl) rfl rfl) hc) clX3 (hR.at (k := 11) (t := 3) k0 rfl rfl) ceX3_copy q1184 ⟨rfl, rfl, rfl, rfl⟩ rfl rfl rfl dX11_restore_38 ?_
        refine z_aload_n K dX11_restore_41 rfl ?_
        refine z_getR K clX11 k0 1 rfl rfl q501 dX11_restore_42 ?_
        refine z_aload_n K dX11_restore_45 rfl ?_
        refine z_getR K clX5 (hR.at (t := 5) (hR.at (k := 9) (t := 60002) k0 rfl rfl) rfl rfl) 2 rfl rfl q488 dX11_restore_46 ?_
        obtain ⟨T2, hc, h⟩ := bd1_e h
        refine z_callVV K (mX1_copy l hR (hR.at (k := 1) (t := 1) k0 rfl rfl) (hR.at (k := 2) (t := 1) (hR.at (t := 5) (hR.at (k := 9) (t := 60002) k0 rfl rfl) rfl rfl) rfl rfl) hc) clX1 (hR.at (k := 1) (t := 1) k0 rfl rfl) ceX1_copy q794 ⟨rfl, rfl, rfl, rfl⟩ rfl rfl rfl dX11_restore_49 ?_
        refine z_aload_n K dX11_restore_52 rfl ?_
        refine z_getR K clX11 k0 13 rfl rfl q513 dX11_restore_53 ?_
        refine z_aload_n K dX11_restore_56 rfl ?_
        refine z_getR K clX5 (hR.at (t := 5) (hR.at (k := 9) (t := 60002) k0 rfl rfl) rfl rfl) 3 rfl rfl q490 dX11_restore_57 ?_
        obtain ⟨T3, hc, h⟩ := bd1_e h
        refine z_callVV K (mX8_copy l hR (hR.at (k := 13) (t := 8) k0 rfl rfl) (hR.at (k := 3) (t := 8) (hR.at (t := 5) (hR.at (k := 9) (t := 60002) k0 rfl rfl) rfl rfl) rfl rfl) hc) clX8 (hR.at (k := 13) (t := 8) k0 rfl rfl) ceX8_copy q1189 ⟨rfl, rfl, rfl, rfl⟩ rfl rfl rfl dX11_restore_60 ?_
        refine z_aload_n K dX11_restore_63 rfl ?_
        refine z_getR K clX11 k0 3 rfl rfl q503 dX11_restore_64 ?_
        refine z_iconst K 0 dX11_restore_67 rfl ?_
        refine z_putI K clX7 tyX7_ok nmX7 (hR.at (k := 3) (t := 7) k0 rfl rfl) 0 rfl rfl q370 rfl rfl rfl dX11_restore_68 ?_
        refine z_iconst K 1 dX11_restore_71 rfl ?_
        obtain rfl := Option.some.inj h
        exact z_zret (v := 1) K rfl dX11_restore_72
      · have h := ite_t h c
        refine z_iconst K 0 dX11_restore_21 rfl ?_
        obtain rfl := Option.some.inj h
        exact z_zret (v := 0) K rfl dX11_restore_22
/-! GoingOver.count (I)I -/
abbrev rmX11_count : Room := { frames := 0, cells := 0, slots := 0, locals := 0 }
def pX11_count (R : Rf) (T : Mm) (a0 : Nat) (x1 : Int32) : Option (Int32) :=
  if x1 = 0 then some (T.1 (R a0 11) 0) else if x1 = 1 then some (T.1 (R a0 11) 1) else if x1 = 2 then some (T.1 (R a0 11) 2) else if x1 = 3 then some (T.1 (R a0 11) 3) else if x1 = 4 then some (T.1 (R a0 11) 4) else if x1 = 5 then some (T.1 (R a0 0) 1) else some (-1)
set_option maxRecDepth 100000 in
set_option maxHeartbeats 4000000 in
theorem mX11_count {g : Gl} {R : Rf} {T : Mm} {a0 : Nat} {x1 : Int32} (l : Launch) (hR : Ty g R) (k0 : kd g a0 = 11) {r : Int32} (h : pX11_count R T a0 x1 = some r) : MI l g yX11_count cX11_count 2 (some .int) rmX11_count [.ref (g.2.2.1 a0), .int x1] R T r R T := by
  refine z_metI (own := RX11) (lv := [some (.ref (g.2.2.1 a0)), some (.int x1)]) (by decide +kernel) rfl rfl rfl (fun X K => ?_)
  unfold pX11_count at h
  refine z_iload_n K dX11_count_0 rfl ?_
  rcases ite_or h with ⟨c0, h⟩ | ⟨c0, h⟩
  · refine z_tin K 40 0 c0 dX11_count_1 (by decide) (by decide) rfl (by decide) ?_
    refine z_aload_n K dX11_count_40 rfl ?_
    refine z_getR K clX11 k0 11 rfl rfl q511 dX11_count_41 ?_
    refine z_getI K clX3 (hR.at (k := 11) (t := 3) k0 rfl rfl) 0 rfl rfl q249 dX11_count_44 ?_
    obtain rfl := Option.some.inj h
    exact z_iret K dX11_count_47
  rcases ite_or h with ⟨c1, h⟩ | ⟨c1, h⟩
  · refine z_tin K 48 1 c1 dX11_count_1 (by decide) (by decide) rfl (by decide) ?_
    refine z_aload_n K dX11_count_48 rfl ?_
    refine z_getR K clX11 k0 11 rfl rfl q511 dX11_count_49 ?_
    refine z_getI K clX3 (hR.at (k := 11) (t := 3) k0 rfl rfl) 1 rfl rfl q254 dX11_count_52 ?_
    obtain rfl := Option.some.inj h
    exact z_iret K dX11_count_55
  rcases ite_or h with ⟨c2, h⟩ | ⟨c2, h⟩
  · refine z_tin K 56 2 c2 dX11_count_1 (by decide) (by decide) rfl (by decide) ?_
    refine z_aload_n K dX11_count_56 rfl ?_
    refine z_getR K clX11 k0 11 rfl rfl q511 dX11_count_57 ?_
    refine z_getI K clX3 (hR.at (k := 11) (t := 3) k0 rfl rfl) 2 rfl rfl q259 dX11_count_60 ?_
    obtain rfl := Option.some.inj h
    exact z_iret K dX11_count_63
  rcases ite_or h with ⟨c3, h⟩ | ⟨c3, h⟩
  · refine z_tin K 64 3 c3 dX11_count_1 (by decide) (by decide) rfl (by decide) ?_
    refine z_aload_n K dX11_count_64 rfl ?_
    refine z_getR K clX11 k0 11 rfl rfl q511 dX11_count_65 ?_
    refine z_getI K clX3 (hR.at (k := 11) (t := 3) k0 rfl rfl) 3 rfl rfl q263 dX11_count_68 ?_
    obtain rfl := Option.some.inj h
    exact z_iret K dX11_count_71
  rcases ite_or h with ⟨c4, h⟩ | ⟨c4, h⟩
  · refine z_tin K 72 4 c4 dX11_count_1 (by decide) (by decide) rfl (by decide) ?_
    refine z_aload_n K dX11_count_72 rfl ?_
    refine z_getR K clX11 k0 11 rfl rfl q511 dX11_count_73 ?_
    refine z_getI K clX3 (hR.at (k := 11) (t := 3) k0 rfl rfl) 4 rfl rfl q265 dX11_count_76 ?_
    obtain rfl := Option.some.inj h
    exact z_iret K dX11_count_79
  rcases ite_or h with ⟨c5, h⟩ | ⟨c5, h⟩
  · refine z_tin K 80 5 c5 dX11_count_1 (by decide) (by decide) rfl (by decide) ?_
    refine z_aload_n K dX11_count_80 rfl ?_
    refine z_getR K clX11 k0 0 rfl rfl q500 dX11_count_81 ?_
    refine z_getI K clX10 (hR.at (k := 0) (t := 10) k0 rfl rfl) 1 rfl rfl q197 dX11_count_84 ?_
    obtain rfl := Option.some.inj h
    exact z_iret K dX11_count_87
  refine z_tout K 88 6 (lt_p (lt_s (lt_s (lt_s (lt_s (lt_s (lt_s lt_0 c0) c1) c2) c3) c4) c5)) dX11_count_1 (by decide) (by decide) (by decide) ?_
  refine z_iconst K (-1) dX11_count_88 rfl ?_
  obtain rfl := Option.some.inj h
  exact z_iret K dX11_count_89
/-! GoingOverModel.thrown ()I -/
abbrev rmX12_thrown : Room := { frames := 0, cells := 0, slots := 0, locals := 0 }
def pX12_thrown (R : Rf) (T : Mm) (a0 : Nat) : Option (Int32) :=
  some (T.1 a0 0)
set_option maxRecDepth 100000 in
set_option maxHeartbeats 4000000 in
theorem mX12_thrown {g : Gl} {R : Rf} {T : Mm} {a0 : Nat} (l : Launch) (hR : Ty g R) (k0 : kd g a0 = 12) {r : Int32} (h : pX12_thrown R T a0 = some r) : MI l g yX12_thrown cX12_thrown 1 (some .int) rmX12_thrown [.ref (g.2.2.1 a0)] R T r R T := by
  refine z_metI (own := RX12) (lv := [some (.ref (g.2.2.1 a0))]) (by decide +kernel) rfl rfl rfl (fun X K => ?_)
  unfold pX12_thrown at h
  refine z_aload_n K dX12_thrown_0 rfl ?_
  refine z_getI K clX12 k0 0 rfl rfl q1338 dX12_thrown_1 ?_
  obtain rfl := Option.some.inj h
  exact z_iret K dX12_thrown_4
/-! GoingOverModel.throwsIf (Z)Z -/
abbrev rmX12_throwsIf : Room := { frames := 0, cells := 0, slots := 0, locals := 0 }
def pX12_throwsIf (R : Rf) (T : Mm) (a0 : Nat) (x1 : Int32) : Option (Int32 × Mm) :=
  if x1 = 0 then lt (wI T a0 0 0) (fun (T1 : Mm) => bz x1 (some (x1, T1))) else lt (wI T a0 0 1) (fun (T2 : Mm) => bz x1 (some (x1, T2)))
set_option maxRecDepth 100000 in
set_option maxHeartbeats 4000000 in
theorem mX12_throwsIf {g : Gl} {R : Rf} {T : Mm} {a0 : Nat} {x1 : Int32} (l : Launch) (hR : Ty g R) (k0 : kd g a0 = 12) {r : Int32 × Mm} (h : pX12_throwsIf R T a0 x1 = some r) : MI l g yX12_throwsIf cX12_throwsIf 2 (some .boolean) rmX12_throwsIf [.ref (g.2.2.1 a0), .int x1] R T r.1 R r.2 := by
  refine z_metI (own := RX12) (lv := [some (.ref (g.2.2.1 a0)), some (.int x1)]) (by decide +kernel) rfl rfl rfl (fun X K => ?_)
  unfold pX12_throwsIf at h
  refine z_aload_n K dX12_throwsIf_0 rfl ?_
  refine z_iload_n K dX12_throwsIf_1 rfl ?_
  refine z_if_eq K 9 dX12_throwsIf_2 (by decide) (fun c => ?_) (fun c => ?_)
  · have h := ite_t h c
    refine z_iconst K 0 dX12_throwsIf_9 rfl ?_
    refine z_putI K clX12 tyX12_ok nmX12 k0 0 rfl rfl q1338 rfl rfl rfl dX12_throwsIf_10 ?_
    refine z_iload_n K dX12_throwsIf_13 rfl ?_
    obtain ⟨hz, hf, h⟩ := bz_e h
    obtain rfl := Option.some.inj h
    exact z_zret K hz dX12_throwsIf_14
  · have h := ite_f h c
    refine z_iconst K 1 dX12_throwsIf_5 rfl ?_
    refine z_goto K 10 dX12_throwsIf_6 (by decide) ?_
    refine z_putI K clX12 tyX12_ok nmX12 k0 0 rfl rfl q1338 rfl rfl rfl dX12_throwsIf_10 ?_
    refine z_iload_n K dX12_throwsIf_13 rfl ?_
    obtain ⟨hz, hf, h⟩ := bz_e h
    obtain rfl := Option.some.inj h
    exact z_zret K hz dX12_throwsIf_14
/-! GoingOverModel.four (I)V -/
abbrev rmX12_four : Room := { frames := 0, cells := 0, slots := 0, locals := 0 }
def pX12_four_3 (R : Rf) (a0 : Nat) (x1 : Int32) (e36 : Mm → Option (Mm)) (r3 : Mm → Int32 → Option (Mm)) (T : Mm) (x2 : Int32) : Option (Mm) :=
  if x2 < 0 then e36 T else ix (T.1 a0 2) 940 (lt (wI T (R a0 1) (T.1 a0 2).toNatClampNeg (((x1 >>> (x2 &&& 31)).toInt8.toInt32).toInt8.toInt32)) (fun (T1 : Mm) => lt (wI T1 a0 2 ((T1.1 a0 2) + 1)) (fun (T2 : Mm) => lt (x2 + (-8)) (fun (v3 : Int32) => r3 T2 v3))))
def pX12_four_36 (R : Rf) (a0 : Nat) (x1 : Int32) (T : Mm) : Option (Mm) :=
  some T
def pX12_four (R : Rf) (T : Mm) (a0 : Nat) (x1 : Int32) : Option (Mm) :=
  zl2 (pX12_four_3 R a0 x1 (pX12_four_36 R a0 x1)) FU T 24
set_option maxRecDepth 100000 in
set_option maxHeartbeats 4000000 in
theorem wX12_four_3 {X : Cx} {g : Gl} {l : Launch} {R : Rf} {a0 : Nat} {x1 : Int32} (K : Ok X g l cX12_four RX12 3 none rmX12_four) (hR : Ty g R) (k0 : kd g a0 = 12) {r : Mm} {e36 : Mm → Option (Mm)} (he36 : ∀ (T : Mm), e36 T = some r → Zj X g 3 (QV X g R r) R T [none, none, none] [] 36) : ∀ (n : Nat) (T : Mm) (x2 : Int32), zl2 (pX12_four_3 R a0 x1 e36) n T x2 = some r → Zj X g 3 (QV X g R r) R T [some (.ref (g.2.2.1 a0)), some (.int x1), some (.int x2)] [] 3 := by
  intro n
  induction n with
  | zero =>
    intro T x2 h
    exact absurd h (by simp [zl2])
  | succ n hr3 =>
    intro T x2 h
    rw [zl2_s] at h
    unfold pX12_four_3 at h
    refine z_iload_n K dX12_four_3 rfl ?_
    refine z_if_lt K 36 dX12_four_4 (by decide) (fun c => ?_) (fun c => ?_)
    · have h := ite_t h c
      refine Zj.mask [false, false, false] ?_
      exact he36 _ h
    · have h := ite_f h c
      refine z_aload_n K dX12_four_7 rfl ?_
      refine z_getR K clX12 k0 1 rfl rfl q1339 dX12_four_8 ?_
      refine z_aload_n K dX12_four_11 rfl ?_
      refine z_getI K clX12 k0 2 rfl rfl q1340 dX12_four_12 ?_
      refine z_iload_n K dX12_four_15 rfl ?_
      refine z_iload_n K dX12_four_16 rfl ?_
      refine z_ishr K dX12_four_17 ?_
      refine z_i2b K dX12_four_18 ?_
      obtain ⟨hi, h⟩ := ix_e h
      refine z_bast K (hR.at (k := 1) (t := 10940) k0 rfl rfl) rfl rfl rfl hi dX12_four_19 ?_
      refine z_aload_n K dX12_four_20 rfl ?_
      refine z_dup K dX12_four_21 rfl ?_
      refine z_getI K clX12 k0 2 rfl rfl q1340 dX12_four_22 ?_
      refine z_iconst K 1 dX12_four_25 rfl ?_
      refine z_iadd K dX12_four_26 ?_
      refine z_putI K clX12 tyX12_ok nmX12 k0 2 rfl rfl q1340 rfl rfl rfl dX12_four_27 ?_
      refine z_iinc K (-8) dX12_four_30 rfl rfl rfl rfl ?_
      refine z_goto K 3 dX12_four_33 (by decide) ?_
      refine Zj.mask [true, true, true] ?_
      exact hr3 _ _ h
set_option maxRecDepth 100000 in
set_option maxHeartbeats 4000000 in
theorem wX12_four_36 {X : Cx} {g : Gl} {l : Launch} {R : Rf} {a0 : Nat} {x1 : Int32} (K : Ok X g l cX12_four RX12 3 none rmX12_four) (hR : Ty g R) (k0 : kd g a0 = 12) {r : Mm} (T : Mm) (h : pX12_four_36 R a0 x1 T = some r) : Zj X g 3 (QV X g R r) R T [none, none, none] [] 36 := by
  unfold pX12_four_36 at h
  obtain rfl := Option.some.inj h
  exact z_vret K dX12_four_36
set_option maxRecDepth 100000 in
set_option maxHeartbeats 4000000 in
theorem mX12_four {g : Gl} {R : Rf} {T : Mm} {a0 : Nat} {x1 : Int32} (l : Launch) (hR : Ty g R) (k0 : kd g a0 = 12) {r : Mm} (h : pX12_four R T a0 x1 = some r) : MV l g yX12_four cX12_four 3 none rmX12_four [.ref (g.2.2.1 a0), .int x1] R T R r := by
  refine z_metV (own := RX12) (lv := [some (.ref (g.2.2.1 a0)), some (.int x1), none]) (by decide +kernel) rfl rfl rfl (fun X K => ?_)
  unfold pX12_four at h
  refine z_bipush K 24 dX12_four_0 rfl ?_
  refine z_istore_n K dX12_four_2 rfl rfl ?_
  refine Zj.mask [true, true, true] ?_
  exact wX12_four_3 K hR k0 (wX12_four_36 K hR k0) FU _ _ h
/-! GoingOverModel.feed (IIIII)I -/
abbrev rmX12_feed : Room := { frames := 1, cells := 0, slots := 0, locals := 22 }
def pX12_feed (R : Rf) (T : Mm) (a0 : Nat) (x1 : Int32) (x2 : Int32) (x3 : Int32) (x4 : Int32) (x5 : Int32) : Option (Int32 × Mm) :=
  lt (wI T a0 0 0) (fun (T1 : Mm) => if ((T1.1 a0 2) + 20) ≤ 940 then bd1 (pX12_four R T1 a0 x1) (fun (T2 : Mm) => bd1 (pX12_four R T2 a0 x2) (fun (T3 : Mm) => bd1 (pX12_four R T3 a0 x3) (fun (T4 : Mm) => bd1 (pX12_four R T4 a0 x4) (fun (T5 : Mm) => bd1 (pX12_four R T5 a0 x5) (fun (T6 : Mm) => some (T6.1 a0 2, T6)))))) else some ((-1), T1))
set_option maxRecDepth 100000 in
set_option maxHeartbeats 4000000 in
theorem mX12_feed {g : Gl} {R : Rf} {T : Mm} {a0 : Nat} {x1 : Int32} {x2 : Int32} {x3 : Int32} {x4 : Int32} {x5 : Int32} (l : Launch) (hR : Ty g R) (k0 : kd g a0 = 12) {r : Int32 × Mm} (h : pX12_feed R T a0 x1 x2 x3 x4 x5 = some r) : MI l g yX12_feed cX12_feed 6 (some .int) rmX12_feed [.ref (g.2.2.1 a0), .int x1, .int x2, .int x3, .int x4, .int x5] R T r.1 R r.2 := by
  refine z_metI (own := RX12) (lv := [some (.ref (g.2.2.1 a0)), some (.int x1), some (.int x2), some (.int x3), some (.int x4), some (.int x5)]) (by decide +kernel) rfl rfl rfl (fun X K => ?_)
  unfold pX12_feed at h
  refine z_aload_n K dX12_feed_0 rfl ?_
  refine z_iconst K 0 dX12_feed_1 rfl ?_
  refine z_putI K clX12 tyX12_ok nmX12 k0 0 rfl rfl q1338 rfl rfl rfl dX12_feed_2 ?_
  refine z_aload_n K dX12_feed_5 rfl ?_
  refine z_getI K clX12 k0 2 rfl rfl q1340 dX12_feed_6 ?_
  refine z_bipush K 20 dX12_feed_9 rfl ?_
  refine z_iadd K dX12_feed_11 ?_
  refine z_sipush K 940 dX12_feed_12 rfl ?_
  refine z_icmp_le K 20 dX12_feed_15 (by decide) (fun c => ?_) (fun c => ?_)
  · have h := ite_t h c
    refine z_aload_n K dX12_feed_20 rfl ?_
    refine z_iload_n K dX12_feed_21 rfl ?_
    obtain ⟨T2, hc, h⟩ := bd1_e h
    refine z_callVV K (mX12_four l hR k0 hc) clX12 k0 ceX12_four q1296 ⟨rfl, rfl, rfl, rfl⟩ rfl rfl rfl dX12_feed_22 ?_
    refine z_aload_n K dX12_feed_25 rfl ?_
    refine z_iload_n K dX12_feed_26 rfl ?_
    obtain ⟨T3, hc, h⟩ := bd1_e h
    refine z_callVV K (mX12_four l hR k0 hc) clX12 k0 ceX12_four q1296 ⟨rfl, rfl, rfl, rfl⟩ rfl rfl rfl dX12_feed_27 ?_
    refine z_aload_n K dX12_feed_30 rfl ?_
    refine z_iload_n K dX12_feed_31 rfl ?_
    obtain ⟨T4, hc, h⟩ := bd1_e h
    refine z_callVV K (mX12_four l hR k0 hc) clX12 k0 ceX12_four q1296 ⟨rfl, rfl, rfl, rfl⟩ rfl rfl rfl dX12_feed_32 ?_
    refine z_aload_n K dX12_feed_35 rfl ?_
    refine z_iload K dX12_feed_36 rfl ?_
    obtain ⟨T5, hc, h⟩ := bd1_e h
    refine z_callVV K (mX12_four l hR k0 hc) clX12 k0 ceX12_four q1296 ⟨rfl, rfl, rfl, rfl⟩ rfl rfl rfl dX12_feed_38 ?_
    refine z_aload_n K dX12_feed_41 rfl ?_
    refine z_iload K dX12_feed_42 rfl ?_
    obtain ⟨T6, hc, h⟩ := bd1_e h
    refine z_callVV K (mX12_four l hR k0 hc) clX12 k0 ceX12_four q1296 ⟨rfl, rfl, rfl, rfl⟩ rfl rfl rfl dX12_feed_44 ?_
    refine z_aload_n K dX12_feed_47 rfl ?_
    refine z_getI K clX12 k0 2 rfl rfl q1340 dX12_feed_48 ?_
    obtain rfl := Option.some.inj h
    exact z_iret K dX12_feed_51
  · have h := ite_f h c
    refine z_iconst K (-1) dX12_feed_18 rfl ?_
    obtain rfl := Option.some.inj h
    exact z_iret K dX12_feed_19
/-! GoingOverModel.end (I)Z -/
abbrev rmX12_end : Room := { frames := 0, cells := 0, slots := 0, locals := 0 }
def pX12_end (R : Rf) (T : Mm) (a0 : Nat) (x1 : Int32) : Option (Int32 × Mm) :=
  lt (wI T a0 0 0) (fun (T1 : Mm) => if x1 < 0 then some (0, T1) else if x1 ≤ (T1.1 a0 2) then lt (wI T1 a0 2 x1) (fun (T2 : Mm) => some (1, T2)) else some (0, T1))
set_option maxRecDepth 100000 in
set_option maxHeartbeats 4000000 in
theorem mX12_end {g : Gl} {R : Rf} {T : Mm} {a0 : Nat} {x1 : Int32} (l : Launch) (hR : Ty g R) (k0 : kd g a0 = 12) {r : Int32 × Mm} (h : pX12_end R T a0 x1 = some r) : MI l g yX12_end cX12_end 2 (some .boolean) rmX12_end [.ref (g.2.2.1 a0), .int x1] R T r.1 R r.2 := by
  refine z_metI (own := RX12) (lv := [some (.ref (g.2.2.1 a0)), some (.int x1)]) (by decide +kernel) rfl rfl rfl (fun X K => ?_)
  unfold pX12_end at h
  refine z_aload_n K dX12_end_0 rfl ?_
  refine z_iconst K 0 dX12_end_1 rfl ?_
  refine z_putI K clX12 tyX12_ok nmX12 k0 0 rfl rfl q1338 rfl rfl rfl dX12_end_2 ?_
  refine z_iload_n K dX12_end_5 rfl ?_
  refine z_if_lt K 17 dX12_end_6 (by decide) (fun c => ?_) (fun c => ?_)
  · have h := ite_t h c
    refine z_iconst K 0 dX12_end_17 rfl ?_
    obtain rfl := Option.some.inj h
    exact z_zret (v := 0) K rfl dX12_end_18
  · have h := ite_f h c
    refine z_iload_n K dX12_end_9 rfl ?_
    refine z_aload_n K dX12_end_10 rfl ?_
    refine z_getI K clX12 k0 2 rfl rfl q1340 dX12_end_11 ?_
    refine z_icmp_le K 19 dX12_end_14 (by decide) (fun c => ?_) (fun c => ?_)
    · have h := ite_t h c
      refine z_aload_n K dX12_end_19 rfl ?_
      refine z_iload_n K dX12_end_20 rfl ?_
      refine z_putI K clX12 tyX12_ok nmX12 k0 2 rfl rfl q1340 rfl rfl rfl dX12_end_21 ?_
      refine z_iconst K 1 dX12_end_24 rfl ?_
      obtain rfl := Option.some.inj h
      exact z_zret (v := 1) K rfl dX12_end_25
    · have h := ite_f h c
      refine z_iconst K 0 dX12_end_17 rfl ?_
      obtain rfl := Option.some.inj h
      exact z_zret (v := 0) K rfl dX12_end_18
/-! GoingOverModel.taken (I)V -/
abbrev rmX12_taken : Room := { frames := 0, cells := 0, slots := 0, locals := 0 }
def pX12_taken (R : Rf) (T : Mm) (a0 : Nat) (x1 : Int32) : Option (Mm) :=
  lt (wI T a0 3 (T.1 a0 2)) (fun (T1 : Mm) => lt (wI T1 a0 2 0) (fun (T2 : Mm) => lt (wI T2 a0 4 0) (fun (T3 : Mm) => lt (wI T3 a0 5 x1) (fun (T4 : Mm) => some T4))))
set_option maxRecDepth 100000 in
set_option maxHeartbeats 4000000 in
theorem mX12_taken {g : Gl} {R : Rf} {T : Mm} {a0 : Nat} {x1 : Int32} (l : Launch) (hR : Ty g R) (k0 : kd g a0 = 12) {r : Mm} (h : pX12_taken R T a0 x1 = some r) : MV l g yX12_taken cX12_taken 2 none rmX12_taken [.ref (g.2.2.1 a0), .int x1] R T R r := by
  refine z_metV (own := RX12) (lv := [some (.ref (g.2.2.1 a0)), some (.int x1)]) (by decide +kernel) rfl rfl rfl (fun X K => ?_)
  unfold pX12_taken at h
  refine z_aload_n K dX12_taken_0 rfl ?_
  refine z_aload_n K dX12_taken_1 rfl ?_
  refine z_getI K clX12 k0 2 rfl rfl q1340 dX12_taken_2 ?_
  refine z_putI K clX12 tyX12_ok nmX12 k0 3 rfl rfl q1341 rfl rfl rfl dX12_taken_5 ?_
  refine z_aload_n K dX12_taken_8 rfl ?_
  refine z_iconst K 0 dX12_taken_9 rfl ?_
  refine z_putI K clX12 tyX12_ok nmX12 k0 2 rfl rfl q1340 rfl rfl rfl dX12_taken_10 ?_
  refine z_aload_n K dX12_taken_13 rfl ?_
  refine z_iconst K 0 dX12_taken_14 rfl ?_
  refine z_putI K clX12 tyX12_ok nmX12 k0 4 rfl rfl q1342 rfl rfl rfl dX12_taken_15 ?_
  refine z_aload_n K dX12_taken_18 rfl ?_
  refine z_iload_n K dX12_taken_19 rfl ?_
  refine z_putI K clX12 tyX12_ok nmX12 k0 5 rfl rfl q1343 rfl rfl rfl dX12_taken_20 ?_
  obtain rfl := Option.some.inj h
  exact z_vret K dX12_taken_23
/-! GoingOverModel.isIn (III)Z -/
abbrev rmX12_isIn : Room := { frames := 0, cells := 0, slots := 0, locals := 0 }
def pX12_isIn (R : Rf) (T : Mm) (x0 : Int32) (x1 : Int32) (x2 : Int32) : Option (Int32) :=
  if x0 < x1 then some 0 else if x2 < x0 then some 0 else some 1
set_option maxRecDepth 100000 in
set_option maxHeartbeats 4000000 in
theorem mX12_isIn {g : Gl} {R : Rf} {T : Mm} {x0 : Int32} {x1 : Int32} {x2 : Int32} (l : Launch) (hR : Ty g R) {r : Int32} (h : pX12_isIn R T x0 x1 x2 = some r) : MI l g yX12_isIn cX12_isIn 3 (some .boolean) rmX12_isIn [.int x0, .int x1, .int x2] R T r R T := by
  refine z_metI (own := RX12) (lv := [some (.int x0), some (.int x1), some (.int x2)]) (by decide +kernel) rfl rfl rfl (fun X K => ?_)
  unfold pX12_isIn at h
  refine z_iload_n K dX12_isIn_0 rfl ?_
  refine z_iload_n K dX12_isIn_1 rfl ?_
  refine z_icmp_lt K 14 dX12_isIn_2 (by decide) (fun c => ?_) (fun c => ?_)
  · have h := ite_t h c
    refine z_iconst K 0 dX12_isIn_14 rfl ?_
    obtain rfl := Option.some.inj h
    exact z_zret (v := 0) K rfl dX12_isIn_15
  · have h := ite_f h c
    refine z_iload_n K dX12_isIn_5 rfl ?_
    refine z_iload_n K dX12_isIn_6 rfl ?_
    refine z_icmp_gt K 14 dX12_isIn_7 (by decide) (fun c => ?_) (fun c => ?_)
    · have h := ite_t h c
      refine z_iconst K 0 dX12_isIn_14 rfl ?_
      obtain rfl := Option.some.inj h
      exact z_zret (v := 0) K rfl dX12_isIn_15
    · have h := ite_f h c
      refine z_iconst K 1 dX12_isIn_10 rfl ?_
      refine z_goto K 15 dX12_isIn_11 (by decide) ?_
      obtain rfl := Option.some.inj h
      exact z_zret (v := 1) K rfl dX12_isIn_15
/-! GoingOverModel.bitOf (II)Z -/
abbrev rmX12_bitOf : Room := { frames := 0, cells := 0, slots := 0, locals := 0 }
def pX12_bitOf (R : Rf) (T : Mm) (x0 : Int32) (x1 : Int32) : Option (Int32) :=
  if ((x0 >>> (x1 &&& 31)) &&& 1) = 1 then some 1 else some 0
set_option maxRecDepth 100000 in
set_option maxHeartbeats 4000000 in
theorem mX12_bitOf {g : Gl} {R : Rf} {T : Mm} {x0 : Int32} {x1 : Int32} (l : Launch) (hR : Ty g R) {r : Int32} (h : pX12_bitOf R T x0 x1 = some r) : MI l g yX12_bitOf cX12_bitOf 2 (some .boolean) rmX12_bitOf [.int x0, .int x1] R T r R T := by
  refine z_metI (own := RX12) (lv := [some (.int x0), some (.int x1)]) (by decide +kernel) rfl rfl rfl (fun X K => ?_)
  unfold pX12_bitOf at h
  refine z_iload_n K dX12_bitOf_0 rfl ?_
  refine z_iload_n K dX12_bitOf_1 rfl ?_
  refine z_ishr K dX12_bitOf_2 ?_
  refine z_iconst K 1 dX12_bitOf_3 rfl ?_
  refine z_iand K dX12_bitOf_4 ?_
  refine z_iconst K 1 dX12_bitOf_5 rfl ?_
  refine z_icmp_ne K 13 dX12_bitOf_6 (by decide) (fun c => ?_) (fun c => ?_)
  · have h := ite_f h c
    refine z_iconst K 0 dX12_bitOf_13 rfl ?_
    obtain rfl := Option.some.inj h
    exact z_zret (v := 0) K rfl dX12_bitOf_14
  · have h := ite_t h c
    refine z_iconst K 1 dX12_bitOf_9 rfl ?_
    refine z_goto K 14 dX12_bitOf_10 (by decide) ?_
    obtain rfl := Option.some.inj h
    exact z_zret (v := 1) K rfl dX12_bitOf_14
/-! GoingOverModel.greater (II)I -/
abbrev rmX12_greater : Room := { frames := 0, cells := 0, slots := 0, locals := 0 }
def pX12_greater (R : Rf) (T : Mm) (x0 : Int32) (x1 : Int32) : Option (Int32) :=
  if x0 ≤ x1 then some x1 else some x0
set_option maxRecDepth 100000 in
set_option maxHeartbeats 4000000 in
theorem mX12_greater {g : Gl} {R : Rf} {T : Mm} {x0 : Int32} {x1 : Int32} (l : Launch) (hR : Ty g R) {r : Int32} (h : pX12_greater R T x0 x1 = some r) : MI l g yX12_greater cX12_greater 2 (some .int) rmX12_greater [.int x0, .int x1] R T r R T := by
  refine z_metI (own := RX12) (lv := [some (.int x0), some (.int x1)]) (by decide +kernel) rfl rfl rfl (fun X K => ?_)
  unfold pX12_greater at h
  refine z_iload_n K dX12_greater_0 rfl ?_
  refine z_iload_n K dX12_greater_1 rfl ?_
  refine z_icmp_le K 9 dX12_greater_2 (by decide) (fun c => ?_) (fun c => ?_)
  · have h := ite_t h c
    refine z_iload_n K dX12_greater_9 rfl ?_
    obtain rfl := Option.some.inj h
    exact z_iret K dX12_greater_10
  · have h := ite_f h c
    refine z_iload_n K dX12_greater_5 rfl ?_
    refine z_goto K 10 dX12_greater_6 (by decide) ?_
    obtain rfl := Option.some.inj h
    exact z_iret K dX12_greater_10
/-! GoingOverModel.bits (I)I -/
abbrev rmX12_bits : Room := { frames := 0, cells := 0, slots := 0, locals := 0 }
def pX12_bits_4 (R : Rf) (T : Mm) (x0 : Int32) (e20 : Int32 → Option (Int32)) (r4 : Int32 → Int32 → Option (Int32)) (x1 : Int32) (x2 : Int32) : Option (Int32) :=
  if x2 = 0 then e20 x1 else lt (x1 + 1) (fun (v1 : Int32) => lt (x2 &&& (x2 - 1)) (fun (v2 : Int32) => r4 v1 v2))
def pX12_bits_20 (R : Rf) (T : Mm) (x0 : Int32) (x1 : Int32) : Option (Int32) :=
  some x1
def pX12_bits (R : Rf) (T : Mm) (x0 : Int32) : Option (Int32) :=
  zl2 (pX12_bits_4 R T x0 (pX12_bits_20 R T x0)) FU 0 x0
set_option maxRecDepth 100000 in
set_option maxHeartbeats 4000000 in
theorem wX12_bits_4 {X : Cx} {g : Gl} {l : Launch} {R : Rf} {T : Mm} {x0 : Int32} (K : Ok X g l cX12_bits RX12 3 (some .int) rmX12_bits) (hR : Ty g R) {r : Int32} {e20 : Int32 → Option (Int32)} (he20 : ∀ (x1 : Int32), e20 x1 = some r → Zj X g 3 (QI X g r R T) R T [none, some (.int x1), none] [] 20) : ∀ (n : Nat) (x1 : Int32) (x2 : Int32), zl2 (pX12_bits_4 R T x0 e20) n x1 x2 = some r → Zj X g 3 (QI X g r R T) R T [none, some (.int x1), some (.int x2)] [] 4 := by
  intro n
  induction n with
  | zero =>
    intro x1 x2 h
    exact absurd h (by simp [zl2])
  | succ n hr4 =>
    intro x1 x2 h
    rw [zl2_s] at h
    unfold pX12_bits_4 at h
    refine z_iload_n K dX12_bits_4 rfl ?_
    refine z_if_eq K 20 dX12_bits_5 (by decide) (fun c => ?_) (fun c => ?_)
    · have h := ite_t h c
      refine Zj.mask [false, true, false] ?_
      exact he20 _ h
    · have h := ite_f h c
      refine z_iinc K 1 dX12_bits_8 rfl rfl rfl rfl ?_
      refine z_iload_n K dX12_bits_11 rfl ?_
      refine z_iload_n K dX12_bits_12 rfl ?_
      refine z_iconst K 1 dX12_bits_13 rfl ?_
      refine z_isub K dX12_bits_14 ?_
      refine z_iand K dX12_bits_15 ?_
      refine z_istore_n K dX12_bits_16 rfl rfl ?_
      refine z_goto K 4 dX12_bits_17 (by decide) ?_
      refine Zj.mask [false, true, true] ?_
      exact hr4 _ _ h
set_option maxRecDepth 100000 in
set_option maxHeartbeats 4000000 in
theorem wX12_bits_20 {X : Cx} {g : Gl} {l : Launch} {R : Rf} {T : Mm} {x0 : Int32} (K : Ok X g l cX12_bits RX12 3 (some .int) rmX12_bits) (hR : Ty g R) {r : Int32} (x1 : Int32) (h : pX12_bits_20 R T x0 x1 = some r) : Zj X g 3 (QI X g r R T) R T [none, some (.int x1), none] [] 20 := by
  unfold pX12_bits_20 at h
  refine z_iload_n K dX12_bits_20 rfl ?_
  obtain rfl := Option.some.inj h
  exact z_iret K dX12_bits_21
set_option maxRecDepth 100000 in
set_option maxHeartbeats 4000000 in
theorem mX12_bits {g : Gl} {R : Rf} {T : Mm} {x0 : Int32} (l : Launch) (hR : Ty g R) {r : Int32} (h : pX12_bits R T x0 = some r) : MI l g yX12_bits cX12_bits 3 (some .int) rmX12_bits [.int x0] R T r R T := by
  refine z_metI (own := RX12) (lv := [some (.int x0), none, none]) (by decide +kernel) rfl rfl rfl (fun X K => ?_)
  unfold pX12_bits at h
  refine z_iconst K 0 dX12_bits_0 rfl ?_
  refine z_istore_n K dX12_bits_1 rfl rfl ?_
  refine z_iload_n K dX12_bits_2 rfl ?_
  refine z_istore_n K dX12_bits_3 rfl rfl ?_
  refine Zj.mask [false, true, true] ?_
  exact wX12_bits_4 K hR (wX12_bits_20 K hR) FU _ _ h
/-! GoingOverModel.octet (I)I -/
abbrev rmX12_octet : Room := { frames := 0, cells := 0, slots := 0, locals := 0 }
def pX12_octet (R : Rf) (T : Mm) (a0 : Nat) (x1 : Int32) : Option (Int32) :=
  ix x1 940 (some ((T.1 (R a0 1) x1.toNatClampNeg) &&& 255))
set_option maxRecDepth 100000 in
set_option maxHeartbeats 4000000 in
theorem mX12_octet {g : Gl} {R : Rf} {T : Mm} {a0 : Nat} {x1 : Int32} (l : Launch) (hR : Ty g R) (k0 : kd g a0 = 12) {r : Int32} (h : pX12_octet R T a0 x1 = some r) : MI l g yX12_octet cX12_octet 2 (some .int) rmX12_octet [.ref (g.2.2.1 a0), .int x1] R T r R T := by
  refine z_metI (own := RX12) (lv := [some (.ref (g.2.2.1 a0)), some (.int x1)]) (by decide +kernel) rfl rfl rfl (fun X K => ?_)
  unfold pX12_octet at h
  refine z_aload_n K dX12_octet_0 rfl ?_
  refine z_getR K clX12 k0 1 rfl rfl q1339 dX12_octet_1 ?_
  refine z_iload_n K dX12_octet_4 rfl ?_
  obtain ⟨hi, h⟩ := ix_e h
  refine z_bald K (hR.at (k := 1) (t := 10940) k0 rfl rfl) rfl rfl rfl hi dX12_octet_5 ?_
  refine z_sipush K 255 dX12_octet_6 rfl ?_
  refine z_iand K dX12_octet_9 ?_
  obtain rfl := Option.some.inj h
  exact z_iret K dX12_octet_10
/-! GoingOverModel.clears ()V -/
abbrev rmX12_clears : Room := { frames := 0, cells := 0, slots := 0, locals := 0 }
def pX12_clears_2 (R : Rf) (a0 : Nat) (e21 : Mm → Option (Mm)) (r2 : Mm → Int32 → Option (Mm)) (T : Mm) (x1 : Int32) : Option (Mm) :=
  if 80 ≤ x1 then e21 T else ix x1 80 (lt (wI T (R a0 7) x1.toNatClampNeg 0) (fun (T1 : Mm) => lt (x1 + 1) (fun (v2 : Int32) => r2 T1 v2)))
def pX12_clears_21 (R : Rf) (a0 : Nat) (T : Mm) : Option (Mm) :=
  ix 3 80 (lt (wI T (R a0 7) (3 : Int32).toNatClampNeg 10) (fun (T3 : Mm) => ix 4 80 (lt (wI T3 (R a0 7) (4 : Int32).toNatClampNeg 20) (fun (T4 : Mm) => some T4))))
def pX12_clears (R : Rf) (T : Mm) (a0 : Nat) : Option (Mm) :=
  zl2 (pX12_clears_2 R a0 (pX12_clears_21 R a0)) FU T 0
set_option maxRecDepth 100000 in
set_option maxHeartbeats 4000000 in
theorem wX12_clears_2 {X : Cx} {g : Gl} {l : Launch} {R : Rf} {a0 : Nat} (K : Ok X g l cX12_clears RX12 2 none rmX12_clears) (hR : Ty g R) (k0 : kd g a0 = 12) {r : Mm} {e21 : Mm → Option (Mm)} (he21 : ∀ (T : Mm), e21 T = some r → Zj X g 2 (QV X g R r) R T [some (.ref (g.2.2.1 a0)), none] [] 21) : ∀ (n : Nat) (T : Mm) (x1 : Int32), zl2 (pX12_clears_2 R a0 e21) n T x1 = some r → Zj X g 2 (QV X g R r) R T [some (.ref (g.2.2.1 a0)), some (.int x1)] [] 2 := by
  intro n
  induction n with
  | zero =>
    intro T x1 h
    exact absurd h (by simp [zl2])
  | succ n hr2 =>
    intro T x1 h
    rw [zl2_s] at h
    unfold pX12_clears_2 at h
    refine z_iload_n K dX12_clears_2 rfl ?_
    refine z_bipush K 80 dX12_clears_3 rfl ?_
    refine z_icmp_ge K 21 dX12_clears_5 (by decide) (fun c => ?_) (fun c => ?_)
    · have h := ite_t h c
      refine Zj.mask [true, false] ?_
      exact he21 _ h
    · have h := ite_f h c
      refine z_aload_n K dX12_clears_8 rfl ?_
      refine z_getR K clX12 k0 7 rfl rfl q1345 dX12_clears_9 ?_
      refine z_iload_n K dX12_clears_12 rfl ?_
      refine z_iconst K 0 dX12_clears_13 rfl ?_
      obtain ⟨hi, h⟩ := ix_e h
      refine z_iast K (hR.at (k := 7) (t := 20080) k0 rfl rfl) rfl rfl rfl hi dX12_clears_14 ?_
      refine z_iinc K 1 dX12_clears_15 rfl rfl rfl rfl ?_
      refine z_goto K 2 dX12_clears_18 (by decide) ?_
      refine Zj.mask [true, true] ?_
      exact hr2 _ _ h
set_option maxRecDepth 100000 in
set_option maxHeartbeats 4000000 in
theorem wX12_clears_21 {X : Cx} {g : Gl} {l : Launch} {R : Rf} {a0 : Nat} (K : Ok X g l cX12_clears RX12 2 none rmX12_clears) (hR : Ty g R) (k0 : kd g a0 = 12) {r : Mm} (T : Mm) (h : pX12_clears_21 R a0 T = some r) : Zj X g 2 (QV X g R r) R T [some (.ref (g.2.2.1 a0)), none] [] 21 := by
  unfold pX12_clears_21 at h
  refine z_aload_n K dX12_clears_21 rfl ?_
  refine z_getR K clX12 k0 7 rfl rfl q1345 dX12_clears_22 ?_
  refine z_iconst K 3 dX12_clears_25 rfl ?_
  refine z_bipush K 10 dX12_clears_26 rfl ?_
  obtain ⟨hi, h⟩ := ix_e h
  refine z_iast K (hR.at (k := 7) (t := 20080) k0 rfl rfl) rfl rfl rfl hi dX12_clears_28 ?_
  refine z_aload_n K dX12_clears_29 rfl ?_
  refine z_getR K clX12 k0 7 rfl rfl q1345 dX12_clears_30 ?_
  refine z_iconst K 4 dX12_clears_33 rfl ?_
  refine z_bipush K 20 dX12_clears_34 rfl ?_
  obtain ⟨hi, h⟩ := ix_e h
  refine z_iast K (hR.at (k := 7) (t := 20080) k0 rfl rfl) rfl rfl rfl hi dX12_clears_36 ?_
  obtain rfl := Option.some.inj h
  exact z_vret K dX12_clears_37
set_option maxRecDepth 100000 in
set_option maxHeartbeats 4000000 in
theorem mX12_clears {g : Gl} {R : Rf} {T : Mm} {a0 : Nat} (l : Launch) (hR : Ty g R) (k0 : kd g a0 = 12) {r : Mm} (h : pX12_clears R T a0 = some r) : MV l g yX12_clears cX12_clears 2 none rmX12_clears [.ref (g.2.2.1 a0)] R T R r := by
  refine z_metV (own := RX12) (lv := [some (.ref (g.2.2.1 a0)), none]) (by decide +kernel) rfl rfl rfl (fun X K => ?_)
  unfold pX12_clears at h
  refine z_iconst K 0 dX12_clears_0 rfl ?_
  refine z_istore_n K dX12_clears_1 rfl rfl ?_
  refine Zj.mask [true, true] ?_
  exact wX12_clears_2 K hR k0 (wX12_clears_21 K hR k0) FU _ _ h
/-! GoingOverModel.peek ()I -/
abbrev rmX12_peek : Room := { frames := 0, cells := 0, slots := 0, locals := 0 }
def pX12_peek (R : Rf) (T : Mm) (a0 : Nat) : Option (Int32) :=
  if (T.1 a0 3) ≤ (T.1 a0 4) then some (-1) else ix (T.1 a0 4) 940 (some ((T.1 (R a0 1) (T.1 a0 4).toNatClampNeg) &&& 255))
set_option maxRecDepth 100000 in
set_option maxHeartbeats 4000000 in
theorem mX12_peek {g : Gl} {R : Rf} {T : Mm} {a0 : Nat} (l : Launch) (hR : Ty g R) (k0 : kd g a0 = 12) {r : Int32} (h : pX12_peek R T a0 = some r) : MI l g yX12_peek cX12_peek 1 (some .int) rmX12_peek [.ref (g.2.2.1 a0)] R T r R T := by
  refine z_metI (own := RX12) (lv := [some (.ref (g.2.2.1 a0))]) (by decide +kernel) rfl rfl rfl (fun X K => ?_)
  unfold pX12_peek at h
  refine z_aload_n K dX12_peek_0 rfl ?_
  refine z_getI K clX12 k0 4 rfl rfl q1342 dX12_peek_1 ?_
  refine z_aload_n K dX12_peek_4 rfl ?_
  refine z_getI K clX12 k0 3 rfl rfl q1341 dX12_peek_5 ?_
  refine z_icmp_ge K 27 dX12_peek_8 (by decide) (fun c => ?_) (fun c => ?_)
  · have h := ite_t h c
    refine z_iconst K (-1) dX12_peek_27 rfl ?_
    obtain rfl := Option.some.inj h
    exact z_iret K dX12_peek_28
  · have h := ite_f h c
    refine z_aload_n K dX12_peek_11 rfl ?_
    refine z_getR K clX12 k0 1 rfl rfl q1339 dX12_peek_12 ?_
    refine z_aload_n K dX12_peek_15 rfl ?_
    refine z_getI K clX12 k0 4 rfl rfl q1342 dX12_peek_16 ?_
    obtain ⟨hi, h⟩ := ix_e h
    refine z_bald K (hR.at (k := 1) (t := 10940) k0 rfl rfl) rfl rfl rfl hi dX12_peek_19 ?_
    refine z_sipush K 255 dX12_peek_20 rfl ?_
    refine z_iand K dX12_peek_23 ?_
    refine z_goto K 28 dX12_peek_24 (by decide) ?_
    obtain rfl := Option.some.inj h
    exact z_iret K dX12_peek_28
/-! GoingOverModel.isSmall (I)Z -/
abbrev rmX12_isSmall : Room := { frames := 0, cells := 0, slots := 0, locals := 0 }
def pX12_isSmall (R : Rf) (T : Mm) (x0 : Int32) : Option (Int32) :=
  if x0 < 97 then some 0 else if 122 < x0 then some 0 else some 1
set_option maxRecDepth 100000 in
set_option maxHeartbeats 4000000 in
theorem mX12_isSmall {g : Gl} {R : Rf} {T : Mm} {x0 : Int32} (l : Launch) (hR : Ty g R) {r : Int32} (h : pX12_isSmall R T x0 = some r) : MI l g yX12_isSmall cX12_isSmall 1 (some .boolean) rmX12_isSmall [.int x0] R T r R T := by
  refine z_metI (own := RX12) (lv := [some (.int x0)]) (by decide +kernel) rfl rfl rfl (fun X K => ?_)
  unfold pX12_isSmall at h
  refine z_iload_n K dX12_isSmall_0 rfl ?_
  refine z_bipush K 97 dX12_isSmall_1 rfl ?_
  refine z_icmp_lt K 16 dX12_isSmall_3 (by decide) (fun c => ?_) (fun c => ?_)
  · have h := ite_t h c
    refine z_iconst K 0 dX12_isSmall_16 rfl ?_
    obtain rfl := Option.some.inj h
    exact z_zret (v := 0) K rfl dX12_isSmall_17
  · have h := ite_f h c
    refine z_iload_n K dX12_isSmall_6 rfl ?_
    refine z_bipush K 122 dX12_isSmall_7 rfl ?_
    refine z_icmp_gt K 16 dX12_isSmall_9 (by decide) (fun c => ?_) (fun c => ?_)
    · have h := ite_t h c
      refine z_iconst K 0 dX12_isSmall_16 rfl ?_
      obtain rfl := Option.some.inj h
      exact z_zret (v := 0) K rfl dX12_isSmall_17
    · have h := ite_f h c
      refine z_iconst K 1 dX12_isSmall_12 rfl ?_
      refine z_goto K 17 dX12_isSmall_13 (by decide) ?_
      obtain rfl := Option.some.inj h
      exact z_zret (v := 1) K rfl dX12_isSmall_17
/-! GoingOverModel.isDigit (I)Z -/
abbrev rmX12_isDigit : Room := { frames := 0, cells := 0, slots := 0, locals := 0 }
def pX12_isDigit (R : Rf) (T : Mm) (x0 : Int32) : Option (Int32) :=
  if x0 < 48 then some 0 else if 57 < x0 then some 0 else some 1
set_option maxRecDepth 100000 in
set_option maxHeartbeats 4000000 in
theorem mX12_isDigit {g : Gl} {R : Rf} {T : Mm} {x0 : Int32} (l : Launch) (hR : Ty g R) {r : Int32} (h : pX12_isDigit R T x0 = some r) : MI l g yX12_isDigit cX12_isDigit 1 (some .boolean) rmX12_isDigit [.int x0] R T r R T := by
  refine z_metI (own := RX12) (lv := [some (.int x0)]) (by decide +kernel) rfl rfl rfl (fun X K => ?_)
  unfold pX12_isDigit at h
  refine z_iload_n K dX12_isDigit_0 rfl ?_
  refine z_bipush K 48 dX12_isDigit_1 rfl ?_
  refine z_icmp_lt K 16 dX12_isDigit_3 (by decide) (fun c => ?_) (fun c => ?_)
  · have h := ite_t h c
    refine z_iconst K 0 dX12_isDigit_16 rfl ?_
    obtain rfl := Option.some.inj h
    exact z_zret (v := 0) K rfl dX12_isDigit_17
  · have h := ite_f h c
    refine z_iload_n K dX12_isDigit_6 rfl ?_
    refine z_bipush K 57 dX12_isDigit_7 rfl ?_
    refine z_icmp_gt K 16 dX12_isDigit_9 (by decide) (fun c => ?_) (fun c => ?_)
    · have h := ite_t h c
      refine z_iconst K 0 dX12_isDigit_16 rfl ?_
      obtain rfl := Option.some.inj h
      exact z_zret (v := 0) K rfl dX12_isDigit_17
    · have h := ite_f h c
      refine z_iconst K 1 dX12_isDigit_12 rfl ?_
      refine z_goto K 17 dX12_isDigit_13 (by decide) ?_
      obtain rfl := Option.some.inj h
      exact z_zret (v := 1) K rfl dX12_isDigit_17
/-! GoingOverModel.next ()V -/
abbrev rmX12_next : Room := { frames := 1, cells := 0, slots := 0, locals := 20 }
def pX12_next_0 (R : Rf) (a0 : Nat) (e31 : Mm → Option (Mm)) (r0 : Mm → Option (Mm)) (T : Mm) : Option (Mm) :=
  bd1 (pX12_peek R T a0) (fun (u1 : Int32) => if u1 = 32 then lt (wI T a0 4 ((T.1 a0 4) + 1)) (fun (T2 : Mm) => r0 T2) else bd1 (pX12_peek R T a0) (fun (u3 : Int32) => if u3 = 10 then lt (wI T a0 4 ((T.1 a0 4) + 1)) (fun (T4 : Mm) => r0 T4) else e31 T))
def pX12_next_275 (R : Rf) (a0 : Nat) (r181 : Mm → Int32 → Int32 → Option (Mm)) (e298 : Mm → Int32 → Int32 → Option (Mm)) (T : Mm) (x2 : Int32) (x3 : Int32) : Option (Mm) :=
  lt (wI T a0 13 ((T.1 a0 13) + 1)) (fun (T14 : Mm) => lt (wI T14 a0 4 ((T14.1 a0 4) + 1)) (fun (T15 : Mm) => r181 T15 x2 x3))
def pX12_next_248 (R : Rf) (a0 : Nat) (r181 : Mm → Int32 → Int32 → Option (Mm)) (e298 : Mm → Int32 → Int32 → Option (Mm)) (T : Mm) (x2 : Int32) (x3 : Int32) : Option (Mm) :=
  if 3 ≤ (T.1 a0 13) then pX12_next_275 R a0 r181 e298 T x2 x3 else bd1 (pX12_peek R T a0) (fun (u16 : Int32) => lt (wI T a0 14 (((10 * (T.1 a0 14)) + u16) - 48)) (fun (T17 : Mm) => pX12_next_275 R a0 r181 e298 T17 x2 x3))
def pX12_next_221 (R : Rf) (a0 : Nat) (r181 : Mm → Int32 → Int32 → Option (Mm)) (e298 : Mm → Int32 → Int32 → Option (Mm)) (T : Mm) (x2 : Int32) (xs0 : Int32) : Option (Mm) :=
  if 7 ≤ (T.1 a0 13) then pX12_next_248 R a0 r181 e298 T x2 xs0 else bd1 (pX12_peek R T a0) (fun (u18 : Int32) => lt (wJ T a0 17 (((T.2 a0 17) <<< ((8 : Int32).toInt64 &&& 63)) ||| u18.toInt64)) (fun (T19 : Mm) => pX12_next_248 R a0 r181 e298 T19 x2 xs0))
def pX12_next_220 (R : Rf) (a0 : Nat) (r181 : Mm → Int32 → Int32 → Option (Mm)) (e298 : Mm → Int32 → Int32 → Option (Mm)) (T : Mm) (x2 : Int32) : Option (Mm) :=
  pX12_next_221 R a0 r181 e298 T x2 0
def pX12_next_201 (R : Rf) (a0 : Nat) (r181 : Mm → Int32 → Int32 → Option (Mm)) (e298 : Mm → Int32 → Int32 → Option (Mm)) (T : Mm) (x2 : Int32) (x3 : Int32) : Option (Mm) :=
  if x3 = 0 then pX12_next_220 R a0 r181 e298 T x2 else bd1 (pX12_peek R T a0) (fun (u20 : Int32) => bd1 (pX12_isSmall R T u20) (fun (u21 : Int32) => if u21 = x2 then pX12_next_221 R a0 r181 e298 T x2 1 else pX12_next_220 R a0 r181 e298 T x2))
def pX12_next_181 (R : Rf) (a0 : Nat) (e298 : Mm → Int32 → Int32 → Option (Mm)) (r181 : Mm → Int32 → Int32 → Option (Mm)) (T : Mm) (x2 : Int32) (x3 : Int32) : Option (Mm) :=
  bd1 (pX12_peek R T a0) (fun (u12 : Int32) => bd1 (pX12_isSmall R T u12) (fun (u13 : Int32) => if u13 = 0 then bd1 (pX12_peek R T a0) (fun (u22 : Int32) => bd1 (pX12_isDigit R T u22) (fun (u23 : Int32) => if u23 = 0 then e298 T x2 x3 else pX12_next_201 R a0 r181 e298 T x2 x3)) else pX12_next_201 R a0 r181 e298 T x2 x3))
def pX12_next_317 (R : Rf) (a0 : Nat) (T : Mm) (x2 : Int32) (as0 : Nat) (xs1 : Int32) (xs2 : Int32) : Option (Mm) :=
  if xs1 ≤ xs2 then if x2 = 0 then lt (wI T as0 11 2) (fun (T25 : Mm) => some T25) else lt (wI T as0 11 1) (fun (T26 : Mm) => some T26) else lt (wI T as0 11 4) (fun (T27 : Mm) => some T27)
def pX12_next_298 (R : Rf) (a0 : Nat) (T : Mm) (x2 : Int32) (x3 : Int32) : Option (Mm) :=
  if x3 = 0 then lt (wI T a0 11 4) (fun (T24 : Mm) => some T24) else if x2 = 0 then pX12_next_317 R a0 T x2 a0 (T.1 a0 13) 3 else pX12_next_317 R a0 T x2 a0 (T.1 a0 13) 7
def pX12_next_164 (R : Rf) (a0 : Nat) (T : Mm) (x1 : Int32) : Option (Mm) :=
  bd1 (pX12_isSmall R T x1) (fun (u9 : Int32) => lt (wJ T a0 17 0) (fun (T10 : Mm) => lt (wI T10 a0 14 0) (fun (T11 : Mm) => zl3 (pX12_next_181 R a0 (pX12_next_298 R a0)) FU T11 u9 1)))
def pX12_next_145 (R : Rf) (a0 : Nat) (T : Mm) (x1 : Int32) (as0 : Nat) (xs1 : Int32) : Option (Mm) :=
  lt (wI T as0 11 xs1) (fun (T29 : Mm) => lt (wI T29 a0 14 x1) (fun (T30 : Mm) => lt (wI T30 a0 4 ((T30.1 a0 4) + 1)) (fun (T31 : Mm) => some T31)))
def pX12_next_140 (R : Rf) (a0 : Nat) (T : Mm) (x1 : Int32) (as0 : Nat) : Option (Mm) :=
  pX12_next_145 R a0 T x1 as0 3
def pX12_next_144 (R : Rf) (a0 : Nat) (T : Mm) (x1 : Int32) (as0 : Nat) : Option (Mm) :=
  pX12_next_145 R a0 T x1 as0 4
def pX12_next_80 (R : Rf) (a0 : Nat) (T : Mm) : Option (Mm) :=
  bd1 (pX12_peek R T a0) (fun (u7 : Int32) => if 0 ≤ u7 then bd1 (pX12_isSmall R T u7) (fun (u8 : Int32) => if u8 = 0 then bd1 (pX12_isDigit R T u7) (fun (u28 : Int32) => if u28 = 0 then if u7 = 59 then pX12_next_140 R a0 T u7 a0 else if u7 = 40 then pX12_next_140 R a0 T u7 a0 else if u7 = 41 then pX12_next_140 R a0 T u7 a0 else if u7 < 60 then pX12_next_144 R a0 T u7 a0 else if 62 < u7 then pX12_next_144 R a0 T u7 a0 else pX12_next_140 R a0 T u7 a0 else pX12_next_164 R a0 T u7) else pX12_next_164 R a0 T u7) else lt (wI T a0 11 0) (fun (T32 : Mm) => some T32))
def pX12_next_31 (R : Rf) (a0 : Nat) (T : Mm) : Option (Mm) :=
  lt (wI T a0 12 (T.1 a0 4)) (fun (T5 : Mm) => lt (wI T5 a0 13 0) (fun (T6 : Mm) => if (T6.1 a0 3) ≤ (T6.1 a0 5) then pX12_next_80 R a0 T6 else if (T6.1 a0 4) < (T6.1 a0 5) then pX12_next_80 R a0 T6 else lt (wI T6 a0 12 (T6.1 a0 5)) (fun (T33 : Mm) => lt (wI T33 a0 11 4) (fun (T34 : Mm) => some T34))))
def pX12_next (R : Rf) (T : Mm) (a0 : Nat) : Option (Mm) :=
  zl1 (pX12_next_0 R a0 (pX12_next_31 R a0)) FU T
set_option maxRecDepth 100000 in
set_option maxHeartbeats 4000000 in
theorem wX12_next_0 {X : Cx} {g : Gl} {l : Launch} {R : Rf} {a0 : Nat} (K : Ok X g l cX12_next RX12 4 none rmX12_next) (hR : Ty g R) (k0 : kd g a0 = 12) {r : Mm} {e31 : Mm → Option (Mm)} (he31 : ∀ (T : Mm), e31 T = some r → Zj X g 4 (QV X g R r) R T [some (.ref (g.2.2.1 a0)), none, none, none] [] 31) : ∀ (n : Nat) (T : Mm), zl1 (pX12_next_0 R a0 e31) n T = some r → Zj X g 4 (QV X g R r) R T [some (.ref (g.2.2.1 a0)), none, none, none] [] 0 := by
  intro n
  induction n with
  | zero =>
    intro T h
    exact absurd h (by simp [zl1])
  | succ n hr0 =>
    intro T h
    rw [zl1_s] at h
    unfold pX12_next_0 at h
    refine z_aload_n K dX12_next_0 rfl ?_
    obtain ⟨u1, hc, h⟩ := bd1_e h
    refine z_callVI K (mX12_peek l hR k0 hc) clX12 k0 ceX12_peek q1502 ⟨rfl, rfl, rfl, rfl⟩ rfl rfl rfl dX12_next_1 ?_
    refine z_bipush K 32 dX12_next_4 rfl ?_
    refine z_icmp_eq K 18 dX12_next_6 (by decide) (fun c => ?_) (fun c => ?_)
    · have h := ite_t h c
      refine z_aload_n K dX12_next_18 rfl ?_
      refine z_dup K dX12_next_19 rfl ?_
      refine z_getI K clX12 k0 4 rfl rfl q1342 dX12_next_20 ?_
      refine z_iconst K 1 dX12_next_23 rfl ?_
      refine z_iadd K dX12_next_24 ?_
      refine z_putI K clX12 tyX12_ok nmX12 k0 4 rfl rfl q1342 rfl rfl rfl dX12_next_25 ?_
      refine z_goto K 0 dX12_next_28 (by decide) ?_
      refine Zj.mask [true, false, false, false] ?_
      exact hr0 _ h
    · have h := ite_f h c
      refine z_aload_n K dX12_next_9 rfl ?_
      obtain ⟨u3, hc, h⟩ := bd1_e h
      refine z_callVI K (mX12_peek l hR k0 hc) clX12 k0 ceX12_peek q1502 ⟨rfl, rfl, rfl, rfl⟩ rfl rfl rfl dX12_next_10 ?_
      refine z_bipush K 10 dX12_next_13 rfl ?_
      refine z_icmp_ne K 31 dX12_next_15 (by decide) (fun c => ?_) (fun c => ?_)
      · have h := ite_f h c
        refine Zj.mask [true, false, false, false] ?_
        exact he31 _ h
      · have h := ite_t h c
        refine z_aload_n K dX12_next_18 rfl ?_
        refine z_dup K dX12_next_19 rfl ?_
        refine z_getI K clX12 k0 4 rfl rfl q1342 dX12_next_20 ?_
        refine z_iconst K 1 dX12_next_23 rfl ?_
        refine z_iadd K dX12_next_24 ?_
        refine z_putI K clX12 tyX12_ok nmX12 k0 4 rfl rfl q1342 rfl rfl rfl dX12_next_25 ?_
        refine z_goto K 0 dX12_next_28 (by decide) ?_
        refine Zj.mask [true, false, false, false] ?_
        exact hr0 _ h
set_option maxRecDepth 100000 in
set_option maxHeartbeats 4000000 in
theorem wX12_next_275 {X : Cx} {g : Gl} {l : Launch} {R : Rf} {a0 : Nat} (K : Ok X g l cX12_next RX12 4 none rmX12_next) (hR : Ty g R) (k0 : kd g a0 = 12) {r : Mm} {r181 : Mm → Int32 → Int32 → Option (Mm)} (hr181 : ∀ (T : Mm) (x2 : Int32) (x3 : Int32), r181 T x2 x3 = some r → Zj X g 4 (QV X g R r) R T [some (.ref (g.2.2.1 a0)), none, some (.int x2), some (.int x3)] [] 181) {e298 : Mm → Int32 → Int32 → Option (Mm)} (he298 : ∀ (T : Mm) (x2 : Int32) (x3 : Int32), e298 T x2 x3 = some r → Zj X g 4 (QV X g R r) R T [some (.ref (g.2.2.1 a0)), none, some (.int x2), some (.int x3)] [] 298) (T : Mm) (x2 : Int32) (x3 : Int32) (h : pX12_next_275 R a0 r181 e298 T x2 x3 = some r) : Zj X g 4 (QV X g R r) R T [some (.ref (g.2.2.1 a0)), none, some (.int x2), some (.int x3)] [] 275 := by
  unfold pX12_next_275 at h
  refine z_aload_n K dX12_next_275 rfl ?_
  refine z_dup K dX12_next_276 rfl ?_
  refine z_getI K clX12 k0 13 rfl rfl q1351 dX12_next_277 ?_
  refine z_iconst K 1 dX12_next_280 rfl ?_
  refine z_iadd K dX12_next_281 ?_
  refine z_putI K clX12 tyX12_ok nmX12 k0 13 rfl rfl q1351 rfl rfl rfl dX12_next_282 ?_
  refine z_aload_n K dX12_next_285 rfl ?_
  refine z_dup K dX12_next_286 rfl ?_
  refine z_getI K clX12 k0 4 rfl rfl q1342 dX12_next_287 ?_
  refine z_iconst K 1 dX12_next_290 rfl ?_
  refine z_iadd K dX12_next_291 ?_
  refine z_putI K clX12 tyX12_ok nmX12 k0 4 rfl rfl q1342 rfl rfl rfl dX12_next_292 ?_
  refine z_goto K 181 dX12_next_295 (by decide) ?_
  refine Zj.mask [true, false, true, true] ?_
  exact hr181 _ _ _ h
set_option maxRecDepth 100000 in
set_option maxHeartbeats 4000000 in
theorem wX12_next_248 {X : Cx} {g : Gl} {l : Launch} {R : Rf} {a0 : Nat} (K : Ok X g l cX12_next RX12 4 none rmX12_next) (hR : Ty g R) (k0 : kd g a0 = 12) {r : Mm} {r181 : Mm → Int32 → Int32 → Option (Mm)} (hr181 : ∀ (T : Mm) (x2 : Int32) (x3 : Int32), r181 T x2 x3 = some r → Zj X g 4 (QV X g R r) R T [some (.ref (g.2.2.1 a0)), none, some (.int x2), some (.int x3)] [] 181) {e298 : Mm → Int32 → Int32 → Option (Mm)} (he298 : ∀ (T : Mm) (x2 : Int32) (x3 : Int32), e298 T x2 x3 = some r → Zj X g 4 (QV X g R r) R T [some (.ref (g.2.2.1 a0)), none, some (.int x2), some (.int x3)] [] 298) (T : Mm) (x2 : Int32) (x3 : Int32) (h : pX12_next_248 R a0 r181 e298 T x2 x3 = some r) : Zj X g 4 (QV X g R r) R T [some (.ref (g.2.2.1 a0)), none, some (.int x2), some (.int x3)] [] 248 := by
  unfold pX12_next_248 at h
  refine z_aload_n K dX12_next_248 rfl ?_
  refine z_getI K clX12 k0 13 rfl rfl q1351 dX12_next_249 ?_
  refine z_iconst K 3 dX12_next_252 rfl ?_
  refine z_icmp_ge K 275 dX12_next_253 (by decide) (fun c => ?_) (fun c => ?_)
  · have h := ite_t h c
    refine Zj.mask [true, false, true, true] ?_
    exact wX12_next_275 K hR k0 hr181 he298 _ _ _ h
  · have h := ite_f h c
    refine z_aload_n K dX12_next_256 rfl ?_
    refine z_bipush K 10 dX12_next_257 rfl ?_
    refine z_aload_n K dX12_next_259 rfl ?_
    refine z_getI K clX12 k0 14 rfl rfl q1352 dX12_next_260 ?_
    refine z_imul K dX12_next_263 ?_
    refine z_aload_n K dX12_next_264 rfl ?_
    obtain ⟨u16, hc, h⟩ := bd1_e h
    refine z_callVI K (mX12_peek l hR k0 hc) clX12 k0 ceX12_peek q1502 ⟨rfl, rfl, rfl, rfl⟩ rfl rfl rfl dX12_next_265 ?_
    refine z_iadd K dX12_next_268 ?_
    refine z_bipush K 48 dX12_next_269 rfl ?_
    refine z_isub K dX12_next_271 ?_
    refine z_putI K clX12 tyX12_ok nmX12 k0 14 rfl rfl q1352 rfl rfl rfl dX12_next_272 ?_
    refine Zj.mask [true, false, true, true] ?_
    exact wX12_next_275 K hR k0 hr181 he298 _ _ _ h
set_option maxRecDepth 100000 in
set_option maxHeartbeats 4000000 in
theorem wX12_next_221 {X : Cx} {g : Gl} {l : Launch} {R : Rf} {a0 : Nat} (K : Ok X g l cX12_next RX12 4 none rmX12_next) (hR : Ty g R) (k0 : kd g a0 = 12) {r : Mm} {r181 : Mm → Int32 → Int32 → Option (Mm)} (hr181 : ∀ (T : Mm) (x2 : Int32) (x3 : Int32), r181 T x2 x3 = some r → Zj X g 4 (QV X g R r) R T [some (.ref (g.2.2.1 a0)), none, some (.int x2), some (.int x3)] [] 181) {e298 : Mm → Int32 → Int32 → Option (Mm)} (he298 : ∀ (T : Mm) (x2 : Int32) (x3 : Int32), e298 T x2 x3 = some r → Zj X g 4 (QV X g R r) R T [some (.ref (g.2.2.1 a0)), none, some (.int x2), some (.int x3)] [] 298) (T : Mm) (x2 : Int32) (xs0 : Int32) (h : pX12_next_221 R a0 r181 e298 T x2 xs0 = some r) : Zj X g 4 (QV X g R r) R T [some (.ref (g.2.2.1 a0)), none, some (.int x2), none] [.int xs0] 221 := by
  unfold pX12_next_221 at h
  refine z_istore_n K dX12_next_221 rfl rfl ?_
  refine z_aload_n K dX12_next_222 rfl ?_
  refine z_getI K clX12 k0 13 rfl rfl q1351 dX12_next_223 ?_
  refine z_bipush K 7 dX12_next_226 rfl ?_
  refine z_icmp_ge K 248 dX12_next_228 (by decide) (fun c => ?_) (fun c => ?_)
  · have h := ite_t h c
    refine Zj.mask [true, false, true, true] ?_
    exact wX12_next_248 K hR k0 hr181 he298 _ _ _ h
  · have h := ite_f h c
    refine z_aload_n K dX12_next_231 rfl ?_
    refine z_aload_n K dX12_next_232 rfl ?_
    refine z_getJ K clX12 k0 17 rfl rfl q1355 dX12_next_233 ?_
    refine z_bipush K 8 dX12_next_236 rfl ?_
    refine z_lshl K dX12_next_238 ?_
    refine z_aload_n K dX12_next_239 rfl ?_
    obtain ⟨u18, hc, h⟩ := bd1_e h
    refine z_callVI K (mX12_peek l hR k0 hc) clX12 k0 ceX12_peek q1502 ⟨rfl, rfl, rfl, rfl⟩ rfl rfl rfl dX12_next_240 ?_
    refine z_i2l K dX12_next_243 ?_
    refine z_lor K dX12_next_244 ?_
    refine z_putJ K clX12 tyX12_ok nmX12 k0 17 rfl rfl q1355 rfl rfl rfl dX12_next_245 ?_
    refine Zj.mask [true, false, true, true] ?_
    exact wX12_next_248 K hR k0 hr181 he298 _ _ _ h
set_option maxRecDepth 100000 in
set_option maxHeartbeats 4000000 in
theorem wX12_next_220 {X : Cx} {g : Gl} {l : Launch} {R : Rf} {a0 : Nat} (K : Ok X g l cX12_next RX12 4 none rmX12_next) (hR : Ty g R) (k0 : kd g a0 = 12) {r : Mm} {r181 : Mm → Int32 → Int32 → Option (Mm)} (hr181 : ∀ (T : Mm) (x2 : Int32) (x3 : Int32), r181 T x2 x3 = some r → Zj X g 4 (QV X g R r) R T [some (.ref (g.2.2.1 a0)), none, some (.int x2), some (.int x3)] [] 181) {e298 : Mm → Int32 → Int32 → Option (Mm)} (he298 : ∀ (T : Mm) (x2 : Int32) (x3 : Int32), e298 T x2 x3 = some r → Zj X g 4 (QV X g R r) R T [some (.ref (g.2.2.1 a0)), none, some (.int x2), some (.int x3)] [] 298) (T : Mm) (x2 : Int32) (h : pX12_next_220 R a0 r181 e298 T x2 = some r) : Zj X g 4 (QV X g R r) R T [some (.ref (g.2.2.1 a0)), none, some (.int x2), none] [] 220 := by
  unfold pX12_next_220 at h
  refine z_iconst K 0 dX12_next_220 rfl ?_
  refine Zj.mask [true, false, true, false] ?_
  exact wX12_next_221 K hR k0 hr181 he298 _ _ _ h
set_option maxRecDepth 100000 in
set_option maxHeartbeats 4000000 in
theorem wX12_next_201 {X : Cx} {g : Gl} {l : Launch} {R : Rf} {a0 : Nat} (K : Ok X g l cX12_next RX12 4 none rmX12_next) (hR : Ty g R) (k0 : kd g a0 = 12) {r : Mm} {r181 : Mm → Int32 → Int32 → Option (Mm)} (hr181 : ∀ (T : Mm) (x2 : Int32) (x3 : Int32), r181 T x2 x3 = some r → Zj X g 4 (QV X g R r) R T [some (.ref (g.2.2.1 a0)), none, some (.int x2), some (.int x3)] [] 181) {e298 : Mm → Int32 → Int32 → Option (Mm)} (he298 : ∀ (T : Mm) (x2 : Int32) (x3 : Int32), e298 T x2 x3 = some r → Zj X g 4 (QV X g R r) R T [some (.ref (g.2.2.1 a0)), none, some (.int x2), some (.int x3)] [] 298) (T : Mm) (x2 : Int32) (x3 : Int32) (h : pX12_next_201 R a0 r181 e298 T x2 x3 = some r) : Zj X g 4 (QV X g R r) R T [some (.ref (g.2.2.1 a0)), none, some (.int x2), some (.int x3)] [] 201 := by
  unfold pX12_next_201 at h
  refine z_iload_n K dX12_next_201 rfl ?_
  refine z_if_eq K 220 dX12_next_202 (by decide) (fun c => ?_) (fun c => ?_)
  · have h := ite_t h c
    refine Zj.mask [true, false, true, false] ?_
    exact wX12_next_220 K hR k0 hr181 he298 _ _ h
  · have h := ite_f h c
    refine z_aload_n K dX12_next_205 rfl ?_
    obtain ⟨u20, hc, h⟩ := bd1_e h
    refine z_callVI K (mX12_peek l hR k0 hc) clX12 k0 ceX12_peek q1502 ⟨rfl, rfl, rfl, rfl⟩ rfl rfl rfl dX12_next_206 ?_
    obtain ⟨u21, hc, h⟩ := bd1_e h
    refine z_callSI K (mX12_isSmall l hR hc) ceX12_isSmall q1506 ⟨rfl, rfl, rfl, rfl⟩ rfl rfl rfl dX12_next_209 ?_
    refine z_iload_n K dX12_next_212 rfl ?_
    refine z_icmp_ne K 220 dX12_next_213 (by decide) (fun c => ?_) (fun c => ?_)
    · have h := ite_f h c
      refine Zj.mask [true, false, true, false] ?_
      exact wX12_next_220 K hR k0 hr181 he298 _ _ h
    · have h := ite_t h c
      refine z_iconst K 1 dX12_next_216 rfl ?_
      refine z_goto K 221 dX12_next_217 (by decide) ?_
      refine Zj.mask [true, false, true, false] ?_
      exact wX12_next_221 K hR k0 hr181 he298 _ _ _ h
set_option maxRecDepth 100000 in
set_option maxHeartbeats 4000000 in
theorem wX12_next_181 {X : Cx} {g : Gl} {l : Launch} {R : Rf} {a0 : Nat} (K : Ok X g l cX12_next RX12 4 none rmX12_next) (hR : Ty g R) (k0 : kd g a0 = 12) {r : Mm} {e298 : Mm → Int32 → Int32 → Option (Mm)} (he298 : ∀ (T : Mm) (x2 : Int32) (x3 : Int32), e298 T x2 x3 = some r → Zj X g 4 (QV X g R r) R T [some (.ref (g.2.2.1 a0)), none, some (.int x2), some (.int x3)] [] 298) : ∀ (n : Nat) (T : Mm) (x2 : Int32) (x3 : Int32), zl3 (pX12_next_181 R a0 e298) n T x2 x3 = some r → Zj X g 4 (QV X g R r) R T [some (.ref (g.2.2.1 a0)), none, some (.int x2), some (.int x3)] [] 181 := by
  intro n
  induction n with
  | zero =>
    intro T x2 x3 h
    exact absurd h (by simp [zl3])
  | succ n hr181 =>
    intro T x2 x3 h
    rw [zl3_s] at h
    unfold pX12_next_181 at h
    refine z_aload_n K dX12_next_181 rfl ?_
    obtain ⟨u12, hc, h⟩ := bd1_e h
    refine z_callVI K (mX12_peek l hR k0 hc) clX12 k0 ceX12_peek q1502 ⟨rfl, rfl, rfl, rfl⟩ rfl rfl rfl dX12_next_182 ?_
    obtain ⟨u13, hc, h⟩ := bd1_e h
    refine z_callSI K (mX12_isSmall l hR hc) ceX12_isSmall q1506 ⟨rfl, rfl, rfl, rfl⟩ rfl rfl rfl dX12_next_185 ?_
    refine z_if_ne K 201 dX12_next_188 (by decide) (fun c => ?_) (fun c => ?_)
    · have h := ite_f h c
      refine Zj.mask [true, false, true, true] ?_
      exact wX12_next_201 K hR k0 hr181 he298 _ _ _ h
    · have h := ite_t h c
      refine z_aload_n K dX12_next_191 rfl ?_
      obtain ⟨u22, hc, h⟩ := bd1_e h
      refine z_callVI K (mX12_peek l hR k0 hc) clX12 k0 ceX12_peek q1502 ⟨rfl, rfl, rfl, rfl⟩ rfl rfl rfl dX12_next_192 ?_
      obtain ⟨u23, hc, h⟩ := bd1_e h
      refine z_callSI K (mX12_isDigit l hR hc) ceX12_isDigit q1509 ⟨rfl, rfl, rfl, rfl⟩ rfl rfl rfl dX12_next_195 ?_
      refine z_if_eq K 298 dX12_next_198 (by decide) (fun c => ?_) (fun c => ?_)
      · have h := ite_t h c
        refine Zj.mask [true, false, true, true] ?_
        exact he298 _ _ _ h
      · have h := ite_f h c
        refine Zj.mask [true, false, true, true] ?_
        exact wX12_next_201 K hR k0 hr181 he298 _ _ _ h
set_option maxRecDepth 100000 in
set_option maxHeartbeats 4000000 in
theorem wX12_next_317 {X : Cx} {g : Gl} {l : Launch} {R : Rf} {a0 : Nat} (K : Ok X g l cX12_next RX12 4 none rmX12_next) (hR : Ty g R) (k0 : kd g a0 = 12) {r : Mm} (T : Mm) (x2 : Int32) (as0 : Nat) (xs1 : Int32) (xs2 : Int32) (ks0 : kd g as0 = 12) (h : pX12_next_317 R a0 T x2 as0 xs1 xs2 = some r) : Zj X g 4 (QV X g R r) R T [none, none, some (.int x2), none] [.int xs2, .int xs1, .ref (g.2.2.1 as0)] 317 := by
  unfold pX12_next_317 at h
  refine z_icmp_le K 324 dX12_next_317 (by decide) (fun c => ?_) (fun c => ?_)
  · have h := ite_t h c
    refine z_iload_n K dX12_next_324 rfl ?_
    refine z_if_eq K 332 dX12_next_325 (by decide) (fun c => ?_) (fun c => ?_)
    · have h := ite_t h c
      refine z_iconst K 2 dX12_next_332 rfl ?_
      refine z_putI K clX12 tyX12_ok nmX12 ks0 11 rfl rfl q1349 rfl rfl rfl dX12_next_333 ?_
      obtain rfl := Option.some.inj h
      exact z_vret K dX12_next_336
    · have h := ite_f h c
      refine z_iconst K 1 dX12_next_328 rfl ?_
      refine z_goto K 333 dX12_next_329 (by decide) ?_
      refine z_putI K clX12 tyX12_ok nmX12 ks0 11 rfl rfl q1349 rfl rfl rfl dX12_next_333 ?_
      obtain rfl := Option.some.inj h
      exact z_vret K dX12_next_336
  · have h := ite_f h c
    refine z_iconst K 4 dX12_next_320 rfl ?_
    refine z_goto K 333 dX12_next_321 (by decide) ?_
    refine z_putI K clX12 tyX12_ok nmX12 ks0 11 rfl rfl q1349 rfl rfl rfl dX12_next_333 ?_
    obtain rfl := Option.some.inj h
    exact z_vret K dX12_next_336
set_option maxRecDepth 100000 in
set_option maxHeartbeats 4000000 in
theorem wX12_next_298 {X : Cx} {g : Gl} {l : Launch} {R : Rf} {a0 : Nat} (K : Ok X g l cX12_next RX12 4 none rmX12_next) (hR : Ty g R) (k0 : kd g a0 = 12) {r : Mm} (T : Mm) (x2 : Int32) (x3 : Int32) (h : pX12_next_298 R a0 T x2 x3 = some r) : Zj X g 4 (QV X g R r) R T [some (.ref (g.2.2.1 a0)), none, some (.int x2), some (.int x3)] [] 298 := by
  unfold pX12_next_298 at h
  refine z_aload_n K dX12_next_298 rfl ?_
  refine z_iload_n K dX12_next_299 rfl ?_
  refine z_if_eq K 320 dX12_next_300 (by decide) (fun c => ?_) (fun c => ?_)
  · have h := ite_t h c
    refine z_iconst K 4 dX12_next_320 rfl ?_
    refine z_goto K 333 dX12_next_321 (by decide) ?_
    refine z_putI K clX12 tyX12_ok nmX12 k0 11 rfl rfl q1349 rfl rfl rfl dX12_next_333 ?_
    obtain rfl := Option.some.inj h
    exact z_vret K dX12_next_336
  · have h := ite_f h c
    refine z_aload_n K dX12_next_303 rfl ?_
    refine z_getI K clX12 k0 13 rfl rfl q1351 dX12_next_304 ?_
    refine z_iload_n K dX12_next_307 rfl ?_
    refine z_if_eq K 316 dX12_next_308 (by decide) (fun c => ?_) (fun c => ?_)
    · have h := ite_t h c
      refine z_iconst K 3 dX12_next_316 rfl ?_
      refine Zj.mask [false, false, true, false] ?_
      exact wX12_next_317 K hR k0 _ _ _ _ _ k0 h
    · have h := ite_f h c
      refine z_bipush K 7 dX12_next_311 rfl ?_
      refine z_goto K 317 dX12_next_313 (by decide) ?_
      refine Zj.mask [false, false, true, false] ?_
      exact wX12_next_317 K hR k0 _ _ _ _ _ k0 h
set_option maxRecDepth 100000 in
set_option maxHeartbeats 4000000 in
theorem wX12_next_164 {X : Cx} {g : Gl} {l : Launch} {R : Rf} {a0 : Nat} (K : Ok X g l cX12_next RX12 4 none rmX12_next) (hR : Ty g R) (k0 : kd g a0 = 12) {r : Mm} (T : Mm) (x1 : Int32) (h : pX12_next_164 R a0 T x1 = some r) : Zj X g 4 (QV X g R r) R T [some (.ref (g.2.2.1 a0)), some (.int x1), none, none] [] 164 := by
  unfold pX12_next_164 at h
  refine z_iload_n K dX12_next_164 rfl ?_
  obtain ⟨u9, hc, h⟩ := bd1_e h
  refine z_callSI K (mX12_isSmall l hR hc) ceX12_isSmall q1506 ⟨rfl, rfl, rfl, rfl⟩ rfl rfl rfl dX12_next_165 ?_
  refine z_istore_n K dX12_next_168 rfl rfl ?_
  refine z_iconst K 1 dX12_next_169 rfl ?_
  refine z_istore_n K dX12_next_170 rfl rfl ?_
  refine z_aload_n K dX12_next_171 rfl ?_
  refine z_lconst K 0 dX12_next_172 rfl ?_
  refine z_putJ K clX12 tyX12_ok nmX12 k0 17 rfl rfl q1355 rfl rfl rfl dX12_next_173 ?_
  refine z_aload_n K dX12_next_176 rfl ?_
  refine z_iconst K 0 dX12_next_177 rfl ?_
  refine z_putI K clX12 tyX12_ok nmX12 k0 14 rfl rfl q1352 rfl rfl rfl dX12_next_178 ?_
  refine Zj.mask [true, false, true, true] ?_
  exact wX12_next_181 K hR k0 (wX12_next_298 K hR k0) FU _ _ _ h
set_option maxRecDepth 100000 in
set_option maxHeartbeats 4000000 in
theorem wX12_next_145 {X : Cx} {g : Gl} {l : Launch} {R : Rf} {a0 : Nat} (K : Ok X g l cX12_next RX12 4 none rmX12_next) (hR : Ty g R) (k0 : kd g a0 = 12) {r : Mm} (T : Mm) (x1 : Int32) (as0 : Nat) (xs1 : Int32) (ks0 : kd g as0 = 12) (h : pX12_next_145 R a0 T x1 as0 xs1 = some r) : Zj X g 4 (QV X g R r) R T [some (.ref (g.2.2.1 a0)), some (.int x1), none, none] [.int xs1, .ref (g.2.2.1 as0)] 145 := by
  unfold pX12_next_145 at h
  refine z_putI K clX12 tyX12_ok nmX12 ks0 11 rfl rfl q1349 rfl rfl rfl dX12_next_145 ?_
  refine z_aload_n K dX12_next_148 rfl ?_
  refine z_iload_n K dX12_next_149 rfl ?_
  refine z_putI K clX12 tyX12_ok nmX12 k0 14 rfl rfl q1352 rfl rfl rfl dX12_next_150 ?_
  refine z_aload_n K dX12_next_153 rfl ?_
  refine z_dup K dX12_next_154 rfl ?_
  refine z_getI K clX12 k0 4 rfl rfl q1342 dX12_next_155 ?_
  refine z_iconst K 1 dX12_next_158 rfl ?_
  refine z_iadd K dX12_next_159 ?_
  refine z_putI K clX12 tyX12_ok nmX12 k0 4 rfl rfl q1342 rfl rfl rfl dX12_next_160 ?_
  obtain rfl := Option.some.inj h
  exact z_vret K dX12_next_163
set_option maxRecDepth 100000 in
set_option maxHeartbeats 4000000 in
theorem wX12_next_140 {X : Cx} {g : Gl} {l : Launch} {R : Rf} {a0 : Nat} (K : Ok X g l cX12_next RX12 4 none rmX12_next) (hR : Ty g R) (k0 : kd g a0 = 12) {r : Mm} (T : Mm) (x1 : Int32) (as0 : Nat) (ks0 : kd g as0 = 12) (h : pX12_next_140 R a0 T x1 as0 = some r) : Zj X g 4 (QV X g R r) R T [some (.ref (g.2.2.1 a0)), some (.int x1), none, none] [.ref (g.2.2.1 as0)] 140 := by
  unfold pX12_next_140 at h
  refine z_iconst K 3 dX12_next_140 rfl ?_
  refine z_goto K 145 dX12_next_141 (by decide) ?_
  refine Zj.mask [true, true, false, false] ?_
  exact wX12_next_145 K hR k0 _ _ _ _ ks0 h
set_option maxRecDepth 100000 in
set_option maxHeartbeats 4000000 in
theorem wX12_next_144 {X : Cx} {g : Gl} {l : Launch} {R : Rf} {a0 : Nat} (K : Ok X g l cX12_next RX12 4 none rmX12_next) (hR : Ty g R) (k0 : kd g a0 = 12) {r : Mm} (T : Mm) (x1 : Int32) (as0 : Nat) (ks0 : kd g as0 = 12) (h : pX12_next_144 R a0 T x1 as0 = some r) : Zj X g 4 (QV X g R r) R T [some (.ref (g.2.2.1 a0)), some (.int x1), none, none] [.ref (g.2.2.1 as0)] 144 := by
  unfold pX12_next_144 at h
  refine z_iconst K 4 dX12_next_144 rfl ?_
  refine Zj.mask [true, true, false, false] ?_
  exact wX12_next_145 K hR k0 _ _ _ _ ks0 h
set_option maxRecDepth 100000 in
set_option maxHeartbeats 4000000 in
theorem wX12_next_80 {X : Cx} {g : Gl} {l : Launch} {R : Rf} {a0 : Nat} (K : Ok X g l cX12_next RX12 4 none rmX12_next) (hR : Ty g R) (k0 : kd g a0 = 12) {r : Mm} (T : Mm) (h : pX12_next_80 R a0 T = some r) : Zj X g 4 (QV X g R r) R T [some (.ref (g.2.2.1 a0)), none, none, none] [] 80 := by
  unfold pX12_next_80 at h
  refine z_aload_n K dX12_next_80 rfl ?_
  obtain ⟨u7, hc, h⟩ := bd1_e h
  refine z_callVI K (mX12_peek l hR k0 hc) clX12 k0 ceX12_peek q1502 ⟨rfl, rfl, rfl, rfl⟩ rfl rfl rfl dX12_next_81 ?_
  refine z_istore_n K dX12_next_84 rfl rfl ?_
  refine z_iload_n K dX12_next_85 rfl ?_
  refine z_if_ge K 95 dX12_next_86 (by decide) (fun c => ?_) (fun c => ?_)
  · have h := ite_t h c
    refine z_iload_n K dX12_next_95 rfl ?_
    obtain ⟨u8, hc, h⟩ := bd1_e h
    refine z_callSI K (mX12_isSmall l hR hc) ceX12_isSmall q1506 ⟨rfl, rfl, rfl, rfl⟩ rfl rfl rfl dX12_next_96 ?_
    refine z_if_ne K 164 dX12_next_99 (by decide) (fun c => ?_) (fun c => ?_)
    · have h := ite_f h c
      refine Zj.mask [true, true, false, false] ?_
      exact wX12_next_164 K hR k0 _ _ h
    · have h := ite_t h c
      refine z_iload_n K dX12_next_102 rfl ?_
      obtain ⟨u28, hc, h⟩ := bd1_e h
      refine z_callSI K (mX12_isDigit l hR hc) ceX12_isDigit q1509 ⟨rfl, rfl, rfl, rfl⟩ rfl rfl rfl dX12_next_103 ?_
      refine z_if_ne K 164 dX12_next_106 (by decide) (fun c => ?_) (fun c => ?_)
      · have h := ite_f h c
        refine Zj.mask [true, true, false, false] ?_
        exact wX12_next_164 K hR k0 _ _ h
      · have h := ite_t h c
        refine z_aload_n K dX12_next_109 rfl ?_
        refine z_iload_n K dX12_next_110 rfl ?_
        refine z_bipush K 59 dX12_next_111 rfl ?_
        refine z_icmp_eq K 140 dX12_next_113 (by decide) (fun c => ?_) (fun c => ?_)
        · have h := ite_t h c
          refine Zj.mask [true, true, false, false] ?_
          exact wX12_next_140 K hR k0 _ _ _ k0 h
        · have h := ite_f h c
          refine z_iload_n K dX12_next_116 rfl ?_
          refine z_bipush K 40 dX12_next_117 rfl ?_
          refine z_icmp_eq K 140 dX12_next_119 (by decide) (fun c => ?_) (fun c => ?_)
          · have h := ite_t h c
            refine Zj.mask [true, true, false, false] ?_
            exact wX12_next_140 K hR k0 _ _ _ k0 h
          · have h := ite_f h c
            refine z_iload_n K dX12_next_122 rfl ?_
            refine z_bipush K 41 dX12_next_123 rfl ?_
            refine z_icmp_eq K 140 dX12_next_125 (by decide) (fun c => ?_) (fun c => ?_)
            · have h := ite_t h c
              refine Zj.mask [true, true, false, false] ?_
              exact wX12_next_140 K hR k0 _ _ _ k0 h
            · have h := ite_f h c
              refine z_iload_n K dX12_next_128 rfl ?_
              refine z_bipush K 60 dX12_next_129 rfl ?_
              refine z_icmp_lt K 144 dX12_next_131 (by decide) (fun c => ?_) (fun c => ?_)
              · have h := ite_t h c
                refine Zj.mask [true, true, false, false] ?_
                exact wX12_next_144 K hR k0 _ _ _ k0 h
              · have h := ite_f h c
                refine z_iload_n K dX12_next_134 rfl ?_
                refine z_bipush K 62 dX12_next_135 rfl ?_
                refine z_icmp_gt K 144 dX12_next_137 (by decide) (fun c => ?_) (fun c => ?_)
                · have h := ite_t h c
                  refine Zj.mask [true, true, false, false] ?_
                  exact wX12_next_144 K hR k0 _ _ _ k0 h
                · have h := ite_f h c
                  refine Zj.mask [true, true, false, false] ?_
                  exact wX12_next_140 K hR k0 _ _ _ k0 h
  · have h := ite_f h c
    refine z_aload_n K dX12_next_89 rfl ?_
    refine z_iconst K 0 dX12_next_90 rfl ?_
    refine z_putI K clX12 tyX12_ok nmX12 k0 11 rfl rfl q1349 rfl rfl rfl dX12_next_91 ?_
    obtain rfl := Option.some.inj h
    exact z_vret K dX12_next_94
set_option maxRecDepth 100000 in
set_option maxHeartbeats 4000000 in
theorem wX12_next_31 {X : Cx} {g : Gl} {l : Launch} {R : Rf} {a0 : Nat} (K : Ok X g l cX12_next RX12 4 none rmX12_next) (hR : Ty g R) (k0 : kd g a0 = 12) {r : Mm} (T : Mm) (h : pX12_next_31 R a0 T = some r) : Zj X g 4 (QV X g R r) R T [some (.ref (g.2.2.1 a0)), none, none, none] [] 31 := by
  unfold pX12_next_31 at h
  refine z_aload_n K dX12_next_31 rfl ?_
  refine z_aload_n K dX12_next_32 rfl ?_
  refine z_getI K clX12 k0 4 rfl rfl q1342 dX12_next_33 ?_
  refine z_putI K clX12 tyX12_ok nmX12 k0 12 rfl rfl q1350 rfl rfl rfl dX12_next_36 ?_
  refine z_aload_n K dX12_next_39 rfl ?_
  refine z_iconst K 0 dX12_next_40 rfl ?_
  refine z_putI K clX12 tyX12_ok nmX12 k0 13 rfl rfl q1351 rfl rfl rfl dX12_next_41 ?_
  refine z_aload_n K dX12_next_44 rfl ?_
  refine z_getI K clX12 k0 3 rfl rfl q1341 dX12_next_45 ?_
  refine z_aload_n K dX12_next_48 rfl ?_
  refine z_getI K clX12 k0 5 rfl rfl q1343 dX12_next_49 ?_
  refine z_icmp_le K 80 dX12_next_52 (by decide) (fun c => ?_) (fun c => ?_)
  · have h := ite_t h c
    refine Zj.mask [true, false, false, false] ?_
    exact wX12_next_80 K hR k0 _ h
  · have h := ite_f h c
    refine z_aload_n K dX12_next_55 rfl ?_
    refine z_getI K clX12 k0 4 rfl rfl q1342 dX12_next_56 ?_
    refine z_aload_n K dX12_next_59 rfl ?_
    refine z_getI K clX12 k0 5 rfl rfl q1343 dX12_next_60 ?_
    refine z_icmp_lt K 80 dX12_next_63 (by decide) (fun c => ?_) (fun c => ?_)
    · have h := ite_t h c
      refine Zj.mask [true, false, false, false] ?_
      exact wX12_next_80 K hR k0 _ h
    · have h := ite_f h c
      refine z_aload_n K dX12_next_66 rfl ?_
      refine z_aload_n K dX12_next_67 rfl ?_
      refine z_getI K clX12 k0 5 rfl rfl q1343 dX12_next_68 ?_
      refine z_putI K clX12 tyX12_ok nmX12 k0 12 rfl rfl q1350 rfl rfl rfl dX12_next_71 ?_
      refine z_aload_n K dX12_next_74 rfl ?_
      refine z_iconst K 4 dX12_next_75 rfl ?_
      refine z_putI K clX12 tyX12_ok nmX12 k0 11 rfl rfl q1349 rfl rfl rfl dX12_next_76 ?_
      obtain rfl := Option.some.inj h
      exact z_vret K dX12_next_79
set_option maxRecDepth 100000 in
set_option maxHeartbeats 4000000 in
theorem mX12_next {g : Gl} {R : Rf} {T : Mm} {a0 : Nat} (l : Launch) (hR : Ty g R) (k0 : kd g a0 = 12) {r : Mm} (h : pX12_next R T a0 = some r) : MV l g yX12_next cX12_next 4 none rmX12_next [.ref (g.2.2.1 a0)] R T R r := by
  refine z_metV (own := RX12) (lv := [some (.ref (g.2.2.1 a0)), none, none, none]) (by decide +kernel) rfl rfl rfl (fun X K => ?_)
  unfold pX12_next at h
  refine Zj.mask [true, false, false, false] ?_
  exact wX12_next_0 K hR k0 (wX12_next_31 K hR k0) FU _ h
