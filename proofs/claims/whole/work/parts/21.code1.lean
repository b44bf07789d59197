/-! GoingOver$Course.whoAre (LGoingOver$Falls;I)I -/
abbrev rmX1_whoAre : Room := { frames := 0, cells := 0, slots := 0, locals := 0 }
def pX1_whoAre_5 (R : Rf) (T : Mm) (a0 : Nat) (a1 : Nat) (x2 : Int32) (e38 : Int32 → Option (Int32)) (r5 : Int32 → Int32 → Option (Int32)) (x3 : Int32) (x4 : Int32) : Option (Int32) :=
  if (T.1 a1 0) ≤ x4 then e38 x3 else ix x4 5 (if (T.1 (R a0 4) x4.toNatClampNeg) = x2 then lt (x3 ||| (1 <<< (x4 &&& 31))) (fun (v2 : Int32) => lt (x4 + 1) (fun (v3 : Int32) => r5 v2 v3)) else lt (x4 + 1) (fun (v1 : Int32) => r5 x3 v1))
def pX1_whoAre_38 (R : Rf) (T : Mm) (a0 : Nat) (a1 : Nat) (x2 : Int32) (x3 : Int32) : Option (Int32) :=
  some x3
def pX1_whoAre (R : Rf) (T : Mm) (a0 : Nat) (a1 : Nat) (x2 : Int32) : Option (Int32) :=
  zl2 (pX1_whoAre_5 R T a0 a1 x2 (pX1_whoAre_38 R T a0 a1 x2)) FU 0 0
set_option maxRecDepth 100000 in
set_option maxHeartbeats 4000000 in
theorem wX1_whoAre_5 {X : Cx} {g : Gl} {l : Launch} {R : Rf} {T : Mm} {a0 : Nat} {a1 : Nat} {x2 : Int32} (K : Ok X g l cX1_whoAre RX1 5 (some .int) rmX1_whoAre) (hR : Ty g R) (k0 : kd g a0 = 1) (k1 : kd g a1 = 3) {r : Int32} {e38 : Int32 → Option (Int32)} (he38 : ∀ (x3 : Int32), e38 x3 = some r → Zj X g 5 (QI X g r R T) R T [none, none, none, some (.int x3), none] [] 38) : ∀ (n : Nat) (x3 : Int32) (x4 : Int32), zl2 (pX1_whoAre_5 R T a0 a1 x2 e38) n x3 x4 = some r → Zj X g 5 (QI X g r R T) R T [some (.ref (g.2.2.1 a0)), some (.ref (g.2.2.1 a1)), some (.int x2), some (.int x3), some (.int x4)] [] 5 := by
  intro n
  induction n with
  | zero =>
    intro x3 x4 h
    exact absurd h (by simp [zl2])
  | succ n hr5 =>
    intro x3 x4 h
    rw [zl2_s] at h
    unfold pX1_whoAre_5 at h
    refine z_iload K dX1_whoAre_5 rfl ?_
    refine z_aload_n K dX1_whoAre_7 rfl ?_
    refine z_getI K clX3 k1 0 rfl rfl q248 dX1_whoAre_8 ?_
    refine z_icmp_ge K 38 dX1_whoAre_11 (by decide) (fun c => ?_) (fun c => ?_)
    · have h := ite_t h c
      refine Zj.mask [false, false, false, true, false] ?_
      exact he38 _ h
    · have h := ite_f h c
      refine z_aload_n K dX1_whoAre_14 rfl ?_
      refine z_getR K clX1 k0 4 rfl rfl q346 dX1_whoAre_15 ?_
      refine z_iload K dX1_whoAre_18 rfl ?_
      obtain ⟨hi, h⟩ := ix_e h
      refine z_iald K (hR.at (k := 4) (t := 20005) k0 rfl rfl) rfl rfl rfl hi dX1_whoAre_20 ?_
      refine z_iload_n K dX1_whoAre_21 rfl ?_
      refine z_icmp_ne K 32 dX1_whoAre_22 (by decide) (fun c => ?_) (fun c => ?_)
      · have h := ite_f h c
        refine z_iinc K 1 dX1_whoAre_32 rfl rfl rfl rfl ?_
        refine z_goto K 5 dX1_whoAre_35 (by decide) ?_
        refine Zj.mask [true, true, true, true, true] ?_
        exact hr5 _ _ h
      · have h := ite_t h c
        refine z_iload_n K dX1_whoAre_25 rfl ?_
        refine z_iconst K 1 dX1_whoAre_26 rfl ?_
        refine z_iload K dX1_whoAre_27 rfl ?_
        refine z_ishl K dX1_whoAre_29 ?_
        refine z_ior K dX1_whoAre_30 ?_
        refine z_istore_n K dX1_whoAre_31 rfl rfl ?_
        refine z_iinc K 1 dX1_whoAre_32 rfl rfl rfl rfl ?_
        refine z_goto K 5 dX1_whoAre_35 (by decide) ?_
        refine Zj.mask [true, true, true, true, true] ?_
        exact hr5 _ _ h
set_option maxRecDepth 100000 in
set_option maxHeartbeats 4000000 in
theorem wX1_whoAre_38 {X : Cx} {g : Gl} {l : Launch} {R : Rf} {T : Mm} {a0 : Nat} {a1 : Nat} {x2 : Int32} (K : Ok X g l cX1_whoAre RX1 5 (some .int) rmX1_whoAre) (hR : Ty g R) (k0 : kd g a0 = 1) (k1 : kd g a1 = 3) {r : Int32} (x3 : Int32) (h : pX1_whoAre_38 R T a0 a1 x2 x3 = some r) : Zj X g 5 (QI X g r R T) R T [none, none, none, some (.int x3), none] [] 38 := by
  unfold pX1_whoAre_38 at h
  refine z_iload_n K dX1_whoAre_38 rfl ?_
  obtain rfl := Option.some.inj h
  exact z_iret K dX1_whoAre_39
set_option maxRecDepth 100000 in
set_option maxHeartbeats 4000000 in
theorem mX1_whoAre {g : Gl} {R : Rf} {T : Mm} {a0 : Nat} {a1 : Nat} {x2 : Int32} (l : Launch) (hR : Ty g R) (k0 : kd g a0 = 1) (k1 : kd g a1 = 3) {r : Int32} (h : pX1_whoAre R T a0 a1 x2 = some r) : MI l g yX1_whoAre cX1_whoAre 5 (some .int) rmX1_whoAre [.ref (g.2.2.1 a0), .ref (g.2.2.1 a1), .int x2] R T r R T := by
  refine z_metI (own := RX1) (lv := [some (.ref (g.2.2.1 a0)), some (.ref (g.2.2.1 a1)), some (.int x2), none, none]) (by decide +kernel) rfl rfl rfl (fun X K => ?_)
  unfold pX1_whoAre at h
  refine z_iconst K 0 dX1_whoAre_0 rfl ?_
  refine z_istore_n K dX1_whoAre_1 rfl rfl ?_
  refine z_iconst K 0 dX1_whoAre_2 rfl ?_
  refine z_istore K dX1_whoAre_3 rfl rfl ?_
  refine Zj.mask [true, true, true, true, true] ?_
  exact wX1_whoAre_5 K hR k0 k1 (wX1_whoAre_38 K hR k0 k1) FU _ _ h
/-! GoingOver$Falls.joinsHolding (III)I -/
abbrev rmX3_joinsHolding : Room := { frames := 1, cells := 0, slots := 0, locals := 21 }
def pX3_joinsHolding_6 (R : Rf) (T : Mm) (a0 : Nat) (x1 : Int32) (x2 : Int32) (x3 : Int32) (e60 : Int32 → Option (Int32)) (r6 : Int32 → Int32 → Option (Int32)) (x4 : Int32) (x5 : Int32) : Option (Int32) :=
  if (T.1 a0 2) ≤ x5 then e60 x4 else if ((x2 >>> (x5 &&& 31)) &&& 1) = 0 then ix x5 16 (if (T.1 (R a0 12) x5.toNatClampNeg) < x3 then lt (x5 + 1) (fun (v2 : Int32) => r6 x4 v2) else bd1 (pX3_ownerOfJoin R T a0 x5) (fun (u3 : Int32) => if u3 = x1 then lt (x4 ||| (1 <<< (x5 &&& 31))) (fun (v5 : Int32) => lt (x5 + 1) (fun (v6 : Int32) => r6 v5 v6)) else lt (x5 + 1) (fun (v4 : Int32) => r6 x4 v4))) else lt (x5 + 1) (fun (v1 : Int32) => r6 x4 v1)
def pX3_joinsHolding_60 (R : Rf) (T : Mm) (a0 : Nat) (x1 : Int32) (x2 : Int32) (x3 : Int32) (x4 : Int32) : Option (Int32) :=
  some x4
def pX3_joinsHolding (R : Rf) (T : Mm) (a0 : Nat) (x1 : Int32) (x2 : Int32) (x3 : Int32) : Option (Int32) :=
  zl2 (pX3_joinsHolding_6 R T a0 x1 x2 x3 (pX3_joinsHolding_60 R T a0 x1 x2 x3)) FU 0 0
set_option maxRecDepth 100000 in
set_option maxHeartbeats 4000000 in
theorem wX3_joinsHolding_6 {X : Cx} {g : Gl} {l : Launch} {R : Rf} {T : Mm} {a0 : Nat} {x1 : Int32} {x2 : Int32} {x3 : Int32} (K : Ok X g l cX3_joinsHolding RX3 6 (some .int) rmX3_joinsHolding) (hR : Ty g R) (k0 : kd g a0 = 3) {r : Int32} {e60 : Int32 → Option (Int32)} (he60 : ∀ (x4 : Int32), e60 x4 = some r → Zj X g 6 (QI X g r R T) R T [none, none, none, none, some (.int x4), none] [] 60) : ∀ (n : Nat) (x4 : Int32) (x5 : Int32), zl2 (pX3_joinsHolding_6 R T a0 x1 x2 x3 e60) n x4 x5 = some r → Zj X g 6 (QI X g r R T) R T [some (.ref (g.2.2.1 a0)), some (.int x1), some (.int x2), some (.int x3), some (.int x4), some (.int x5)] [] 6 := by
  intro n
  induction n with
  | zero =>
    intro x4 x5 h
    exact absurd h (by simp [zl2])
  | succ n hr6 =>
    intro x4 x5 h
    rw [zl2_s] at h
    unfold pX3_joinsHolding_6 at h
    refine z_iload K dX3_joinsHolding_6 rfl ?_
    refine z_aload_n K dX3_joinsHolding_8 rfl ?_
    refine z_getI K clX3 k0 2 rfl rfl q255 dX3_joinsHolding_9 ?_
    refine z_icmp_ge K 60 dX3_joinsHolding_12 (by decide) (fun c => ?_) (fun c => ?_)
    · have h := ite_t h c
      refine Zj.mask [false, false, false, false, true, false] ?_
      exact he60 _ h
    · have h := ite_f h c
      refine z_iload_n K dX3_joinsHolding_15 rfl ?_
      refine z_iload K dX3_joinsHolding_16 rfl ?_
      refine z_ishr K dX3_joinsHolding_18 ?_
      refine z_iconst K 1 dX3_joinsHolding_19 rfl ?_
      refine z_iand K dX3_joinsHolding_20 ?_
      refine z_if_ne K 54 dX3_joinsHolding_21 (by decide) (fun c => ?_) (fun c => ?_)
      · have h := ite_f h c
        refine z_iinc K 1 dX3_joinsHolding_54 rfl rfl rfl rfl ?_
        refine z_goto K 6 dX3_joinsHolding_57 (by decide) ?_
        refine Zj.mask [true, true, true, true, true, true] ?_
        exact hr6 _ _ h
      · have h := ite_t h c
        refine z_aload_n K dX3_joinsHolding_24 rfl ?_
        refine z_getR K clX3 k0 12 rfl rfl q287 dX3_joinsHolding_25 ?_
        refine z_iload K dX3_joinsHolding_28 rfl ?_
        obtain ⟨hi, h⟩ := ix_e h
        refine z_iald K (hR.at (k := 12) (t := 20016) k0 rfl rfl) rfl rfl rfl hi dX3_joinsHolding_30 ?_
        refine z_iload_n K dX3_joinsHolding_31 rfl ?_
        refine z_icmp_lt K 54 dX3_joinsHolding_32 (by decide) (fun c => ?_) (fun c => ?_)
        · have h := ite_t h c
          refine z_iinc K 1 dX3_joinsHolding_54 rfl rfl rfl rfl ?_
          refine z_goto K 6 dX3_joinsHolding_57 (by decide) ?_
          refine Zj.mask [true, true, true, true, true, true] ?_
          exact hr6 _ _ h
        · have h := ite_f h c
          refine z_aload_n K dX3_joinsHolding_35 rfl ?_
          refine z_iload K dX3_joinsHolding_36 rfl ?_
          obtain ⟨u3, hc, h⟩ := bd1_e h
          refine z_callVI K (mX3_ownerOfJoin l hR k0 hc) clX3 k0 ceX3_ownerOfJoin q743 ⟨rfl, rfl, rfl, rfl⟩ rfl rfl rfl dX3_joinsHolding_38 ?_
          refine z_iload_n K dX3_joinsHolding_41 rfl ?_
          refine z_icmp_ne K 54 dX3_joinsHolding_42 (by decide) (fun c => ?_) (fun c => ?_)
          · have h := ite_f h c
            refine z_iinc K 1 dX3_joinsHolding_54 rfl rfl rfl rfl ?_
            refine z_goto K 6 dX3_joinsHolding_57 (by decide) ?_
            refine Zj.mask [true, true, true, true, true, true] ?_
            exact hr6 _ _ h
          · have h := ite_t h c
            refine z_iload K dX3_joinsHolding_45 rfl ?_
            refine z_iconst K 1 dX3_joinsHolding_47 rfl ?_
            refine z_iload K dX3_joinsHolding_48 rfl ?_
            refine z_ishl K dX3_joinsHolding_50 ?_
            refine z_ior K dX3_joinsHolding_51 ?_
            refine z_istore K dX3_joinsHolding_52 rfl rfl ?_
            refine z_iinc K 1 dX3_joinsHolding_54 rfl rfl rfl rfl ?_
            refine z_goto K 6 dX3_joinsHolding_57 (by decide) ?_
            refine Zj.mask [true, true, true, true, true, true] ?_
            exact hr6 _ _ h
set_option maxRecDepth 100000 in
set_option maxHeartbeats 4000000 in
theorem wX3_joinsHolding_60 {X : Cx} {g : Gl} {l : Launch} {R : Rf} {T : Mm} {a0 : Nat} {x1 : Int32} {x2 : Int32} {x3 : Int32} (K : Ok X g l cX3_joinsHolding RX3 6 (some .int) rmX3_joinsHolding) (hR : Ty g R) (k0 : kd g a0 = 3) {r : Int32} (x4 : Int32) (h : pX3_joinsHolding_60 R T a0 x1 x2 x3 x4 = some r) : Zj X g 6 (QI X g r R T) R T [none, none, none, none, some (.int x4), none] [] 60 := by
  unfold pX3_joinsHolding_60 at h
  refine z_iload K dX3_joinsHolding_60 rfl ?_
  obtain rfl := Option.some.inj h
  exact z_iret K dX3_joinsHolding_62
set_option maxRecDepth 100000 in
set_option maxHeartbeats 4000000 in
theorem mX3_joinsHolding {g : Gl} {R : Rf} {T : Mm} {a0 : Nat} {x1 : Int32} {x2 : Int32} {x3 : Int32} (l : Launch) (hR : Ty g R) (k0 : kd g a0 = 3) {r : Int32} (h : pX3_joinsHolding R T a0 x1 x2 x3 = some r) : MI l g yX3_joinsHolding cX3_joinsHolding 6 (some .int) rmX3_joinsHolding [.ref (g.2.2.1 a0), .int x1, .int x2, .int x3] R T r R T := by
  refine z_metI (own := RX3) (lv := [some (.ref (g.2.2.1 a0)), some (.int x1), some (.int x2), some (.int x3), none, none]) (by decide +kernel) rfl rfl rfl (fun X K => ?_)
  unfold pX3_joinsHolding at h
  refine z_iconst K 0 dX3_joinsHolding_0 rfl ?_
  refine z_istore K dX3_joinsHolding_1 rfl rfl ?_
  refine z_iconst K 0 dX3_joinsHolding_3 rfl ?_
  refine z_istore K dX3_joinsHolding_4 rfl rfl ?_
  refine Zj.mask [true, true, true, true, true, true] ?_
  exact wX3_joinsHolding_6 K hR k0 (wX3_joinsHolding_60 K hR k0) FU _ _ h
/-! GoingOver$Course.holdingAt (LGoingOver$Falls;II)I -/
abbrev rmX1_holdingAt : Room := { frames := 2, cells := 0, slots := 0, locals := 46 }
def pX1_holdingAt_28 (R : Rf) (T : Mm) (a0 : Nat) (a1 : Nat) (x2 : Int32) (x3 : Int32) (as0 : Nat) (xs1 : Int32) (xs2 : Int32) (xs3 : Int32) : Option (Int32) :=
  bd1 (pX3_joinsHolding R T as0 xs1 xs2 xs3) (fun (u1 : Int32) => some u1)
def pX1_holdingAt (R : Rf) (T : Mm) (a0 : Nat) (a1 : Nat) (x2 : Int32) (x3 : Int32) : Option (Int32) :=
  ix x2 5 (if (T.1 (R a0 4) x2.toNatClampNeg) < 2 then ix x2 5 (pX1_holdingAt_28 R T a0 a1 x2 x3 a1 x2 (T.1 a0 2) (x3 - (T.1 (R a1 5) x2.toNatClampNeg))) else pX1_holdingAt_28 R T a0 a1 x2 x3 a1 x2 (T.1 a0 2) 0)
set_option maxRecDepth 100000 in
set_option maxHeartbeats 4000000 in
theorem wX1_holdingAt_28 {X : Cx} {g : Gl} {l : Launch} {R : Rf} {T : Mm} {a0 : Nat} {a1 : Nat} {x2 : Int32} {x3 : Int32} (K : Ok X g l cX1_holdingAt RX1 4 (some .int) rmX1_holdingAt) (hR : Ty g R) (k0 : kd g a0 = 1) (k1 : kd g a1 = 3) {r : Int32} (as0 : Nat) (xs1 : Int32) (xs2 : Int32) (xs3 : Int32) (ks0 : kd g as0 = 3) (h : pX1_holdingAt_28 R T a0 a1 x2 x3 as0 xs1 xs2 xs3 = some r) : Zj X g 4 (QI X g r R T) R T [none, none, none, none] [.int xs3, .int xs2, .int xs1, .ref (g.2.2.1 as0)] 28 := by
  unfold pX1_holdingAt_28 at h
  obtain ⟨u1, hc, h⟩ := bd1_e h
  refine z_callVI K (mX3_joinsHolding l hR ks0 hc) clX3 ks0 ceX3_joinsHolding q891 ⟨rfl, rfl, rfl, rfl⟩ rfl rfl rfl dX1_holdingAt_28 ?_
  obtain rfl := Option.some.inj h
  exact z_iret K dX1_holdingAt_31
set_option maxRecDepth 100000 in
set_option maxHeartbeats 4000000 in
theorem mX1_holdingAt {g : Gl} {R : Rf} {T : Mm} {a0 : Nat} {a1 : Nat} {x2 : Int32} {x3 : Int32} (l : Launch) (hR : Ty g R) (k0 : kd g a0 = 1) (k1 : kd g a1 = 3) {r : Int32} (h : pX1_holdingAt R T a0 a1 x2 x3 = some r) : MI l g yX1_holdingAt cX1_holdingAt 4 (some .int) rmX1_holdingAt [.ref (g.2.2.1 a0), .ref (g.2.2.1 a1), .int x2, .int x3] R T r R T := by
  refine z_metI (own := RX1) (lv := [some (.ref (g.2.2.1 a0)), some (.ref (g.2.2.1 a1)), some (.int x2), some (.int x3)]) (by decide +kernel) rfl rfl rfl (fun X K => ?_)
  unfold pX1_holdingAt at h
  refine z_aload_n K dX1_holdingAt_0 rfl ?_
  refine z_iload_n K dX1_holdingAt_1 rfl ?_
  refine z_aload_n K dX1_holdingAt_2 rfl ?_
  refine z_getI K clX1 k0 2 rfl rfl q341 dX1_holdingAt_3 ?_
  refine z_aload_n K dX1_holdingAt_6 rfl ?_
  refine z_getR K clX1 k0 4 rfl rfl q346 dX1_holdingAt_7 ?_
  refine z_iload_n K dX1_holdingAt_10 rfl ?_
  obtain ⟨hi, h⟩ := ix_e h
  refine z_iald K (hR.at (k := 4) (t := 20005) k0 rfl rfl) rfl rfl rfl hi dX1_holdingAt_11 ?_
  refine z_iconst K 2 dX1_holdingAt_12 rfl ?_
  refine z_icmp_lt K 20 dX1_holdingAt_13 (by decide) (fun c => ?_) (fun c => ?_)
  · have h := ite_t h c
    refine z_iload_n K dX1_holdingAt_20 rfl ?_
    refine z_aload_n K dX1_holdingAt_21 rfl ?_
    refine z_getR K clX3 k1 5 rfl rfl q269 dX1_holdingAt_22 ?_
    refine z_iload_n K dX1_holdingAt_25 rfl ?_
    obtain ⟨hi, h⟩ := ix_e h
    refine z_iald K (hR.at (k := 5) (t := 20005) k1 rfl rfl) rfl rfl rfl hi dX1_holdingAt_26 ?_
    refine z_isub K dX1_holdingAt_27 ?_
    refine Zj.mask [false, false, false, false] ?_
    exact wX1_holdingAt_28 K hR k0 k1 _ _ _ _ k1 h
  · have h := ite_f h c
    refine z_iconst K 0 dX1_holdingAt_16 rfl ?_
    refine z_goto K 28 dX1_holdingAt_17 (by decide) ?_
    refine Zj.mask [false, false, false, false] ?_
    exact wX1_holdingAt_28 K hR k0 k1 _ _ _ _ k1 h
/-! GoingOver$Draws.next (I)I -/
abbrev rmX2_next : Room := { frames := 0, cells := 0, slots := 0, locals := 0 }
def pX2_next (R : Rf) (T : Mm) (a0 : Nat) (x1 : Int32) : Option (Int32 × Mm) :=
  lt (wI T a0 0 (((T.1 a0 0) * 1103515245) + 12345)) (fun (T1 : Mm) => if x1 ≤ 0 then some (0, T1) else nz x1 (some ((us (T1.1 a0 0) 8) - (us (T1.1 a0 0) 8) / x1 * x1, T1)))
set_option maxRecDepth 100000 in
set_option maxHeartbeats 4000000 in
theorem mX2_next {g : Gl} {R : Rf} {T : Mm} {a0 : Nat} {x1 : Int32} (l : Launch) (hR : Ty g R) (k0 : kd g a0 = 2) {r : Int32 × Mm} (h : pX2_next R T a0 x1 = some r) : MI l g yX2_next cX2_next 2 (some .int) rmX2_next [.ref (g.2.2.1 a0), .int x1] R T r.1 R r.2 := by
  refine z_metI (own := RX2) (lv := [some (.ref (g.2.2.1 a0)), some (.int x1)]) (by decide +kernel) rfl rfl rfl (fun X K => ?_)
  unfold pX2_next at h
  refine z_aload_n K dX2_next_0 rfl ?_
  refine z_aload_n K dX2_next_1 rfl ?_
  refine z_getI K clX2 k0 0 rfl rfl q428 dX2_next_2 ?_
  refine z_ldc K 1103515245 q1063 dX2_next_5 ?_
  refine z_imul K dX2_next_7 ?_
  refine z_sipush K 12345 dX2_next_8 rfl ?_
  refine z_iadd K dX2_next_11 ?_
  refine z_putI K clX2 tyX2_ok nmX2 k0 0 rfl rfl q428 rfl rfl rfl dX2_next_12 ?_
  refine z_iload_n K dX2_next_15 rfl ?_
  refine z_if_le K 31 dX2_next_16 (by decide) (fun c => ?_) (fun c => ?_)
  · have h := ite_t h c
    refine z_iconst K 0 dX2_next_31 rfl ?_
    obtain rfl := Option.some.inj h
    exact z_iret K dX2_next_32
  · have h := ite_f h c
    refine z_aload_n K dX2_next_19 rfl ?_
    refine z_getI K clX2 k0 0 rfl rfl q428 dX2_next_20 ?_
    refine z_bipush K 8 dX2_next_23 rfl ?_
    refine z_iushr K dX2_next_25 ?_
    refine z_iload_n K dX2_next_26 rfl ?_
    obtain ⟨hz, h⟩ := nz_e h
    refine z_irem K dX2_next_27 hz ?_
    refine z_goto K 32 dX2_next_28 (by decide) ?_
    obtain rfl := Option.some.inj h
    exact z_iret K dX2_next_32
/-! GoingOver$Draws.liveDay (LGoingOver$Falls;LGoingOver$Course;)V -/
abbrev rmX2_liveDay : Room := { frames := 3, cells := 0, slots := 0, locals := 70 }
def pX2_liveDay_2 (R : Rf) (a0 : Nat) (a1 : Nat) (a2 : Nat) (e51 : Mm → Option (Mm)) (r2 : Mm → Int32 → Option (Mm)) (T : Mm) (x3 : Int32) : Option (Mm) :=
  if (T.1 a1 0) ≤ x3 then e51 T else bd2 (pX2_next R T a0 8) (fun (u1 : Int32) (T1 : Mm) => if u1 = 0 then bd2 (pX1_letGo R T1 a2 a1 x3) (fun (u5 : Int32) (T5 : Mm) => lt (x3 + 1) (fun (v6 : Int32) => r2 T5 v6)) else if u1 = 1 then bd2 (pX1_letOut R T1 a2 x3) (fun (u3 : Int32) (T3 : Mm) => lt (x3 + 1) (fun (v4 : Int32) => r2 T3 v4)) else lt (x3 + 1) (fun (v2 : Int32) => r2 T1 v2))
def pX2_liveDay_135 (R : Rf) (a0 : Nat) (a1 : Nat) (a2 : Nat) (T : Mm) : Option (Mm) :=
  bd1 (pX1_passDay R T a2 a1) (fun (T8 : Mm) => some T8)
def pX2_liveDay_109 (R : Rf) (a0 : Nat) (a1 : Nat) (a2 : Nat) (T : Mm) (x3 : Int32) : Option (Mm) :=
  if x3 = 1 then if (T.1 a1 2) ≤ 0 then pX2_liveDay_135 R a0 a1 a2 T else bd2 (pX2_next R T a0 (T.1 a1 2)) (fun (u9 : Int32) (T9 : Mm) => bd2 (pX1_makeWhole R T9 a2 a1 u9) (fun (u10 : Int32) (T10 : Mm) => pX2_liveDay_135 R a0 a1 a2 T10)) else pX2_liveDay_135 R a0 a1 a2 T
def pX2_liveDay_106 (R : Rf) (a0 : Nat) (a1 : Nat) (a2 : Nat) (T : Mm) : Option (Mm) :=
  pX2_liveDay_135 R a0 a1 a2 T
def pX2_liveDay_51 (R : Rf) (a0 : Nat) (a1 : Nat) (a2 : Nat) (T : Mm) : Option (Mm) :=
  bd2 (pX2_next R T a0 4) (fun (u7 : Int32) (T7 : Mm) => if u7 = 0 then if (T7.1 a1 1) ≤ 0 then pX2_liveDay_109 R a0 a1 a2 T7 u7 else bd2 (pX2_next R T7 a0 (T7.1 a1 1)) (fun (u11 : Int32) (T11 : Mm) => bd1 (pX1_hasInside R T11 a2 u11) (fun (u12 : Int32) => if u12 = 0 then bd2 (pX1_putIn R T11 a2 a1 u11) (fun (u13 : Int32) (T13 : Mm) => pX2_liveDay_106 R a0 a1 a2 T13) else bd2 (pX1_takeOut R T11 a2 a1 u11) (fun (u14 : Int32) (T14 : Mm) => pX2_liveDay_106 R a0 a1 a2 T14))) else pX2_liveDay_109 R a0 a1 a2 T7 u7)
def pX2_liveDay (R : Rf) (T : Mm) (a0 : Nat) (a1 : Nat) (a2 : Nat) : Option (Mm) :=
  zl2 (pX2_liveDay_2 R a0 a1 a2 (pX2_liveDay_51 R a0 a1 a2)) FU T 0
set_option maxRecDepth 100000 in
set_option maxHeartbeats 4000000 in
theorem wX2_liveDay_2 {X : Cx} {g : Gl} {l : Launch} {R : Rf} {a0 : Nat} {a1 : Nat} {a2 : Nat} (K : Ok X g l cX2_liveDay RX2 5 none rmX2_liveDay) (hR : Ty g R) (k0 : kd g a0 = 2) (k1 : kd g a1 = 3) (k2 : kd g a2 = 1) {r : Mm} {e51 : Mm → Option (Mm)} (he51 : ∀ (T : Mm), e51 T = some r → Zj X g 5 (QV X g R r) R T [some (.ref (g.2.2.1 a0)), some (.ref (g.2.2.1 a1)), some (.ref (g.2.2.1 a2)), none, none] [] 51) : ∀ (n : Nat) (T : Mm) (x3 : Int32), zl2 (pX2_liveDay_2 R a0 a1 a2 e51) n T x3 = some r → Zj X g 5 (QV X g R r) R T [some (.ref (g.2.2.1 a0)), some (.ref (g.2.2.1 a1)), some (.ref (g.2.2.1 a2)), some (.int x3), none] [] 2 := by
  intro n
  induction n with
  | zero =>
    intro T x3 h
    exact absurd h (by simp [zl2])
  | succ n hr2 =>
    intro T x3 h
    rw [zl2_s] at h
    unfold pX2_liveDay_2 at h
    refine z_iload_n K dX2_liveDay_2 rfl ?_
    refine z_aload_n K dX2_liveDay_3 rfl ?_
    refine z_getI K clX3 k1 0 rfl rfl q247 dX2_liveDay_4 ?_
    refine z_icmp_ge K 51 dX2_liveDay_7 (by decide) (fun c => ?_) (fun c => ?_)
    · have h := ite_t h c
      refine Zj.mask [true, true, true, false, false] ?_
      exact he51 _ h
    · have h := ite_f h c
      refine z_aload_n K dX2_liveDay_10 rfl ?_
      refine z_bipush K 8 dX2_liveDay_11 rfl ?_
      obtain ⟨u1, T1, hc, h⟩ := bd2_e h
      refine z_callVI K (mX2_next l hR k0 hc) clX2 k0 ceX2_next q1059 ⟨rfl, rfl, rfl, rfl⟩ rfl rfl rfl dX2_liveDay_13 ?_
      refine z_istore K dX2_liveDay_16 rfl rfl ?_
      refine z_iload K dX2_liveDay_18 rfl ?_
      refine z_if_ne K 33 dX2_liveDay_20 (by decide) (fun c => ?_) (fun c => ?_)
      · have h := ite_f h c
        refine z_iload K dX2_liveDay_33 rfl ?_
        refine z_iconst K 1 dX2_liveDay_35 rfl ?_
        refine z_icmp_ne K 45 dX2_liveDay_36 (by decide) (fun c => ?_) (fun c => ?_)
        · have h := ite_f h c
          refine z_iinc K 1 dX2_liveDay_45 rfl rfl rfl rfl ?_
          refine z_goto K 2 dX2_liveDay_48 (by decide) ?_
          refine Zj.mask [true, true, true, true, false] ?_
          exact hr2 _ _ h
        · have h := ite_t h c
          refine z_aload_n K dX2_liveDay_39 rfl ?_
          refine z_iload_n K dX2_liveDay_40 rfl ?_
          obtain ⟨u3, T3, hc, h⟩ := bd2_e h
          refine z_callVI K (mX1_letOut l hR k2 hc) clX1 k2 ceX1_letOut q1065 ⟨rfl, rfl, rfl, rfl⟩ rfl rfl rfl dX2_liveDay_41 ?_
          refine z_pop K dX2_liveDay_44 rfl ?_
          refine z_iinc K 1 dX2_liveDay_45 rfl rfl rfl rfl ?_
          refine z_goto K 2 dX2_liveDay_48 (by decide) ?_
          refine Zj.mask [true, true, true, true, false] ?_
          exact hr2 _ _ h
      · have h := ite_t h c
        refine z_aload_n K dX2_liveDay_23 rfl ?_
        refine z_aload_n K dX2_liveDay_24 rfl ?_
        refine z_iload_n K dX2_liveDay_25 rfl ?_
        obtain ⟨u5, T5, hc, h⟩ := bd2_e h
        refine z_callVI K (mX1_letGo l hR k2 k1 hc) clX1 k2 ceX1_letGo q1064 ⟨rfl, rfl, rfl, rfl⟩ rfl rfl rfl dX2_liveDay_26 ?_
        refine z_pop K dX2_liveDay_29 rfl ?_
        refine z_goto K 45 dX2_liveDay_30 (by decide) ?_
        refine z_iinc K 1 dX2_liveDay_45 rfl rfl rfl rfl ?_
        refine z_goto K 2 dX2_liveDay_48 (by decide) ?_
        refine Zj.mask [true, true, true, true, false] ?_
        exact hr2 _ _ h
set_option maxRecDepth 100000 in
set_option maxHeartbeats 4000000 in
theorem wX2_liveDay_135 {X : Cx} {g : Gl} {l : Launch} {R : Rf} {a0 : Nat} {a1 : Nat} {a2 : Nat} (K : Ok X g l cX2_liveDay RX2 5 none rmX2_liveDay) (hR : Ty g R) (k0 : kd g a0 = 2) (k1 : kd g a1 = 3) (k2 : kd g a2 = 1) {r : Mm} (T : Mm) (h : pX2_liveDay_135 R a0 a1 a2 T = some r) : Zj X g 5 (QV X g R r) R T [none, some (.ref (g.2.2.1 a1)), some (.ref (g.2.2.1 a2)), none, none] [] 135 := by
  unfold pX2_liveDay_135 at h
  refine z_aload_n K dX2_liveDay_135 rfl ?_
  refine z_aload_n K dX2_liveDay_136 rfl ?_
  obtain ⟨T8, hc, h⟩ := bd1_e h
  refine z_callVV K (mX1_passDay l hR k2 k1 hc) clX1 k2 ceX1_passDay q1070 ⟨rfl, rfl, rfl, rfl⟩ rfl rfl rfl dX2_liveDay_137 ?_
  obtain rfl := Option.some.inj h
  exact z_vret K dX2_liveDay_140
set_option maxRecDepth 100000 in
set_option maxHeartbeats 4000000 in
theorem wX2_liveDay_109 {X : Cx} {g : Gl} {l : Launch} {R : Rf} {a0 : Nat} {a1 : Nat} {a2 : Nat} (K : Ok X g l cX2_liveDay RX2 5 none rmX2_liveDay) (hR : Ty g R) (k0 : kd g a0 = 2) (k1 : kd g a1 = 3) (k2 : kd g a2 = 1) {r : Mm} (T : Mm) (x3 : Int32) (h : pX2_liveDay_109 R a0 a1 a2 T x3 = some r) : Zj X g 5 (QV X g R r) R T [some (.ref (g.2.2.1 a0)), some (.ref (g.2.2.1 a1)), some (.ref (g.2.2.1 a2)), some (.int x3), none] [] 109 := by
  unfold pX2_liveDay_109 at h
  refine z_iload_n K dX2_liveDay_109 rfl ?_
  refine z_iconst K 1 dX2_liveDay_110 rfl ?_
  refine z_icmp_ne K 135 dX2_liveDay_111 (by decide) (fun c => ?_) (fun c => ?_)
  · have h := ite_f h c
    refine Zj.mask [false, true, true, false, false] ?_
    exact wX2_liveDay_135 K hR k0 k1 k2 _ h
  · have h := ite_t h c
    refine z_aload_n K dX2_liveDay_114 rfl ?_
    refine z_getI K clX3 k1 2 rfl rfl q257 dX2_liveDay_115 ?_
    refine z_if_le K 135 dX2_liveDay_118 (by decide) (fun c => ?_) (fun c => ?_)
    · have h := ite_t h c
      refine Zj.mask [false, true, true, false, false] ?_
      exact wX2_liveDay_135 K hR k0 k1 k2 _ h
    · have h := ite_f h c
      refine z_aload_n K dX2_liveDay_121 rfl ?_
      refine z_aload_n K dX2_liveDay_122 rfl ?_
      refine z_aload_n K dX2_liveDay_123 rfl ?_
      refine z_aload_n K dX2_liveDay_124 rfl ?_
      refine z_getI K clX3 k1 2 rfl rfl q257 dX2_liveDay_125 ?_
      obtain ⟨u9, T9, hc, h⟩ := bd2_e h
      refine z_callVI K (mX2_next l hR k0 hc) clX2 k0 ceX2_next q1059 ⟨rfl, rfl, rfl, rfl⟩ rfl rfl rfl dX2_liveDay_128 ?_
      obtain ⟨u10, T10, hc, h⟩ := bd2_e h
      refine z_callVI K (mX1_makeWhole l hR k2 k1 hc) clX1 k2 ceX1_makeWhole q1069 ⟨rfl, rfl, rfl, rfl⟩ rfl rfl rfl dX2_liveDay_131 ?_
      refine z_pop K dX2_liveDay_134 rfl ?_
      refine Zj.mask [false, true, true, false, false] ?_
      exact wX2_liveDay_135 K hR k0 k1 k2 _ h
set_option maxRecDepth 100000 in
set_option maxHeartbeats 4000000 in
theorem wX2_liveDay_106 {X : Cx} {g : Gl} {l : Launch} {R : Rf} {a0 : Nat} {a1 : Nat} {a2 : Nat} (K : Ok X g l cX2_liveDay RX2 5 none rmX2_liveDay) (hR : Ty g R) (k0 : kd g a0 = 2) (k1 : kd g a1 = 3) (k2 : kd g a2 = 1) {r : Mm} (T : Mm) (h : pX2_liveDay_106 R a0 a1 a2 T = some r) : Zj X g 5 (QV X g R r) R T [none, some (.ref (g.2.2.1 a1)), some (.ref (g.2.2.1 a2)), none, none] [] 106 := by
  unfold pX2_liveDay_106 at h
  refine z_goto K 135 dX2_liveDay_106 (by decide) ?_
  refine Zj.mask [false, true, true, false, false] ?_
  exact wX2_liveDay_135 K hR k0 k1 k2 _ h
set_option maxRecDepth 100000 in
set_option maxHeartbeats 4000000 in
theorem wX2_liveDay_51 {X : Cx} {g : Gl} {l : Launch} {R : Rf} {a0 : Nat} {a1 : Nat} {a2 : Nat} (K : Ok X g l cX2_liveDay RX2 5 none rmX2_liveDay) (hR : Ty g R) (k0 : kd g a0 = 2) (k1 : kd g a1 = 3) (k2 : kd g a2 = 1) {r : Mm} (T : Mm) (h : pX2_liveDay_51 R a0 a1 a2 T = some r) : Zj X g 5 (QV X g R r) R T [some (.ref (g.2.2.1 a0)), some (.ref (g.2.2.1 a1)), some (.ref (g.2.2.1 a2)), none, none] [] 51 := by
  unfold pX2_liveDay_51 at h
  refine z_aload_n K dX2_liveDay_51 rfl ?_
  refine z_iconst K 4 dX2_liveDay_52 rfl ?_
  obtain ⟨u7, T7, hc, h⟩ := bd2_e h
  refine z_callVI K (mX2_next l hR k0 hc) clX2 k0 ceX2_next q1059 ⟨rfl, rfl, rfl, rfl⟩ rfl rfl rfl dX2_liveDay_53 ?_
  refine z_istore_n K dX2_liveDay_56 rfl rfl ?_
  refine z_iload_n K dX2_liveDay_57 rfl ?_
  refine z_if_ne K 109 dX2_liveDay_58 (by decide) (fun c => ?_) (fun c => ?_)
  · have h := ite_f h c
    refine Zj.mask [true, true, true, true, false] ?_
    exact wX2_liveDay_109 K hR k0 k1 k2 _ _ h
  · have h := ite_t h c
    refine z_aload_n K dX2_liveDay_61 rfl ?_
    refine z_getI K clX3 k1 1 rfl rfl q252 dX2_liveDay_62 ?_
    refine z_if_le K 109 dX2_liveDay_65 (by decide) (fun c => ?_) (fun c => ?_)
    · have h := ite_t h c
      refine Zj.mask [true, true, true, true, false] ?_
      exact wX2_liveDay_109 K hR k0 k1 k2 _ _ h
    · have h := ite_f h c
      refine z_aload_n K dX2_liveDay_68 rfl ?_
      refine z_aload_n K dX2_liveDay_69 rfl ?_
      refine z_getI K clX3 k1 1 rfl rfl q252 dX2_liveDay_70 ?_
      obtain ⟨u11, T11, hc, h⟩ := bd2_e h
      refine z_callVI K (mX2_next l hR k0 hc) clX2 k0 ceX2_next q1059 ⟨rfl, rfl, rfl, rfl⟩ rfl rfl rfl dX2_liveDay_73 ?_
      refine z_istore K dX2_liveDay_76 rfl rfl ?_
      refine z_aload_n K dX2_liveDay_78 rfl ?_
      refine z_iload K dX2_liveDay_79 rfl ?_
      obtain ⟨u12, hc, h⟩ := bd1_e h
      refine z_callVI K (mX1_hasInside l hR k2 hc) clX1 k2 ceX1_hasInside q1066 ⟨rfl, rfl, rfl, rfl⟩ rfl rfl rfl dX2_liveDay_81 ?_
      refine z_if_eq K 98 dX2_liveDay_84 (by decide) (fun c => ?_) (fun c => ?_)
      · have h := ite_t h c
        refine z_aload_n K dX2_liveDay_98 rfl ?_
        refine z_aload_n K dX2_liveDay_99 rfl ?_
        refine z_iload K dX2_liveDay_100 rfl ?_
        obtain ⟨u13, T13, hc, h⟩ := bd2_e h
        refine z_callVI K (mX1_putIn l hR k2 k1 hc) clX1 k2 ceX1_putIn q1068 ⟨rfl, rfl, rfl, rfl⟩ rfl rfl rfl dX2_liveDay_102 ?_
        refine z_pop K dX2_liveDay_105 rfl ?_
        refine Zj.mask [false, true, true, false, false] ?_
        exact wX2_liveDay_106 K hR k0 k1 k2 _ h
      · have h := ite_f h c
        refine z_aload_n K dX2_liveDay_87 rfl ?_
        refine z_aload_n K dX2_liveDay_88 rfl ?_
        refine z_iload K dX2_liveDay_89 rfl ?_
        obtain ⟨u14, T14, hc, h⟩ := bd2_e h
        refine z_callVI K (mX1_takeOut l hR k2 k1 hc) clX1 k2 ceX1_takeOut q1067 ⟨rfl, rfl, rfl, rfl⟩ rfl rfl rfl dX2_liveDay_91 ?_
        refine z_pop K dX2_liveDay_94 rfl ?_
        refine z_goto K 106 dX2_liveDay_95 (by decide) ?_
        refine Zj.mask [false, true, true, false, false] ?_
        exact wX2_liveDay_106 K hR k0 k1 k2 _ h
set_option maxRecDepth 100000 in
set_option maxHeartbeats 4000000 in
theorem mX2_liveDay {g : Gl} {R : Rf} {T : Mm} {a0 : Nat} {a1 : Nat} {a2 : Nat} (l : Launch) (hR : Ty g R) (k0 : kd g a0 = 2) (k1 : kd g a1 = 3) (k2 : kd g a2 = 1) {r : Mm} (h : pX2_liveDay R T a0 a1 a2 = some r) : MV l g yX2_liveDay cX2_liveDay 5 none rmX2_liveDay [.ref (g.2.2.1 a0), .ref (g.2.2.1 a1), .ref (g.2.2.1 a2)] R T R r := by
  refine z_metV (own := RX2) (lv := [some (.ref (g.2.2.1 a0)), some (.ref (g.2.2.1 a1)), some (.ref (g.2.2.1 a2)), none, none]) (by decide +kernel) rfl rfl rfl (fun X K => ?_)
  unfold pX2_liveDay at h
  refine z_iconst K 0 dX2_liveDay_0 rfl ?_
  refine z_istore_n K dX2_liveDay_1 rfl rfl ?_
  refine Zj.mask [true, true, true, true, false] ?_
  exact wX2_liveDay_2 K hR k0 k1 k2 (wX2_liveDay_51 K hR k0 k1 k2) FU _ _ h
/-! GoingOver$Draws.live (LGoingOver$Falls;LGoingOver$Course;II)I -/
abbrev rmX2_live : Room := { frames := 4, cells := 0, slots := 0, locals := 94 }
def pX2_live_9 (R : Rf) (a0 : Nat) (a1 : Nat) (a2 : Nat) (x3 : Int32) (x4 : Int32) (e37 : Mm → Int32 → Option (Int32 × Mm)) (r9 : Mm → Int32 → Option (Int32 × Mm)) (T : Mm) (x5 : Int32) : Option (Int32 × Mm) :=
  if x3 ≤ x5 then e37 T x5 else if 400 ≤ (T.1 a2 0) then e37 T x5 else bd1 (pX2_liveDay R T a0 a1 a2) (fun (T2 : Mm) => lt (x5 + 1) (fun (v3 : Int32) => r9 T2 v3))
def pX2_live_37 (R : Rf) (a0 : Nat) (a1 : Nat) (a2 : Nat) (x3 : Int32) (x4 : Int32) (T : Mm) (x5 : Int32) : Option (Int32 × Mm) :=
  some (x5, T)
def pX2_live (R : Rf) (T : Mm) (a0 : Nat) (a1 : Nat) (a2 : Nat) (x3 : Int32) (x4 : Int32) : Option (Int32 × Mm) :=
  lt (wI T a0 0 x4) (fun (T1 : Mm) => zl2 (pX2_live_9 R a0 a1 a2 x3 x4 (pX2_live_37 R a0 a1 a2 x3 x4)) FU T1 0)
set_option maxRecDepth 100000 in
set_option maxHeartbeats 4000000 in
theorem wX2_live_9 {X : Cx} {g : Gl} {l : Launch} {R : Rf} {a0 : Nat} {a1 : Nat} {a2 : Nat} {x3 : Int32} {x4 : Int32} (K : Ok X g l cX2_live RX2 6 (some .int) rmX2_live) (hR : Ty g R) (k0 : kd g a0 = 2) (k1 : kd g a1 = 3) (k2 : kd g a2 = 1) {r : Int32 × Mm} {e37 : Mm → Int32 → Option (Int32 × Mm)} (he37 : ∀ (T : Mm) (x5 : Int32), e37 T x5 = some r → Zj X g 6 (QI X g r.1 R r.2) R T [none, none, none, none, none, some (.int x5)] [] 37) : ∀ (n : Nat) (T : Mm) (x5 : Int32), zl2 (pX2_live_9 R a0 a1 a2 x3 x4 e37) n T x5 = some r → Zj X g 6 (QI X g r.1 R r.2) R T [some (.ref (g.2.2.1 a0)), some (.ref (g.2.2.1 a1)), some (.ref (g.2.2.1 a2)), some (.int x3), none, some (.int x5)] [] 9 := by
  intro n
  induction n with
  | zero =>
    intro T x5 h
    exact absurd h (by simp [zl2])
  | succ n hr9 =>
    intro T x5 h
    rw [zl2_s] at h
    unfold pX2_live_9 at h
    refine z_iload K dX2_live_9 rfl ?_
    refine z_iload_n K dX2_live_11 rfl ?_
    refine z_icmp_ge K 37 dX2_live_12 (by decide) (fun c => ?_) (fun c => ?_)
    · have h := ite_t h c
      refine Zj.mask [false, false, false, false, false, true] ?_
      exact he37 _ _ h
    · have h := ite_f h c
      refine z_aload_n K dX2_live_15 rfl ?_
      refine z_getI K clX1 k2 0 rfl rfl q333 dX2_live_16 ?_
      refine z_sipush K 400 dX2_live_19 rfl ?_
      refine z_icmp_ge K 37 dX2_live_22 (by decide) (fun c => ?_) (fun c => ?_)
      · have h := ite_t h c
        refine Zj.mask [false, false, false, false, false, true] ?_
        exact he37 _ _ h
      · have h := ite_f h c
        refine z_aload_n K dX2_live_25 rfl ?_
        refine z_aload_n K dX2_live_26 rfl ?_
        refine z_aload_n K dX2_live_27 rfl ?_
        obtain ⟨T2, hc, h⟩ := bd1_e h
        refine z_callVV K (mX2_liveDay l hR k0 k1 k2 hc) clX2 k0 ceX2_liveDay q1055 ⟨rfl, rfl, rfl, rfl⟩ rfl rfl rfl dX2_live_28 ?_
        refine z_iinc K 1 dX2_live_31 rfl rfl rfl rfl ?_
        refine z_goto K 9 dX2_live_34 (by decide) ?_
        refine Zj.mask [true, true, true, true, false, true] ?_
        exact hr9 _ _ h
set_option maxRecDepth 100000 in
set_option maxHeartbeats 4000000 in
theorem wX2_live_37 {X : Cx} {g : Gl} {l : Launch} {R : Rf} {a0 : Nat} {a1 : Nat} {a2 : Nat} {x3 : Int32} {x4 : Int32} (K : Ok X g l cX2_live RX2 6 (some .int) rmX2_live) (hR : Ty g R) (k0 : kd g a0 = 2) (k1 : kd g a1 = 3) (k2 : kd g a2 = 1) {r : Int32 × Mm} (T : Mm) (x5 : Int32) (h : pX2_live_37 R a0 a1 a2 x3 x4 T x5 = some r) : Zj X g 6 (QI X g r.1 R r.2) R T [none, none, none, none, none, some (.int x5)] [] 37 := by
  unfold pX2_live_37 at h
  refine z_iload K dX2_live_37 rfl ?_
  obtain rfl := Option.some.inj h
  exact z_iret K dX2_live_39
set_option maxRecDepth 100000 in
set_option maxHeartbeats 4000000 in
theorem mX2_live {g : Gl} {R : Rf} {T : Mm} {a0 : Nat} {a1 : Nat} {a2 : Nat} {x3 : Int32} {x4 : Int32} (l : Launch) (hR : Ty g R) (k0 : kd g a0 = 2) (k1 : kd g a1 = 3) (k2 : kd g a2 = 1) {r : Int32 × Mm} (h : pX2_live R T a0 a1 a2 x3 x4 = some r) : MI l g yX2_live cX2_live 6 (some .int) rmX2_live [.ref (g.2.2.1 a0), .ref (g.2.2.1 a1), .ref (g.2.2.1 a2), .int x3, .int x4] R T r.1 R r.2 := by
  refine z_metI (own := RX2) (lv := [some (.ref (g.2.2.1 a0)), some (.ref (g.2.2.1 a1)), some (.ref (g.2.2.1 a2)), some (.int x3), some (.int x4), none]) (by decide +kernel) rfl rfl rfl (fun X K => ?_)
  unfold pX2_live at h
  refine z_aload_n K dX2_live_0 rfl ?_
  refine z_iload K dX2_live_1 rfl ?_
  refine z_putI K clX2 tyX2_ok nmX2 k0 0 rfl rfl q428 rfl rfl rfl dX2_live_3 ?_
  refine z_iconst K 0 dX2_live_6 rfl ?_
  refine z_istore K dX2_live_7 rfl rfl ?_
  refine Zj.mask [true, true, true, true, false, true] ?_
  exact wX2_live_9 K hR k0 k1 k2 (wX2_live_37 K hR k0 k1 k2) FU _ _ h
/-! GoingOver$Falls.clear ()V -/
abbrev rmX3_clear : Room := { frames := 0, cells := 0, slots := 0, locals := 0 }
def pX3_clear (R : Rf) (T : Mm) (a0 : Nat) : Option (Mm) :=
  lt (wI T a0 0 0) (fun (T1 : Mm) => lt (wI T1 a0 1 0) (fun (T2 : Mm) => lt (wI T2 a0 2 0) (fun (T3 : Mm) => lt (wI T3 a0 3 10) (fun (T4 : Mm) => lt (wI T4 a0 4 20) (fun (T5 : Mm) => lt (wI T5 a0 13 0) (fun (T6 : Mm) => lt (wI T6 a0 14 0) (fun (T7 : Mm) => lt (wI T7 a0 15 0) (fun (T8 : Mm) => some T8))))))))
set_option maxRecDepth 100000 in
set_option maxHeartbeats 4000000 in
theorem mX3_clear {g : Gl} {R : Rf} {T : Mm} {a0 : Nat} (l : Launch) (hR : Ty g R) (k0 : kd g a0 = 3) {r : Mm} (h : pX3_clear R T a0 = some r) : MV l g yX3_clear cX3_clear 1 none rmX3_clear [.ref (g.2.2.1 a0)] R T R r := by
  refine z_metV (own := RX3) (lv := [some (.ref (g.2.2.1 a0))]) (by decide +kernel) rfl rfl rfl (fun X K => ?_)
  unfold pX3_clear at h
  refine z_aload_n K dX3_clear_0 rfl ?_
  refine z_iconst K 0 dX3_clear_1 rfl ?_
  refine z_putI K clX3 tyX3_ok nmX3 k0 0 rfl rfl q245 rfl rfl rfl dX3_clear_2 ?_
  refine z_aload_n K dX3_clear_5 rfl ?_
  refine z_iconst K 0 dX3_clear_6 rfl ?_
  refine z_putI K clX3 tyX3_ok nmX3 k0 1 rfl rfl q250 rfl rfl rfl dX3_clear_7 ?_
  refine z_aload_n K dX3_clear_10 rfl ?_
  refine z_iconst K 0 dX3_clear_11 rfl ?_
  refine z_putI K clX3 tyX3_ok nmX3 k0 2 rfl rfl q255 rfl rfl rfl dX3_clear_12 ?_
  refine z_aload_n K dX3_clear_15 rfl ?_
  refine z_bipush K 10 dX3_clear_16 rfl ?_
  refine z_putI K clX3 tyX3_ok nmX3 k0 3 rfl rfl q260 rfl rfl rfl dX3_clear_18 ?_
  refine z_aload_n K dX3_clear_21 rfl ?_
  refine z_bipush K 20 dX3_clear_22 rfl ?_
  refine z_putI K clX3 tyX3_ok nmX3 k0 4 rfl rfl q264 rfl rfl rfl dX3_clear_24 ?_
  refine z_aload_n K dX3_clear_27 rfl ?_
  refine z_iconst K 0 dX3_clear_28 rfl ?_
  refine z_putI K clX3 tyX3_ok nmX3 k0 13 rfl rfl q290 rfl rfl rfl dX3_clear_29 ?_
  refine z_aload_n K dX3_clear_32 rfl ?_
  refine z_iconst K 0 dX3_clear_33 rfl ?_
  refine z_putI K clX3 tyX3_ok nmX3 k0 14 rfl rfl q291 rfl rfl rfl dX3_clear_34 ?_
  refine z_aload_n K dX3_clear_37 rfl ?_
  refine z_iconst K 0 dX3_clear_38 rfl ?_
  refine z_putI K clX3 tyX3_ok nmX3 k0 15 rfl rfl q292 rfl rfl rfl dX3_clear_39 ?_
  obtain rfl := Option.some.inj h
  exact z_vret K dX3_clear_42
/-! GoingOver$Falls.copy (LGoingOver$Falls;)V -/
abbrev rmX3_copy : Room := { frames := 1, cells := 0, slots := 0, locals := 60 }
def pX3_copy (R : Rf) (T : Mm) (a0 : Nat) (a1 : Nat) : Option (Mm) :=
  lt (wI T a0 0 (T.1 a1 0)) (fun (T1 : Mm) => lt (wI T1 a0 1 (T1.1 a1 1)) (fun (T2 : Mm) => lt (wI T2 a0 2 (T2.1 a1 2)) (fun (T3 : Mm) => lt (wI T3 a0 3 (T3.1 a1 3)) (fun (T4 : Mm) => lt (wI T4 a0 4 (T4.1 a1 4)) (fun (T5 : Mm) => bz (T5.1 a1 13) (lt (wI T5 a0 13 (T5.1 a1 13)) (fun (T6 : Mm) => lt (wI T6 a0 14 (T6.1 a1 14)) (fun (T7 : Mm) => lt (wI T7 a0 15 (T7.1 a1 15)) (fun (T8 : Mm) => lt (cpI T8 (R a1 5) (R a0 5) 5) (fun (T9 : Mm) => lt (cpJ T9 (R a1 6) (R a0 6) 5) (fun (T10 : Mm) => lt (cpJ T10 (R a1 7) (R a0 7) 10) (fun (T11 : Mm) => lt (cpI T11 (R a1 8) (R a0 8) 10) (fun (T12 : Mm) => lt (cpI T12 (R a1 9) (R a0 9) 10) (fun (T13 : Mm) => lt (cpI T13 (R a1 10) (R a0 10) 16) (fun (T14 : Mm) => lt (cpI T14 (R a1 11) (R a0 11) 16) (fun (T15 : Mm) => lt (cpI T15 (R a1 12) (R a0 12) 16) (fun (T16 : Mm) => some T16)))))))))))))))))
set_option maxRecDepth 100000 in
set_option maxHeartbeats 4000000 in
theorem mX3_copy {g : Gl} {R : Rf} {T : Mm} {a0 : Nat} {a1 : Nat} (l : Launch) (hR : Ty g R) (k0 : kd g a0 = 3) (k1 : kd g a1 = 3) {r : Mm} (h : pX3_copy R T a0 a1 = some r) : MV l g yX3_copy cX3_copy 2 none rmX3_copy [.ref (g.2.2.1 a0), .ref (g.2.2.1 a1)] R T R r := by
  refine z_metV (own := RX3) (lv := [some (.ref (g.2.2.1 a0)), some (.ref (g.2.2.1 a1))]) (by decide +kernel) rfl rfl rfl (fun X K => ?_)
  unfold pX3_copy at h
  refine z_aload_n K dX3_copy_0 rfl ?_
  refine z_aload_n K dX3_copy_1 rfl ?_
  refine z_getI K clX3 k1 0 rfl rfl q245 dX3_copy_2 ?_
  refine z_putI K clX3 tyX3_ok nmX3 k0 0 rfl rfl q245 rfl rfl rfl dX3_copy_5 ?_
  refine z_aload_n K dX3_copy_8 rfl ?_
  refine z_aload_n K dX3_copy_9 rfl ?_
  refine z_getI K clX3 k1 1 rfl rfl q250 dX3_copy_10 ?_
  refine z_putI K clX3 tyX3_ok nmX3 k0 1 rfl rfl q250 rfl rfl rfl dX3_copy_13 ?_
  refine z_aload_n K dX3_copy_16 rfl ?_
  refine z_aload_n K dX3_copy_17 rfl ?_
  refine z_getI K clX3 k1 2 rfl rfl q255 dX3_copy_18 ?_
  refine z_putI K clX3 tyX3_ok nmX3 k0 2 rfl rfl q255 rfl rfl rfl dX3_copy_21 ?_
  refine z_aload_n K dX3_copy_24 rfl ?_
  refine z_aload_n K dX3_copy_25 rfl ?_
  refine z_getI K clX3 k1 3 rfl rfl q260 dX3_copy_26 ?_
  refine z_putI K clX3 tyX3_ok nmX3 k0 3 rfl rfl q260 rfl rfl rfl dX3_copy_29 ?_
  refine z_aload_n K dX3_copy_32 rfl ?_
  refine z_aload_n K dX3_copy_33 rfl ?_
  refine z_getI K clX3 k1 4 rfl rfl q264 dX3_copy_34 ?_
  refine z_putI K clX3 tyX3_ok nmX3 k0 4 rfl rfl q264 rfl rfl rfl dX3_copy_37 ?_
  refine z_aload_n K dX3_copy_40 rfl ?_
  refine z_aload_n K dX3_copy_41 rfl ?_
  refine z_getI K clX3 k1 13 rfl rfl q290 dX3_copy_42 ?_
  obtain ⟨hz, hf, h⟩ := bz_e h
  refine z_putI K clX3 tyX3_ok nmX3 k0 13 rfl rfl q290 rfl hz hf dX3_copy_45 ?_
  refine z_aload_n K dX3_copy_48 rfl ?_
  refine z_aload_n K dX3_copy_49 rfl ?_
  refine z_getI K clX3 k1 14 rfl rfl q291 dX3_copy_50 ?_
  refine z_putI K clX3 tyX3_ok nmX3 k0 14 rfl rfl q291 rfl rfl rfl dX3_copy_53 ?_
  refine z_aload_n K dX3_copy_56 rfl ?_
  refine z_aload_n K dX3_copy_57 rfl ?_
  refine z_getI K clX3 k1 15 rfl rfl q292 dX3_copy_58 ?_
  refine z_putI K clX3 tyX3_ok nmX3 k0 15 rfl rfl q292 rfl rfl rfl dX3_copy_61 ?_
  refine z_aload_n K dX3_copy_64 rfl ?_
  refine z_getR K clX3 k1 5 rfl rfl q266 dX3_copy_65 ?_
  refine z_iconst K 0 dX3_copy_68 rfl ?_
  refine z_aload_n K dX3_copy_69 rfl ?_
  refine z_getR K clX3 k0 5 rfl rfl q266 dX3_copy_70 ?_
  refine z_iconst K 0 dX3_copy_73 rfl ?_
  refine z_iconst K 5 dX3_copy_74 rfl ?_
  refine z_cpI K q1188 q800 q799 q127 (hR.at (k := 5) (t := 20005) k1 rfl rfl) (hR.at (k := 5) (t := 20005) k0 rfl rfl) rfl rfl rfl rfl (by decide) (Nat.le_of_ble_eq_true rfl) (Nat.le_of_ble_eq_true rfl) dX3_copy_75 ?_
  refine z_aload_n K dX3_copy_78 rfl ?_
  refine z_getR K clX3 k1 6 rfl rfl q270 dX3_copy_79 ?_
  refine z_iconst K 0 dX3_copy_82 rfl ?_
  refine z_aload_n K dX3_copy_83 rfl ?_
  refine z_getR K clX3 k0 6 rfl rfl q270 dX3_copy_84 ?_
  refine z_iconst K 0 dX3_copy_87 rfl ?_
  refine z_iconst K 5 dX3_copy_88 rfl ?_
  refine z_cpJ K q1188 q800 q799 q127 (hR.at (k := 6) (t := 30005) k1 rfl rfl) (hR.at (k := 6) (t := 30005) k0 rfl rfl) rfl rfl rfl rfl (by decide) (Nat.le_of_ble_eq_true rfl) (Nat.le_of_ble_eq_true rfl) dX3_copy_89 ?_
  refine z_aload_n K dX3_copy_92 rfl ?_
  refine z_getR K clX3 k1 7 rfl rfl q272 dX3_copy_93 ?_
  refine z_iconst K 0 dX3_copy_96 rfl ?_
  refine z_aload_n K dX3_copy_97 rfl ?_
  refine z_getR K clX3 k0 7 rfl rfl q272 dX3_copy_98 ?_
  refine z_iconst K 0 dX3_copy_101 rfl ?_
  refine z_bipush K 10 dX3_copy_102 rfl ?_
  refine z_cpJ K q1188 q800 q799 q127 (hR.at (k := 7) (t := 30010) k1 rfl rfl) (hR.at (k := 7) (t := 30010) k0 rfl rfl) rfl rfl rfl rfl (by decide) (Nat.le_of_ble_eq_true rfl) (Nat.le_of_ble_eq_true rfl) dX3_copy_104 ?_
  refine z_aload_n K dX3_copy_107 rfl ?_
  refine z_getR K clX3 k1 8 rfl rfl q273 dX3_copy_108 ?_
  refine z_iconst K 0 dX3_copy_111 rfl ?_
  refine z_aload_n K dX3_copy_112 rfl ?_
  refine z_getR K clX3 k0 8 rfl rfl q273 dX3_copy_113 ?_
  refine z_iconst K 0 dX3_copy_116 rfl ?_
  refine z_bipush K 10 dX3_copy_117 rfl ?_
  refine z_cpI K q1188 q800 q799 q127 (hR.at (k := 8) (t := 20010) k1 rfl rfl) (hR.at (k := 8) (t := 20010) k0 rfl rfl) rfl rfl rfl rfl (by decide) (Nat.le_of_ble_eq_true rfl) (Nat.le_of_ble_eq_true rfl) dX3_copy_119 ?_
  refine z_aload_n K dX3_copy_122 rfl ?_
  refine z_getR K clX3 k1 9 rfl rfl q276 dX3_copy_123 ?_
  refine z_iconst K 0 dX3_copy_126 rfl ?_
  refine z_aload_n K dX3_copy_127 rfl ?_
  refine z_getR K clX3 k0 9 rfl rfl q276 dX3_copy_128 ?_
  refine z_iconst K 0 dX3_copy_131 rfl ?_
  refine z_bipush K 10 dX3_copy_132 rfl ?_
  refine z_cpI K q1188 q800 q799 q127 (hR.at (k := 9) (t := 20010) k1 rfl rfl) (hR.at (k := 9) (t := 20010) k0 rfl rfl) rfl rfl rfl rfl (by decide) (Nat.le_of_ble_eq_true rfl) (Nat.le_of_ble_eq_true rfl) dX3_copy_134 ?_
  refine z_aload_n K dX3_copy_137 rfl ?_
  refine z_getR K clX3 k1 10 rfl rfl q279 dX3_copy_138 ?_
  refine z_iconst K 0 dX3_copy_141 rfl ?_
  refine z_aload_n K dX3_copy_142 rfl ?_
  refine z_getR K clX3 k0 10 rfl rfl q279 dX3_copy_143 ?_
  refine z_iconst K 0 dX3_copy_146 rfl ?_
  refine z_bipush K 16 dX3_copy_147 rfl ?_
  refine z_cpI K q1188 q800 q799 q127 (hR.at (k := 10) (t := 20016) k1 rfl rfl) (hR.at (k := 10) (t := 20016) k0 rfl rfl) rfl rfl rfl rfl (by decide) (Nat.le_of_ble_eq_true rfl) (Nat.le_of_ble_eq_true rfl) dX3_copy_149 ?_
  refine z_aload_n K dX3_copy_152 rfl ?_
  refine z_getR K clX3 k1 11 rfl rfl q283 dX3_copy_153 ?_
  refine z_iconst K 0 dX3_copy_156 rfl ?_
  refine z_aload_n K dX3_copy_157 rfl ?_
  refine z_getR K clX3 k0 11 rfl rfl q283 dX3_copy_158 ?_
  refine z_iconst K 0 dX3_copy_161 rfl ?_
  refine z_bipush K 16 dX3_copy_162 rfl ?_
  refine z_cpI K q1188 q800 q799 q127 (hR.at (k := 11) (t := 20016) k1 rfl rfl) (hR.at (k := 11) (t := 20016) k0 rfl rfl) rfl rfl rfl rfl (by decide) (Nat.le_of_ble_eq_true rfl) (Nat.le_of_ble_eq_true rfl) dX3_copy_164 ?_
  refine z_aload_n K dX3_copy_167 rfl ?_
  refine z_getR K clX3 k1 12 rfl rfl q287 dX3_copy_168 ?_
  refine z_iconst K 0 dX3_copy_171 rfl ?_
  refine z_aload_n K dX3_copy_172 rfl ?_
  refine z_getR K clX3 k0 12 rfl rfl q287 dX3_copy_173 ?_
  refine z_iconst K 0 dX3_copy_176 rfl ?_
  refine z_bipush K 16 dX3_copy_177 rfl ?_
  refine z_cpI K q1188 q800 q799 q127 (hR.at (k := 12) (t := 20016) k1 rfl rfl) (hR.at (k := 12) (t := 20016) k0 rfl rfl) rfl rfl rfl rfl (by decide) (Nat.le_of_ble_eq_true rfl) (Nat.le_of_ble_eq_true rfl) dX3_copy_179 ?_
  obtain rfl := Option.some.inj h
  exact z_vret K dX3_copy_182
/-! GoingOver$Falls.hasPerson (I)Z -/
abbrev rmX3_hasPerson : Room := { frames := 0, cells := 0, slots := 0, locals := 0 }
def pX3_hasPerson (R : Rf) (T : Mm) (a0 : Nat) (x1 : Int32) : Option (Int32) :=
  if x1 < 0 then some 0 else if (T.1 a0 0) ≤ x1 then some 0 else some 1
set_option maxRecDepth 100000 in
set_option maxHeartbeats 4000000 in
theorem mX3_hasPerson {g : Gl} {R : Rf} {T : Mm} {a0 : Nat} {x1 : Int32} (l : Launch) (hR : Ty g R) (k0 : kd g a0 = 3) {r : Int32} (h : pX3_hasPerson R T a0 x1 = some r) : MI l g yX3_hasPerson cX3_hasPerson 2 (some .boolean) rmX3_hasPerson [.ref (g.2.2.1 a0), .int x1] R T r R T := by
  refine z_metI (own := RX3) (lv := [some (.ref (g.2.2.1 a0)), some (.int x1)]) (by decide +kernel) rfl rfl rfl (fun X K => ?_)
  unfold pX3_hasPerson at h
  refine z_iload_n K dX3_hasPerson_0 rfl ?_
  refine z_if_lt K 16 dX3_hasPerson_1 (by decide) (fun c => ?_) (fun c => ?_)
  · have h := ite_t h c
    refine z_iconst K 0 dX3_hasPerson_16 rfl ?_
    obtain rfl := Option.some.inj h
    exact z_zret (v := 0) K rfl dX3_hasPerson_17
  · have h := ite_f h c
    refine z_iload_n K dX3_hasPerson_4 rfl ?_
    refine z_aload_n K dX3_hasPerson_5 rfl ?_
    refine z_getI K clX3 k0 0 rfl rfl q245 dX3_hasPerson_6 ?_
    refine z_icmp_ge K 16 dX3_hasPerson_9 (by decide) (fun c => ?_) (fun c => ?_)
    · have h := ite_t h c
      refine z_iconst K 0 dX3_hasPerson_16 rfl ?_
      obtain rfl := Option.some.inj h
      exact z_zret (v := 0) K rfl dX3_hasPerson_17
    · have h := ite_f h c
      refine z_iconst K 1 dX3_hasPerson_12 rfl ?_
      refine z_goto K 17 dX3_hasPerson_13 (by decide) ?_
      obtain rfl := Option.some.inj h
      exact z_zret (v := 1) K rfl dX3_hasPerson_17
/-! GoingOver$Falls.hasItem (I)Z -/
abbrev rmX3_hasItem : Room := { frames := 0, cells := 0, slots := 0, locals := 0 }
def pX3_hasItem (R : Rf) (T : Mm) (a0 : Nat) (x1 : Int32) : Option (Int32) :=
  if x1 < 0 then some 0 else if (T.1 a0 1) ≤ x1 then some 0 else some 1
set_option maxRecDepth 100000 in
set_option maxHeartbeats 4000000 in
theorem mX3_hasItem {g : Gl} {R : Rf} {T : Mm} {a0 : Nat} {x1 : Int32} (l : Launch) (hR : Ty g R) (k0 : kd g a0 = 3) {r : Int32} (h : pX3_hasItem R T a0 x1 = some r) : MI l g yX3_hasItem cX3_hasItem 2 (some .boolean) rmX3_hasItem [.ref (g.2.2.1 a0), .int x1] R T r R T := by
  refine z_metI (own := RX3) (lv := [some (.ref (g.2.2.1 a0)), some (.int x1)]) (by decide +kernel) rfl rfl rfl (fun X K => ?_)
  unfold pX3_hasItem at h
  refine z_iload_n K dX3_hasItem_0 rfl ?_
  refine z_if_lt K 16 dX3_hasItem_1 (by decide) (fun c => ?_) (fun c => ?_)
  · have h := ite_t h c
    refine z_iconst K 0 dX3_hasItem_16 rfl ?_
    obtain rfl := Option.some.inj h
    exact z_zret (v := 0) K rfl dX3_hasItem_17
  · have h := ite_f h c
    refine z_iload_n K dX3_hasItem_4 rfl ?_
    refine z_aload_n K dX3_hasItem_5 rfl ?_
    refine z_getI K clX3 k0 1 rfl rfl q250 dX3_hasItem_6 ?_
    refine z_icmp_ge K 16 dX3_hasItem_9 (by decide) (fun c => ?_) (fun c => ?_)
    · have h := ite_t h c
      refine z_iconst K 0 dX3_hasItem_16 rfl ?_
      obtain rfl := Option.some.inj h
      exact z_zret (v := 0) K rfl dX3_hasItem_17
    · have h := ite_f h c
      refine z_iconst K 1 dX3_hasItem_12 rfl ?_
      refine z_goto K 17 dX3_hasItem_13 (by decide) ?_
      obtain rfl := Option.some.inj h
      exact z_zret (v := 1) K rfl dX3_hasItem_17
/-! GoingOver$Falls.itemsOf (I)I -/
abbrev rmX3_itemsOf : Room := { frames := 0, cells := 0, slots := 0, locals := 0 }
def pX3_itemsOf_4 (R : Rf) (T : Mm) (a0 : Nat) (x1 : Int32) (e34 : Int32 → Option (Int32)) (r4 : Int32 → Int32 → Option (Int32)) (x2 : Int32) (x3 : Int32) : Option (Int32) :=
  if (T.1 a0 1) ≤ x3 then e34 x2 else ix x3 10 (if (T.1 (R a0 8) x3.toNatClampNeg) = x1 then lt (x2 ||| (1 <<< (x3 &&& 31))) (fun (v2 : Int32) => lt (x3 + 1) (fun (v3 : Int32) => r4 v2 v3)) else lt (x3 + 1) (fun (v1 : Int32) => r4 x2 v1))
def pX3_itemsOf_34 (R : Rf) (T : Mm) (a0 : Nat) (x1 : Int32) (x2 : Int32) : Option (Int32) :=
  some x2
def pX3_itemsOf (R : Rf) (T : Mm) (a0 : Nat) (x1 : Int32) : Option (Int32) :=
  zl2 (pX3_itemsOf_4 R T a0 x1 (pX3_itemsOf_34 R T a0 x1)) FU 0 0
set_option maxRecDepth 100000 in
set_option maxHeartbeats 4000000 in
theorem wX3_itemsOf_4 {X : Cx} {g : Gl} {l : Launch} {R : Rf} {T : Mm} {a0 : Nat} {x1 : Int32} (K : Ok X g l cX3_itemsOf RX3 4 (some .int) rmX3_itemsOf) (hR : Ty g R) (k0 : kd g a0 = 3) {r : Int32} {e34 : Int32 → Option (Int32)} (he34 : ∀ (x2 : Int32), e34 x2 = some r → Zj X g 4 (QI X g r R T) R T [none, none, some (.int x2), none] [] 34) : ∀ (n : Nat) (x2 : Int32) (x3 : Int32), zl2 (pX3_itemsOf_4 R T a0 x1 e34) n x2 x3 = some r → Zj X g 4 (QI X g r R T) R T [some (.ref (g.2.2.1 a0)), some (.int x1), some (.int x2), some (.int x3)] [] 4 := by
  intro n
  induction n with
  | zero =>
    intro x2 x3 h
    exact absurd h (by simp [zl2])
  | succ n hr4 =>
    intro x2 x3 h
    rw [zl2_s] at h
    unfold pX3_itemsOf_4 at h
    refine z_iload_n K dX3_itemsOf_4 rfl ?_
    refine z_aload_n K dX3_itemsOf_5 rfl ?_
    refine z_getI K clX3 k0 1 rfl rfl q250 dX3_itemsOf_6 ?_
    refine z_icmp_ge K 34 dX3_itemsOf_9 (by decide) (fun c => ?_) (fun c => ?_)
    · have h := ite_t h c
      refine Zj.mask [false, false, true, false] ?_
      exact he34 _ h
    · have h := ite_f h c
      refine z_aload_n K dX3_itemsOf_12 rfl ?_
      refine z_getR K clX3 k0 8 rfl rfl q273 dX3_itemsOf_13 ?_
      refine z_iload_n K dX3_itemsOf_16 rfl ?_
      obtain ⟨hi, h⟩ := ix_e h
      refine z_iald K (hR.at (k := 8) (t := 20010) k0 rfl rfl) rfl rfl rfl hi dX3_itemsOf_17 ?_
      refine z_iload_n K dX3_itemsOf_18 rfl ?_
      refine z_icmp_ne K 28 dX3_itemsOf_19 (by decide) (fun c => ?_) (fun c => ?_)
      · have h := ite_f h c
        refine z_iinc K 1 dX3_itemsOf_28 rfl rfl rfl rfl ?_
        refine z_goto K 4 dX3_itemsOf_31 (by decide) ?_
        refine Zj.mask [true, true, true, true] ?_
        exact hr4 _ _ h
      · have h := ite_t h c
        refine z_iload_n K dX3_itemsOf_22 rfl ?_
        refine z_iconst K 1 dX3_itemsOf_23 rfl ?_
        refine z_iload_n K dX3_itemsOf_24 rfl ?_
        refine z_ishl K dX3_itemsOf_25 ?_
        refine z_ior K dX3_itemsOf_26 ?_
        refine z_istore_n K dX3_itemsOf_27 rfl rfl ?_
        refine z_iinc K 1 dX3_itemsOf_28 rfl rfl rfl rfl ?_
        refine z_goto K 4 dX3_itemsOf_31 (by decide) ?_
        refine Zj.mask [true, true, true, true] ?_
        exact hr4 _ _ h
set_option maxRecDepth 100000 in
set_option maxHeartbeats 4000000 in
theorem wX3_itemsOf_34 {X : Cx} {g : Gl} {l : Launch} {R : Rf} {T : Mm} {a0 : Nat} {x1 : Int32} (K : Ok X g l cX3_itemsOf RX3 4 (some .int) rmX3_itemsOf) (hR : Ty g R) (k0 : kd g a0 = 3) {r : Int32} (x2 : Int32) (h : pX3_itemsOf_34 R T a0 x1 x2 = some r) : Zj X g 4 (QI X g r R T) R T [none, none, some (.int x2), none] [] 34 := by
  unfold pX3_itemsOf_34 at h
  refine z_iload_n K dX3_itemsOf_34 rfl ?_
  obtain rfl := Option.some.inj h
  exact z_iret K dX3_itemsOf_35
set_option maxRecDepth 100000 in
set_option maxHeartbeats 4000000 in
theorem mX3_itemsOf {g : Gl} {R : Rf} {T : Mm} {a0 : Nat} {x1 : Int32} (l : Launch) (hR : Ty g R) (k0 : kd g a0 = 3) {r : Int32} (h : pX3_itemsOf R T a0 x1 = some r) : MI l g yX3_itemsOf cX3_itemsOf 4 (some .int) rmX3_itemsOf [.ref (g.2.2.1 a0), .int x1] R T r R T := by
  refine z_metI (own := RX3) (lv := [some (.ref (g.2.2.1 a0)), some (.int x1), none, none]) (by decide +kernel) rfl rfl rfl (fun X K => ?_)
  unfold pX3_itemsOf at h
  refine z_iconst K 0 dX3_itemsOf_0 rfl ?_
  refine z_istore_n K dX3_itemsOf_1 rfl rfl ?_
  refine z_iconst K 0 dX3_itemsOf_2 rfl ?_
  refine z_istore_n K dX3_itemsOf_3 rfl rfl ?_
  refine Zj.mask [true, true, true, true] ?_
  exact wX3_itemsOf_4 K hR k0 (wX3_itemsOf_34 K hR k0) FU _ _ h
/-! GoingOver$Falls.weightOf (I)I -/
abbrev rmX3_weightOf : Room := { frames := 0, cells := 0, slots := 0, locals := 0 }
def pX3_weightOf_4 (R : Rf) (T : Mm) (a0 : Nat) (x1 : Int32) (e35 : Int32 → Option (Int32)) (r4 : Int32 → Int32 → Option (Int32)) (x2 : Int32) (x3 : Int32) : Option (Int32) :=
  if (T.1 a0 1) ≤ x3 then e35 x2 else if ((x1 >>> (x3 &&& 31)) &&& 1) = 0 then lt (x3 + 1) (fun (v1 : Int32) => r4 x2 v1) else ix x3 10 (lt (x2 + (T.1 (R a0 9) x3.toNatClampNeg)) (fun (v2 : Int32) => lt (x3 + 1) (fun (v3 : Int32) => r4 v2 v3)))
def pX3_weightOf_35 (R : Rf) (T : Mm) (a0 : Nat) (x1 : Int32) (x2 : Int32) : Option (Int32) :=
  some x2
def pX3_weightOf (R : Rf) (T : Mm) (a0 : Nat) (x1 : Int32) : Option (Int32) :=
  zl2 (pX3_weightOf_4 R T a0 x1 (pX3_weightOf_35 R T a0 x1)) FU 0 0
set_option maxRecDepth 100000 in
set_option maxHeartbeats 4000000 in
theorem wX3_weightOf_4 {X : Cx} {g : Gl} {l : Launch} {R : Rf} {T : Mm} {a0 : Nat} {x1 : Int32} (K : Ok X g l cX3_weightOf RX3 4 (some .int) rmX3_weightOf) (hR : Ty g R) (k0 : kd g a0 = 3) {r : Int32} {e35 : Int32 → Option (Int32)} (he35 : ∀ (x2 : Int32), e35 x2 = some r → Zj X g 4 (QI X g r R T) R T [none, none, some (.int x2), none] [] 35) : ∀ (n : Nat) (x2 : Int32) (x3 : Int32), zl2 (pX3_weightOf_4 R T a0 x1 e35) n x2 x3 = some r → Zj X g 4 (QI X g r R T) R T [some (.ref (g.2.2.1 a0)), some (.int x1), some (.int x2), some (.int x3)] [] 4 := by
  intro n
  induction n with
  | zero =>
    intro x2 x3 h
    exact absurd h (by simp [zl2])
  | succ n hr4 =>
    intro x2 x3 h
    rw [zl2_s] at h
    unfold pX3_weightOf_4 at h
    refine z_iload_n K dX3_weightOf_4 rfl ?_
    refine z_aload_n K dX3_weightOf_5 rfl ?_
    refine z_getI K clX3 k0 1 rfl rfl q250 dX3_weightOf_6 ?_
    refine z_icmp_ge K 35 dX3_weightOf_9 (by decide) (fun c => ?_) (fun c => ?_)
    · have h := ite_t h c
      refine Zj.mask [false, false, true, false] ?_
      exact he35 _ h
    · have h := ite_f h c
      refine z_iload_n K dX3_weightOf_12 rfl ?_
      refine z_iload_n K dX3_weightOf_13 rfl ?_
      refine z_ishr K dX3_weightOf_14 ?_
      refine z_iconst K 1 dX3_weightOf_15 rfl ?_
      refine z_iand K dX3_weightOf_16 ?_
      refine z_if_eq K 29 dX3_weightOf_17 (by decide) (fun c => ?_) (fun c => ?_)
      · have h := ite_t h c
        refine z_iinc K 1 dX3_weightOf_29 rfl rfl rfl rfl ?_
        refine z_goto K 4 dX3_weightOf_32 (by decide) ?_
        refine Zj.mask [true, true, true, true] ?_
        exact hr4 _ _ h
      · have h := ite_f h c
        refine z_iload_n K dX3_weightOf_20 rfl ?_
        refine z_aload_n K dX3_weightOf_21 rfl ?_
        refine z_getR K clX3 k0 9 rfl rfl q276 dX3_weightOf_22 ?_
        refine z_iload_n K dX3_weightOf_25 rfl ?_
        obtain ⟨hi, h⟩ := ix_e h
        refine z_iald K (hR.at (k := 9) (t := 20010) k0 rfl rfl) rfl rfl rfl hi dX3_weightOf_26 ?_
        refine z_iadd K dX3_weightOf_27 ?_
        refine z_istore_n K dX3_weightOf_28 rfl rfl ?_
        refine z_iinc K 1 dX3_weightOf_29 rfl rfl rfl rfl ?_
        refine z_goto K 4 dX3_weightOf_32 (by decide) ?_
        refine Zj.mask [true, true, true, true] ?_
        exact hr4 _ _ h
set_option maxRecDepth 100000 in
set_option maxHeartbeats 4000000 in
theorem wX3_weightOf_35 {X : Cx} {g : Gl} {l : Launch} {R : Rf} {T : Mm} {a0 : Nat} {x1 : Int32} (K : Ok X g l cX3_weightOf RX3 4 (some .int) rmX3_weightOf) (hR : Ty g R) (k0 : kd g a0 = 3) {r : Int32} (x2 : Int32) (h : pX3_weightOf_35 R T a0 x1 x2 = some r) : Zj X g 4 (QI X g r R T) R T [none, none, some (.int x2), none] [] 35 := by
  unfold pX3_weightOf_35 at h
  refine z_iload_n K dX3_weightOf_35 rfl ?_
  obtain rfl := Option.some.inj h
  exact z_iret K dX3_weightOf_36
set_option maxRecDepth 100000 in
set_option maxHeartbeats 4000000 in
theorem mX3_weightOf {g : Gl} {R : Rf} {T : Mm} {a0 : Nat} {x1 : Int32} (l : Launch) (hR : Ty g R) (k0 : kd g a0 = 3) {r : Int32} (h : pX3_weightOf R T a0 x1 = some r) : MI l g yX3_weightOf cX3_weightOf 4 (some .int) rmX3_weightOf [.ref (g.2.2.1 a0), .int x1] R T r R T := by
  refine z_metI (own := RX3) (lv := [some (.ref (g.2.2.1 a0)), some (.int x1), none, none]) (by decide +kernel) rfl rfl rfl (fun X K => ?_)
  unfold pX3_weightOf at h
  refine z_iconst K 0 dX3_weightOf_0 rfl ?_
  refine z_istore_n K dX3_weightOf_1 rfl rfl ?_
  refine z_iconst K 0 dX3_weightOf_2 rfl ?_
  refine z_istore_n K dX3_weightOf_3 rfl rfl ?_
  refine Zj.mask [true, true, true, true] ?_
  exact wX3_weightOf_4 K hR k0 (wX3_weightOf_35 K hR k0) FU _ _ h
/-! java/lang/Integer.bitCount (I)I -/
abbrev rmJ6_bitCount_0f7a4 : Room := { frames := 0, cells := 0, slots := 0, locals := 0 }
def pJ6_bitCount_0f7a4 (R : Rf) (T : Mm) (x0 : Int32) : Option (Int32) :=
  lt (x0 - ((us x0 1) &&& 1431655765)) (fun (v1 : Int32) => lt ((v1 &&& 858993459) + ((us v1 2) &&& 858993459)) (fun (v2 : Int32) => lt ((v2 + (us v2 4)) &&& 252645135) (fun (v3 : Int32) => lt (v3 + (us v3 8)) (fun (v4 : Int32) => lt (v4 + (us v4 16)) (fun (v5 : Int32) => some (v5 &&& 63))))))
set_option maxRecDepth 100000 in
set_option maxHeartbeats 4000000 in
theorem mJ6_bitCount_0f7a4 {g : Gl} {R : Rf} {T : Mm} {x0 : Int32} (l : Launch) (hR : Ty g R) {r : Int32} (h : pJ6_bitCount_0f7a4 R T x0 = some r) : MI l g yJ6_bitCount_0f7a4 cJ6_bitCount_0f7a4 1 (some .int) rmJ6_bitCount_0f7a4 [.int x0] R T r R T := by
  refine z_metI (own := RJ6) (lv := [some (.int x0)]) (by decide +kernel) rfl rfl rfl (fun X K => ?_)
  unfold pJ6_bitCount_0f7a4 at h
  refine z_iload_n K dJ6_bitCount_0f7a4_0 rfl ?_
  refine z_iload_n K dJ6_bitCount_0f7a4_1 rfl ?_
  refine z_iconst K 1 dJ6_bitCount_0f7a4_2 rfl ?_
  refine z_iushr K dJ6_bitCount_0f7a4_3 ?_
  refine z_ldcw K 1431655765 q927 dJ6_bitCount_0f7a4_4 ?_
  refine z_iand K dJ6_bitCount_0f7a4_7 ?_
  refine z_isub K dJ6_bitCount_0f7a4_8 ?_
  refine z_istore_n K dJ6_bitCount_0f7a4_9 rfl rfl ?_
  refine z_iload_n K dJ6_bitCount_0f7a4_10 rfl ?_
  refine z_ldcw K 858993459 q928 dJ6_bitCount_0f7a4_11 ?_
  refine z_iand K dJ6_bitCount_0f7a4_14 ?_
  refine z_iload_n K dJ6_bitCount_0f7a4_15 rfl ?_
  refine z_iconst K 2 dJ6_bitCount_0f7a4_16 rfl ?_
  refine z_iushr K dJ6_bitCount_0f7a4_17 ?_
  refine z_ldcw K 858993459 q928 dJ6_bitCount_0f7a4_18 ?_
  refine z_iand K dJ6_bitCount_0f7a4_21 ?_
  refine z_iadd K dJ6_bitCount_0f7a4_22 ?_
  refine z_istore_n K dJ6_bitCount_0f7a4_23 rfl rfl ?_
  refine z_iload_n K dJ6_bitCount_0f7a4_24 rfl ?_
  refine z_iload_n K dJ6_bitCount_0f7a4_25 rfl ?_
  refine z_iconst K 4 dJ6_bitCount_0f7a4_26 rfl ?_
  refine z_iushr K dJ6_bitCount_0f7a4_27 ?_
  refine z_iadd K dJ6_bitCount_0f7a4_28 ?_
  refine z_ldcw K 252645135 q929 dJ6_bitCount_0f7a4_29 ?_
  refine z_iand K dJ6_bitCount_0f7a4_32 ?_
  refine z_istore_n K dJ6_bitCount_0f7a4_33 rfl rfl ?_
  refine z_iload_n K dJ6_bitCount_0f7a4_34 rfl ?_
  refine z_iload_n K dJ6_bitCount_0f7a4_35 rfl ?_
  refine z_bipush K 8 dJ6_bitCount_0f7a4_36 rfl ?_
  refine z_iushr K dJ6_bitCount_0f7a4_38 ?_
  refine z_iadd K dJ6_bitCount_0f7a4_39 ?_
  refine z_istore_n K dJ6_bitCount_0f7a4_40 rfl rfl ?_
  refine z_iload_n K dJ6_bitCount_0f7a4_41 rfl ?_
  refine z_iload_n K dJ6_bitCount_0f7a4_42 rfl ?_
  refine z_bipush K 16 dJ6_bitCount_0f7a4_43 rfl ?_
  refine z_iushr K dJ6_bitCount_0f7a4_45 ?_
  refine z_iadd K dJ6_bitCount_0f7a4_46 ?_
  refine z_istore_n K dJ6_bitCount_0f7a4_47 rfl rfl ?_
  refine z_iload_n K dJ6_bitCount_0f7a4_48 rfl ?_
  refine z_bipush K 63 dJ6_bitCount_0f7a4_49 rfl ?_
  refine z_iand K dJ6_bitCount_0f7a4_51 ?_
  obtain rfl := Option.some.inj h
  exact z_iret K dJ6_bitCount_0f7a4_52
/-! GoingOver$Falls.fewestOut (II)I -/
abbrev rmX3_fewestOut : Room := { frames := 1, cells := 0, slots := 0, locals := 23 }
def pX3_fewestOut_92 (R : Rf) (T : Mm) (a0 : Nat) (x1 : Int32) (x2 : Int32) (r27 : Int32 → Int32 → Int32 → Int32 → Int32 → Option (Int32)) (e110 : Int32 → Option (Int32)) (x3 : Int32) (x7 : Int32) (x8 : Int32) (x9 : Int32) : Option (Int32) :=
  lt (x7 + 1) (fun (v9 : Int32) => r27 x3 x7 x8 x9 v9)
def pX3_fewestOut_27 (R : Rf) (T : Mm) (a0 : Nat) (x1 : Int32) (x2 : Int32) (e110 : Int32 → Option (Int32)) (r27 : Int32 → Int32 → Int32 → Int32 → Int32 → Option (Int32)) (x3 : Int32) (x4 : Int32) (x5 : Int32) (x6 : Int32) (x7 : Int32) : Option (Int32) :=
  if (1 <<< ((T.1 a0 1) &&& 31)) ≤ x7 then e110 x4 else bd1 (pJ6_bitCount_0f7a4 R T x7) (fun (u5 : Int32) => if (x7 &&& (x1 ^^^ (-1))) = 0 then if u5 ≤ x5 then bd1 (pX3_weightOf R T a0 x7) (fun (u7 : Int32) => if u7 < x3 then lt (x7 + 1) (fun (v8 : Int32) => r27 x3 x4 x5 x6 v8) else if u5 < x5 then pX3_fewestOut_92 R T a0 x1 x2 r27 e110 x3 x7 u5 u7 else if x6 ≤ u7 then lt (x7 + 1) (fun (v10 : Int32) => r27 x3 x4 x5 x6 v10) else pX3_fewestOut_92 R T a0 x1 x2 r27 e110 x3 x7 u5 u7) else lt (x7 + 1) (fun (v11 : Int32) => r27 x3 x4 x5 x6 v11) else lt (x7 + 1) (fun (v6 : Int32) => r27 x3 x4 x5 x6 v6))
def pX3_fewestOut_110 (R : Rf) (T : Mm) (a0 : Nat) (x1 : Int32) (x2 : Int32) (x4 : Int32) : Option (Int32) :=
  some x4
def pX3_fewestOut (R : Rf) (T : Mm) (a0 : Nat) (x1 : Int32) (x2 : Int32) : Option (Int32) :=
  bd1 (pX3_weightOf R T a0 x1) (fun (u1 : Int32) => lt (u1 - x2) (fun (v2 : Int32) => bd1 (pJ6_bitCount_0f7a4 R T x1) (fun (u3 : Int32) => bd1 (pX3_weightOf R T a0 x1) (fun (u4 : Int32) => zl5 (pX3_fewestOut_27 R T a0 x1 x2 (pX3_fewestOut_110 R T a0 x1 x2)) FU v2 x1 u3 u4 0))))
set_option maxRecDepth 100000 in
set_option maxHeartbeats 4000000 in
theorem wX3_fewestOut_92 {X : Cx} {g : Gl} {l : Launch} {R : Rf} {T : Mm} {a0 : Nat} {x1 : Int32} {x2 : Int32} (K : Ok X g l cX3_fewestOut RX3 10 (some .int) rmX3_fewestOut) (hR : Ty g R) (k0 : kd g a0 = 3) {r : Int32} {r27 : Int32 → Int32 → Int32 → Int32 → Int32 → Option (Int32)} (hr27 : ∀ (x3 : Int32) (x4 : Int32) (x5 : Int32) (x6 : Int32) (x7 : Int32), r27 x3 x4 x5 x6 x7 = some r → Zj X g 10 (QI X g r R T) R T [some (.ref (g.2.2.1 a0)), some (.int x1), none, some (.int x3), some (.int x4), some (.int x5), some (.int x6), some (.int x7), none, none] [] 27) {e110 : Int32 → Option (Int32)} (he110 : ∀ (x4 : Int32), e110 x4 = some r → Zj X g 10 (QI X g r R T) R T [none, none, none, none, some (.int x4), none, none, none, none, none] [] 110) (x3 : Int32) (x7 : Int32) (x8 : Int32) (x9 : Int32) (h : pX3_fewestOut_92 R T a0 x1 x2 r27 e110 x3 x7 x8 x9 = some r) : Zj X g 10 (QI X g r R T) R T [some (.ref (g.2.2.1 a0)), some (.int x1), none, some (.int x3), none, none, none, some (.int x7), some (.int x8), some (.int x9)] [] 92 := by
  unfold pX3_fewestOut_92 at h
  refine z_iload K dX3_fewestOut_92 rfl ?_
  refine z_istore K dX3_fewestOut_94 rfl rfl ?_
  refine z_iload K dX3_fewestOut_96 rfl ?_
  refine z_istore K dX3_fewestOut_98 rfl rfl ?_
  refine z_iload K dX3_fewestOut_100 rfl ?_
  refine z_istore K dX3_fewestOut_102 rfl rfl ?_
  refine z_iinc K 1 dX3_fewestOut_104 rfl rfl rfl rfl ?_
  refine z_goto K 27 dX3_fewestOut_107 (by decide) ?_
  refine Zj.mask [true, true, false, true, true, true, true, true, false, false] ?_
  exact hr27 _ _ _ _ _ h
set_option maxRecDepth 100000 in
set_option maxHeartbeats 4000000 in
theorem wX3_fewestOut_27 {X : Cx} {g : Gl} {l : Launch} {R : Rf} {T : Mm} {a0 : Nat} {x1 : Int32} {x2 : Int32} (K : Ok X g l cX3_fewestOut RX3 10 (some .int) rmX3_fewestOut) (hR : Ty g R) (k0 : kd g a0 = 3) {r : Int32} {e110 : Int32 → Option (Int32)} (he110 : ∀ (x4 : Int32), e110 x4 = some r → Zj X g 10 (QI X g r R T) R T [none, none, none, none, some (.int x4), none, none, none, none, none] [] 110) : ∀ (n : Nat) (x3 : Int32) (x4 : Int32) (x5 : Int32) (x6 : Int32) (x7 : Int32), zl5 (pX3_fewestOut_27 R T a0 x1 x2 e110) n x3 x4 x5 x6 x7 = some r → Zj X g 10 (QI X g r R T) R T [some (.ref (g.2.2.1 a0)), some (.int x1), none, some (.int x3), some (.int x4), some (.int x5), some (.int x6), some (.int x7), none, none] [] 27 := by
  intro n
  induction n with
  | zero =>
    intro x3 x4 x5 x6 x7 h
    exact absurd h (by simp [zl5])
  | succ n hr27 =>
    intro x3 x4 x5 x6 x7 h
    rw [zl5_s] at h
    unfold pX3_fewestOut_27 at h
    refine z_iload K dX3_fewestOut_27 rfl ?_
    refine z_iconst K 1 dX3_fewestOut_29 rfl ?_
    refine z_aload_n K dX3_fewestOut_30 rfl ?_
    refine z_getI K clX3 k0 1 rfl rfl q250 dX3_fewestOut_31 ?_
    refine z_ishl K dX3_fewestOut_34 ?_
    refine z_icmp_ge K 110 dX3_fewestOut_35 (by decide) (fun c => ?_) (fun c => ?_)
    · have h := ite_t h c
      refine Zj.mask [false, false, false, false, true, false, false, false, false, false] ?_
      exact he110 _ h
    · have h := ite_f h c
      refine z_iload K dX3_fewestOut_38 rfl ?_
      obtain ⟨u5, hc, h⟩ := bd1_e h
      refine z_callSI K (mJ6_bitCount_0f7a4 l hR hc) ceJ6_bitCount_0f7a4 q924 ⟨rfl, rfl, rfl, rfl⟩ rfl rfl rfl dX3_fewestOut_40 ?_
      refine z_istore K dX3_fewestOut_43 rfl rfl ?_
      refine z_iload K dX3_fewestOut_45 rfl ?_
      refine z_iload_n K dX3_fewestOut_47 rfl ?_
      refine z_iconst K (-1) dX3_fewestOut_48 rfl ?_
      refine z_ixor K dX3_fewestOut_49 ?_
      refine z_iand K dX3_fewestOut_50 ?_
      refine z_if_ne K 104 dX3_fewestOut_51 (by decide) (fun c => ?_) (fun c => ?_)
      · have h := ite_f h c
        refine z_iinc K 1 dX3_fewestOut_104 rfl rfl rfl rfl ?_
        refine z_goto K 27 dX3_fewestOut_107 (by decide) ?_
        refine Zj.mask [true, true, false, true, true, true, true, true, false, false] ?_
        exact hr27 _ _ _ _ _ h
      · have h := ite_t h c
        refine z_iload K dX3_fewestOut_54 rfl ?_
        refine z_iload K dX3_fewestOut_56 rfl ?_
        refine z_icmp_le K 64 dX3_fewestOut_58 (by decide) (fun c => ?_) (fun c => ?_)
        · have h := ite_t h c
          refine z_aload_n K dX3_fewestOut_64 rfl ?_
          refine z_iload K dX3_fewestOut_65 rfl ?_
          obtain ⟨u7, hc, h⟩ := bd1_e h
          refine z_callVI K (mX3_weightOf l hR k0 hc) clX3 k0 ceX3_weightOf q920 ⟨rfl, rfl, rfl, rfl⟩ rfl rfl rfl dX3_fewestOut_67 ?_
          refine z_istore K dX3_fewestOut_70 rfl rfl ?_
          refine z_iload K dX3_fewestOut_72 rfl ?_
          refine z_iload_n K dX3_fewestOut_74 rfl ?_
          refine z_icmp_lt K 104 dX3_fewestOut_75 (by decide) (fun c => ?_) (fun c => ?_)
          · have h := ite_t h c
            refine z_iinc K 1 dX3_fewestOut_104 rfl rfl rfl rfl ?_
            refine z_goto K 27 dX3_fewestOut_107 (by decide) ?_
            refine Zj.mask [true, true, false, true, true, true, true, true, false, false] ?_
            exact hr27 _ _ _ _ _ h
          · have h := ite_f h c
            refine z_iload K dX3_fewestOut_78 rfl ?_
            refine z_iload K dX3_fewestOut_80 rfl ?_
            refine z_icmp_lt K 92 dX3_fewestOut_82 (by decide) (fun c => ?_) (fun c => ?_)
            · have h := ite_t h c
              refine Zj.mask [true, true, false, true, false, false, false, true, true, true] ?_
              exact wX3_fewestOut_92 K hR k0 hr27 he110 _ _ _ _ h
            · have h := ite_f h c
              refine z_iload K dX3_fewestOut_85 rfl ?_
              refine z_iload K dX3_fewestOut_87 rfl ?_
              refine z_icmp_ge K 104 dX3_fewestOut_89 (by decide) (fun c => ?_) (fun c => ?_)
              · have h := ite_t h c
                refine z_iinc K 1 dX3_fewestOut_104 rfl rfl rfl rfl ?_
                refine z_goto K 27 dX3_fewestOut_107 (by decide) ?_
                refine Zj.mask [true, true, false, true, true, true, true, true, false, false] ?_
                exact hr27 _ _ _ _ _ h
              · have h := ite_f h c
                refine Zj.mask [true, true, false, true, false, false, false, true, true, true] ?_
                exact wX3_fewestOut_92 K hR k0 hr27 he110 _ _ _ _ h
        · have h := ite_f h c
          refine z_goto K 104 dX3_fewestOut_61 (by decide) ?_
          refine z_iinc K 1 dX3_fewestOut_104 rfl rfl rfl rfl ?_
          refine z_goto K 27 dX3_fewestOut_107 (by decide) ?_
          refine Zj.mask [true, true, false, true, true, true, true, true, false, false] ?_
          exact hr27 _ _ _ _ _ h
set_option maxRecDepth 100000 in
set_option maxHeartbeats 4000000 in
theorem wX3_fewestOut_110 {X : Cx} {g : Gl} {l : Launch} {R : Rf} {T : Mm} {a0 : Nat} {x1 : Int32} {x2 : Int32} (K : Ok X g l cX3_fewestOut RX3 10 (some .int) rmX3_fewestOut) (hR : Ty g R) (k0 : kd g a0 = 3) {r : Int32} (x4 : Int32) (h : pX3_fewestOut_110 R T a0 x1 x2 x4 = some r) : Zj X g 10 (QI X g r R T) R T [none, none, none, none, some (.int x4), none, none, none, none, none] [] 110 := by
  unfold pX3_fewestOut_110 at h
  refine z_iload K dX3_fewestOut_110 rfl ?_
  obtain rfl := Option.some.inj h
  exact z_iret K dX3_fewestOut_112
set_option maxRecDepth 100000 in
set_option maxHeartbeats 4000000 in
theorem mX3_fewestOut {g : Gl} {R : Rf} {T : Mm} {a0 : Nat} {x1 : Int32} {x2 : Int32} (l : Launch) (hR : Ty g R) (k0 : kd g a0 = 3) {r : Int32} (h : pX3_fewestOut R T a0 x1 x2 = some r) : MI l g yX3_fewestOut cX3_fewestOut 10 (some .int) rmX3_fewestOut [.ref (g.2.2.1 a0), .int x1, .int x2] R T r R T := by
  refine z_metI (own := RX3) (lv := [some (.ref (g.2.2.1 a0)), some (.int x1), some (.int x2), none, none, none, none, none, none, none]) (by decide +kernel) rfl rfl rfl (fun X K => ?_)
  unfold pX3_fewestOut at h
  refine z_aload_n K dX3_fewestOut_0 rfl ?_
  refine z_iload_n K dX3_fewestOut_1 rfl ?_
  obtain ⟨u1, hc, h⟩ := bd1_e h
  refine z_callVI K (mX3_weightOf l hR k0 hc) clX3 k0 ceX3_weightOf q920 ⟨rfl, rfl, rfl, rfl⟩ rfl rfl rfl dX3_fewestOut_2 ?_
  refine z_iload_n K dX3_fewestOut_5 rfl ?_
  refine z_isub K dX3_fewestOut_6 ?_
  refine z_istore_n K dX3_fewestOut_7 rfl rfl ?_
  refine z_iload_n K dX3_fewestOut_8 rfl ?_
  refine z_istore K dX3_fewestOut_9 rfl rfl ?_
  refine z_iload_n K dX3_fewestOut_11 rfl ?_
  obtain ⟨u3, hc, h⟩ := bd1_e h
  refine z_callSI K (mJ6_bitCount_0f7a4 l hR hc) ceJ6_bitCount_0f7a4 q924 ⟨rfl, rfl, rfl, rfl⟩ rfl rfl rfl dX3_fewestOut_12 ?_
  refine z_istore K dX3_fewestOut_15 rfl rfl ?_
  refine z_aload_n K dX3_fewestOut_17 rfl ?_
  refine z_iload_n K dX3_fewestOut_18 rfl ?_
  obtain ⟨u4, hc, h⟩ := bd1_e h
  refine z_callVI K (mX3_weightOf l hR k0 hc) clX3 k0 ceX3_weightOf q920 ⟨rfl, rfl, rfl, rfl⟩ rfl rfl rfl dX3_fewestOut_19 ?_
  refine z_istore K dX3_fewestOut_22 rfl rfl ?_
  refine z_iconst K 0 dX3_fewestOut_24 rfl ?_
  refine z_istore K dX3_fewestOut_25 rfl rfl ?_
  refine Zj.mask [true, true, false, true, true, true, true, true, false, false] ?_
  exact wX3_fewestOut_27 K hR k0 (wX3_fewestOut_110 K hR k0) FU _ _ _ _ _ h
/-! GoingOver$Falls.readFalls (LGoingOver$Tape;)Z -/
abbrev rmX3_readFalls : Room := { frames := 2, cells := 0, slots := 0, locals := 44 }
def pX3_readFalls (R : Rf) (T : Mm) (a0 : Nat) (a1 : Nat) : Option (Int32 × Mm) :=
  if (T.1 a0 13) = 0 then bd1 (pX10_advance R T a1) (fun (T1 : Mm) => lt (wI T1 a0 13 1) (fun (T2 : Mm) => bd2 (pX10_takeNumber R T2 a1 1 30) (fun (u3 : Int32) (T3 : Mm) => lt (wI T3 a0 3 u3) (fun (T4 : Mm) => if (T4.1 a0 3) = (-1) then some (0, T4) else bd2 (pX10_takeNumber R T4 a1 1 99) (fun (u5 : Int32) (T5 : Mm) => lt (wI T5 a0 4 u5) (fun (T6 : Mm) => if (T6.1 a0 4) = (-1) then some (0, T6) else some (1, T6))))))) else bd2 (pX10_fail R T a1 3) (fun (u7 : Int32) (T7 : Mm) => bz u7 (some (u7, T7)))
set_option maxRecDepth 100000 in
set_option maxHeartbeats 4000000 in
theorem mX3_readFalls {g : Gl} {R : Rf} {T : Mm} {a0 : Nat} {a1 : Nat} (l : Launch) (hR : Ty g R) (k0 : kd g a0 = 3) (k1 : kd g a1 = 10) {r : Int32 × Mm} (h : pX3_readFalls R T a0 a1 = some r) : MI l g yX3_readFalls cX3_readFalls 2 (some .boolean) rmX3_readFalls [.ref (g.2.2.1 a0), .ref (g.2.2.1 a1)] R T r.1 R r.2 := by
  refine z_metI (own := RX3) (lv := [some (.ref (g.2.2.1 a0)), some (.ref (g.2.2.1 a1))]) (by decide +kernel) rfl rfl rfl (fun X K => ?_)
  unfold pX3_readFalls at h
  refine z_aload_n K dX3_readFalls_0 rfl ?_
  refine z_getI K clX3 k0 13 rfl rfl q290 dX3_readFalls_1 ?_
  refine z_if_eq K 13 dX3_readFalls_4 (by decide) (fun c => ?_) (fun c => ?_)
  · have h := ite_t h c
    refine z_aload_n K dX3_readFalls_13 rfl ?_
    obtain ⟨T1, hc, h⟩ := bd1_e h
    refine z_callVV K (mX10_advance l hR k1 hc) clX10 k1 ceX10_advance q640 ⟨rfl, rfl, rfl, rfl⟩ rfl rfl rfl dX3_readFalls_14 ?_
    refine z_aload_n K dX3_readFalls_17 rfl ?_
    refine z_iconst K 1 dX3_readFalls_18 rfl ?_
    refine z_putI K clX3 tyX3_ok nmX3 k0 13 rfl rfl q290 rfl rfl rfl dX3_readFalls_19 ?_
    refine z_aload_n K dX3_readFalls_22 rfl ?_
    refine z_aload_n K dX3_readFalls_23 rfl ?_
    refine z_iconst K 1 dX3_readFalls_24 rfl ?_
    refine z_bipush K 30 dX3_readFalls_25 rfl ?_
    obtain ⟨u3, T3, hc, h⟩ := bd2_e h
    refine z_callVI K (mX10_takeNumber l hR k1 hc) clX10 k1 ceX10_takeNumber q644 ⟨rfl, rfl, rfl, rfl⟩ rfl rfl rfl dX3_readFalls_27 ?_
    refine z_putI K clX3 tyX3_ok nmX3 k0 3 rfl rfl q260 rfl rfl rfl dX3_readFalls_30 ?_
    refine z_aload_n K dX3_readFalls_33 rfl ?_
    refine z_getI K clX3 k0 3 rfl rfl q260 dX3_readFalls_34 ?_
    refine z_iconst K (-1) dX3_readFalls_37 rfl ?_
    refine z_icmp_ne K 43 dX3_readFalls_38 (by decide) (fun c => ?_) (fun c => ?_)
    · have h := ite_f h c
      refine z_aload_n K dX3_readFalls_43 rfl ?_
      refine z_aload_n K dX3_readFalls_44 rfl ?_
      refine z_iconst K 1 dX3_readFalls_45 rfl ?_
      refine z_bipush K 99 dX3_readFalls_46 rfl ?_
      obtain ⟨u5, T5, hc, h⟩ := bd2_e h
      refine z_callVI K (mX10_takeNumber l hR k1 hc) clX10 k1 ceX10_takeNumber q644 ⟨rfl, rfl, rfl, rfl⟩ rfl rfl rfl dX3_readFalls_48 ?_
      refine z_putI K clX3 tyX3_ok nmX3 k0 4 rfl rfl q264 rfl rfl rfl dX3_readFalls_51 ?_
      refine z_aload_n K dX3_readFalls_54 rfl ?_
      refine z_getI K clX3 k0 4 rfl rfl q264 dX3_readFalls_55 ?_
      refine z_iconst K (-1) dX3_readFalls_58 rfl ?_
      refine z_icmp_eq K 66 dX3_readFalls_59 (by decide) (fun c => ?_) (fun c => ?_)
      · have h := ite_t h c
        refine z_iconst K 0 dX3_readFalls_66 rfl ?_
        obtain rfl := Option.some.inj h
        exact z_zret (v := 0) K rfl dX3_readFalls_67
      · have h := ite_f h c
        refine z_iconst K 1 dX3_readFalls_62 rfl ?_
        refine z_goto K 67 dX3_readFalls_63 (by decide) ?_
        obtain rfl := Option.some.inj h
        exact z_zret (v := 1) K rfl dX3_readFalls_67
    · have h := ite_t h c
      refine z_iconst K 0 dX3_readFalls_41 rfl ?_
      obtain rfl := Option.some.inj h
      exact z_zret (v := 0) K rfl dX3_readFalls_42
  · have h := ite_f h c
    refine z_aload_n K dX3_readFalls_7 rfl ?_
    refine z_iconst K 3 dX3_readFalls_8 rfl ?_
    obtain ⟨u7, T7, hc, h⟩ := bd2_e h
    refine z_callVI K (mX10_fail l hR k1 hc) clX10 k1 ceX10_fail q636 ⟨rfl, rfl, rfl, rfl⟩ rfl rfl rfl dX3_readFalls_9 ?_
    obtain ⟨hz, hf, h⟩ := bz_e h
    obtain rfl := Option.some.inj h
    exact z_zret K hz dX3_readFalls_12
/-! GoingOver$Falls.readRain (LGoingOver$Tape;)Z -/
abbrev rmX3_readRain : Room := { frames := 2, cells := 0, slots := 0, locals := 44 }
def pX3_readRain (R : Rf) (T : Mm) (a0 : Nat) (a1 : Nat) : Option (Int32 × Mm) :=
  if (T.1 a0 14) ≤ 0 then bd1 (pX10_advance R T a1) (fun (T1 : Mm) => bd2 (pX10_takeNumber R T1 a1 1 9) (fun (u2 : Int32) (T2 : Mm) => lt (wI T2 a0 14 u2) (fun (T3 : Mm) => if (T3.1 a0 14) = (-1) then some (0, T3) else bd2 (pX10_takeNumber R T3 a1 1 99) (fun (u4 : Int32) (T4 : Mm) => lt (wI T4 a0 15 u4) (fun (T5 : Mm) => if (T5.1 a0 15) = (-1) then some (0, T5) else some (1, T5)))))) else bd2 (pX10_fail R T a1 3) (fun (u6 : Int32) (T6 : Mm) => bz u6 (some (u6, T6)))
set_option maxRecDepth 100000 in
set_option maxHeartbeats 4000000 in
theorem mX3_readRain {g : Gl} {R : Rf} {T : Mm} {a0 : Nat} {a1 : Nat} (l : Launch) (hR : Ty g R) (k0 : kd g a0 = 3) (k1 : kd g a1 = 10) {r : Int32 × Mm} (h : pX3_readRain R T a0 a1 = some r) : MI l g yX3_readRain cX3_readRain 2 (some .boolean) rmX3_readRain [.ref (g.2.2.1 a0), .ref (g.2.2.1 a1)] R T r.1 R r.2 := by
  refine z_metI (own := RX3) (lv := [some (.ref (g.2.2.1 a0)), some (.ref (g.2.2.1 a1))]) (by decide +kernel) rfl rfl rfl (fun X K => ?_)
  unfold pX3_readRain at h
  refine z_aload_n K dX3_readRain_0 rfl ?_
  refine z_getI K clX3 k0 14 rfl rfl q291 dX3_readRain_1 ?_
  refine z_if_le K 13 dX3_readRain_4 (by decide) (fun c => ?_) (fun c => ?_)
  · have h := ite_t h c
    refine z_aload_n K dX3_readRain_13 rfl ?_
    obtain ⟨T1, hc, h⟩ := bd1_e h
    refine z_callVV K (mX10_advance l hR k1 hc) clX10 k1 ceX10_advance q640 ⟨rfl, rfl, rfl, rfl⟩ rfl rfl rfl dX3_readRain_14 ?_
    refine z_aload_n K dX3_readRain_17 rfl ?_
    refine z_aload_n K dX3_readRain_18 rfl ?_
    refine z_iconst K 1 dX3_readRain_19 rfl ?_
    refine z_bipush K 9 dX3_readRain_20 rfl ?_
    obtain ⟨u2, T2, hc, h⟩ := bd2_e h
    refine z_callVI K (mX10_takeNumber l hR k1 hc) clX10 k1 ceX10_takeNumber q644 ⟨rfl, rfl, rfl, rfl⟩ rfl rfl rfl dX3_readRain_22 ?_
    refine z_putI K clX3 tyX3_ok nmX3 k0 14 rfl rfl q291 rfl rfl rfl dX3_readRain_25 ?_
    refine z_aload_n K dX3_readRain_28 rfl ?_
    refine z_getI K clX3 k0 14 rfl rfl q291 dX3_readRain_29 ?_
    refine z_iconst K (-1) dX3_readRain_32 rfl ?_
    refine z_icmp_ne K 38 dX3_readRain_33 (by decide) (fun c => ?_) (fun c => ?_)
    · have h := ite_f h c
      refine z_aload_n K dX3_readRain_38 rfl ?_
      refine z_aload_n K dX3_readRain_39 rfl ?_
      refine z_iconst K 1 dX3_readRain_40 rfl ?_
      refine z_bipush K 99 dX3_readRain_41 rfl ?_
      obtain ⟨u4, T4, hc, h⟩ := bd2_e h
      refine z_callVI K (mX10_takeNumber l hR k1 hc) clX10 k1 ceX10_takeNumber q644 ⟨rfl, rfl, rfl, rfl⟩ rfl rfl rfl dX3_readRain_43 ?_
      refine z_putI K clX3 tyX3_ok nmX3 k0 15 rfl rfl q292 rfl rfl rfl dX3_readRain_46 ?_
      refine z_aload_n K dX3_readRain_49 rfl ?_
      refine z_getI K clX3 k0 15 rfl rfl q292 dX3_readRain_50 ?_
      refine z_iconst K (-1) dX3_readRain_53 rfl ?_
      refine z_icmp_eq K 61 dX3_readRain_54 (by decide) (fun c => ?_) (fun c => ?_)
      · have h := ite_t h c
        refine z_iconst K 0 dX3_readRain_61 rfl ?_
        obtain rfl := Option.some.inj h
        exact z_zret (v := 0) K rfl dX3_readRain_62
      · have h := ite_f h c
        refine z_iconst K 1 dX3_readRain_57 rfl ?_
        refine z_goto K 62 dX3_readRain_58 (by decide) ?_
        obtain rfl := Option.some.inj h
        exact z_zret (v := 1) K rfl dX3_readRain_62
    · have h := ite_t h c
      refine z_iconst K 0 dX3_readRain_36 rfl ?_
      obtain rfl := Option.some.inj h
      exact z_zret (v := 0) K rfl dX3_readRain_37
  · have h := ite_f h c
    refine z_aload_n K dX3_readRain_7 rfl ?_
    refine z_iconst K 3 dX3_readRain_8 rfl ?_
    obtain ⟨u6, T6, hc, h⟩ := bd2_e h
    refine z_callVI K (mX10_fail l hR k1 hc) clX10 k1 ceX10_fail q636 ⟨rfl, rfl, rfl, rfl⟩ rfl rfl rfl dX3_readRain_9 ?_
    obtain ⟨hz, hf, h⟩ := bz_e h
    obtain rfl := Option.some.inj h
    exact z_zret K hz dX3_readRain_12
/-! GoingOver$Falls.isNewName (LGoingOver$Tape;)Z -/
abbrev rmX3_isNewName : Room := { frames := 1, cells := 0, slots := 0, locals := 23 }
def pX3_isNewName_37 (R : Rf) (a0 : Nat) (a1 : Nat) (T : Mm) : Option (Int32 × Mm) :=
  bd2 (pX10_fail R T a1 3) (fun (u4 : Int32) (T4 : Mm) => bz u4 (some (u4, T4)))
def pX3_isNewName (R : Rf) (T : Mm) (a0 : Nat) (a1 : Nat) : Option (Int32 × Mm) :=
  bd1 (pX10_atName R T a1) (fun (u1 : Int32) => if u1 = 0 then bd2 (pX10_fail R T a1 1) (fun (u7 : Int32) (T7 : Mm) => bz u7 (some (u7, T7))) else bd1 (pX10_name R T a1) (fun (u2 : Int64) => bd1 (pX3_personNamed R T a0 u2) (fun (u3 : Int32) => if u3 = (-1) then bd1 (pX10_name R T a1) (fun (u5 : Int64) => bd1 (pX3_itemNamed R T a0 u5) (fun (u6 : Int32) => if u6 = (-1) then some (1, T) else pX3_isNewName_37 R a0 a1 T)) else pX3_isNewName_37 R a0 a1 T)))
set_option maxRecDepth 100000 in
set_option maxHeartbeats 4000000 in
theorem wX3_isNewName_37 {X : Cx} {g : Gl} {l : Launch} {R : Rf} {a0 : Nat} {a1 : Nat} (K : Ok X g l cX3_isNewName RX3 2 (some .boolean) rmX3_isNewName) (hR : Ty g R) (k0 : kd g a0 = 3) (k1 : kd g a1 = 10) {r : Int32 × Mm} (T : Mm) (h : pX3_isNewName_37 R a0 a1 T = some r) : Zj X g 2 (QI X g r.1 R r.2) R T [none, some (.ref (g.2.2.1 a1))] [] 37 := by
  unfold pX3_isNewName_37 at h
  refine z_aload_n K dX3_isNewName_37 rfl ?_
  refine z_iconst K 3 dX3_isNewName_38 rfl ?_
  obtain ⟨u4, T4, hc, h⟩ := bd2_e h
  refine z_callVI K (mX10_fail l hR k1 hc) clX10 k1 ceX10_fail q636 ⟨rfl, rfl, rfl, rfl⟩ rfl rfl rfl dX3_isNewName_39 ?_
  obtain ⟨hz, hf, h⟩ := bz_e h
  obtain rfl := Option.some.inj h
  exact z_zret K hz dX3_isNewName_42
set_option maxRecDepth 100000 in
set_option maxHeartbeats 4000000 in
theorem mX3_isNewName {g : Gl} {R : Rf} {T : Mm} {a0 : Nat} {a1 : Nat} (l : Launch) (hR : Ty g R) (k0 : kd g a0 = 3) (k1 : kd g a1 = 10) {r : Int32 × Mm} (h : pX3_isNewName R T a0 a1 = some r) : MI l g yX3_isNewName cX3_isNewName 2 (some .boolean) rmX3_isNewName [.ref (g.2.2.1 a0), .ref (g.2.2.1 a1)] R T r.1 R r.2 := by
  refine z_metI (own := RX3) (lv := [some (.ref (g.2.2.1 a0)), some (.ref (g.2.2.1 a1))]) (by decide +kernel) rfl rfl rfl (fun X K => ?_)
  unfold pX3_isNewName at h
  refine z_aload_n K dX3_isNewName_0 rfl ?_
  obtain ⟨u1, hc, h⟩ := bd1_e h
  refine z_callVI K (mX10_atName l hR k1 hc) clX10 k1 ceX10_atName q670 ⟨rfl, rfl, rfl, rfl⟩ rfl rfl rfl dX3_isNewName_1 ?_
  refine z_if_ne K 13 dX3_isNewName_4 (by decide) (fun c => ?_) (fun c => ?_)
  · have h := ite_f h c
    refine z_aload_n K dX3_isNewName_13 rfl ?_
    refine z_aload_n K dX3_isNewName_14 rfl ?_
    obtain ⟨u2, hc, h⟩ := bd1_e h
    refine z_callVL K (mX10_name l hR k1 hc) clX10 k1 ceX10_name q674 ⟨rfl, rfl, rfl, rfl⟩ rfl rfl rfl dX3_isNewName_15 ?_
    obtain ⟨u3, hc, h⟩ := bd1_e h
    refine z_callVI K (mX3_personNamed l hR k0 hc) clX3 k0 ceX3_personNamed q678 ⟨rfl, rfl, rfl, rfl⟩ rfl rfl rfl dX3_isNewName_18 ?_
    refine z_iconst K (-1) dX3_isNewName_21 rfl ?_
    refine z_icmp_ne K 37 dX3_isNewName_22 (by decide) (fun c => ?_) (fun c => ?_)
    · have h := ite_f h c
      refine Zj.mask [false, true] ?_
      exact wX3_isNewName_37 K hR k0 k1 _ h
    · have h := ite_t h c
      refine z_aload_n K dX3_isNewName_25 rfl ?_
      refine z_aload_n K dX3_isNewName_26 rfl ?_
      obtain ⟨u5, hc, h⟩ := bd1_e h
      refine z_callVL K (mX10_name l hR k1 hc) clX10 k1 ceX10_name q674 ⟨rfl, rfl, rfl, rfl⟩ rfl rfl rfl dX3_isNewName_27 ?_
      obtain ⟨u6, hc, h⟩ := bd1_e h
      refine z_callVI K (mX3_itemNamed l hR k0 hc) clX3 k0 ceX3_itemNamed q682 ⟨rfl, rfl, rfl, rfl⟩ rfl rfl rfl dX3_isNewName_30 ?_
      refine z_iconst K (-1) dX3_isNewName_33 rfl ?_
      refine z_icmp_eq K 43 dX3_isNewName_34 (by decide) (fun c => ?_) (fun c => ?_)
      · have h := ite_t h c
        refine z_iconst K 1 dX3_isNewName_43 rfl ?_
        obtain rfl := Option.some.inj h
        exact z_zret (v := 1) K rfl dX3_isNewName_44
      · have h := ite_f h c
        refine Zj.mask [false, true] ?_
        exact wX3_isNewName_37 K hR k0 k1 _ h
  · have h := ite_t h c
    refine z_aload_n K dX3_isNewName_7 rfl ?_
    refine z_iconst K 1 dX3_isNewName_8 rfl ?_
    obtain ⟨u7, T7, hc, h⟩ := bd2_e h
    refine z_callVI K (mX10_fail l hR k1 hc) clX10 k1 ceX10_fail q636 ⟨rfl, rfl, rfl, rfl⟩ rfl rfl rfl dX3_isNewName_9 ?_
    obtain ⟨hz, hf, h⟩ := bz_e h
    obtain rfl := Option.some.inj h
    exact z_zret K hz dX3_isNewName_12
/-! GoingOver$Falls.readPerson (LGoingOver$Tape;)Z -/
abbrev rmX3_readPerson : Room := { frames := 2, cells := 0, slots := 0, locals := 44 }
def pX3_readPerson (R : Rf) (T : Mm) (a0 : Nat) (a1 : Nat) : Option (Int32 × Mm) :=
  if (T.1 a0 0) < 5 then bd1 (pX10_advance R T a1) (fun (T1 : Mm) => bd2 (pX3_isNewName R T1 a0 a1) (fun (u2 : Int32) (T2 : Mm) => if u2 = 0 then some (0, T2) else bd1 (pX10_name R T2 a1) (fun (u3 : Int64) => ix (T2.1 a0 0) 5 (lt (wJ T2 (R a0 6) (T2.1 a0 0).toNatClampNeg u3) (fun (T4 : Mm) => bd1 (pX10_advance R T4 a1) (fun (T5 : Mm) => bd2 (pX10_takeNumber R T5 a1 0 9) (fun (u6 : Int32) (T6 : Mm) => ix (T5.1 a0 0) 5 (lt (wI T6 (R a0 5) (T5.1 a0 0).toNatClampNeg u6) (fun (T7 : Mm) => ix (T7.1 a0 0) 5 (if (T7.1 (R a0 5) (T7.1 a0 0).toNatClampNeg) = (-1) then some (0, T7) else lt (wI T7 a0 0 ((T7.1 a0 0) + 1)) (fun (T8 : Mm) => some (1, T8)))))))))))) else bd2 (pX10_fail R T a1 4) (fun (u9 : Int32) (T9 : Mm) => bz u9 (some (u9, T9)))
set_option maxRecDepth 100000 in
set_option maxHeartbeats 4000000 in
theorem mX3_readPerson {g : Gl} {R : Rf} {T : Mm} {a0 : Nat} {a1 : Nat} (l : Launch) (hR : Ty g R) (k0 : kd g a0 = 3) (k1 : kd g a1 = 10) {r : Int32 × Mm} (h : pX3_readPerson R T a0 a1 = some r) : MI l g yX3_readPerson cX3_readPerson 2 (some .boolean) rmX3_readPerson [.ref (g.2.2.1 a0), .ref (g.2.2.1 a1)] R T r.1 R r.2 := by
  refine z_metI (own := RX3) (lv := [some (.ref (g.2.2.1 a0)), some (.ref (g.2.2.1 a1))]) (by decide +kernel) rfl rfl rfl (fun X K => ?_)
  unfold pX3_readPerson at h
  refine z_aload_n K dX3_readPerson_0 rfl ?_
  refine z_getI K clX3 k0 0 rfl rfl q245 dX3_readPerson_1 ?_
  refine z_iconst K 5 dX3_readPerson_4 rfl ?_
  refine z_icmp_lt K 14 dX3_readPerson_5 (by decide) (fun c => ?_) (fun c => ?_)
  · have h := ite_t h c
    refine z_aload_n K dX3_readPerson_14 rfl ?_
    obtain ⟨T1, hc, h⟩ := bd1_e h
    refine z_callVV K (mX10_advance l hR k1 hc) clX10 k1 ceX10_advance q640 ⟨rfl, rfl, rfl, rfl⟩ rfl rfl rfl dX3_readPerson_15 ?_
    refine z_aload_n K dX3_readPerson_18 rfl ?_
    refine z_aload_n K dX3_readPerson_19 rfl ?_
    obtain ⟨u2, T2, hc, h⟩ := bd2_e h
    refine z_callVI K (mX3_isNewName l hR k0 k1 hc) clX3 k0 ceX3_isNewName q666 ⟨rfl, rfl, rfl, rfl⟩ rfl rfl rfl dX3_readPerson_20 ?_
    refine z_if_ne K 28 dX3_readPerson_23 (by decide) (fun c => ?_) (fun c => ?_)
    · have h := ite_f h c
      refine z_aload_n K dX3_readPerson_28 rfl ?_
      refine z_getR K clX3 k0 6 rfl rfl q270 dX3_readPerson_29 ?_
      refine z_aload_n K dX3_readPerson_32 rfl ?_
      refine z_getI K clX3 k0 0 rfl rfl q245 dX3_readPerson_33 ?_
      refine z_aload_n K dX3_readPerson_36 rfl ?_
      obtain ⟨u3, hc, h⟩ := bd1_e h
      refine z_callVL K (mX10_name l hR k1 hc) clX10 k1 ceX10_name q674 ⟨rfl, rfl, rfl, rfl⟩ rfl rfl rfl dX3_readPerson_37 ?_
      obtain ⟨hi, h⟩ := ix_e h
      refine z_last K (hR.at (k := 6) (t := 30005) k0 rfl rfl) rfl rfl rfl hi dX3_readPerson_40 ?_
      refine z_aload_n K dX3_readPerson_41 rfl ?_
      obtain ⟨T5, hc, h⟩ := bd1_e h
      refine z_callVV K (mX10_advance l hR k1 hc) clX10 k1 ceX10_advance q640 ⟨rfl, rfl, rfl, rfl⟩ rfl rfl rfl dX3_readPerson_42 ?_
      refine z_aload_n K dX3_readPerson_45 rfl ?_
      refine z_getR K clX3 k0 5 rfl rfl q266 dX3_readPerson_46 ?_
      refine z_aload_n K dX3_readPerson_49 rfl ?_
      refine z_getI K clX3 k0 0 rfl rfl q245 dX3_readPerson_50 ?_
      refine z_aload_n K dX3_readPerson_53 rfl ?_
      refine z_iconst K 0 dX3_readPerson_54 rfl ?_
      refine z_bipush K 9 dX3_readPerson_55 rfl ?_
      obtain ⟨u6, T6, hc, h⟩ := bd2_e h
      refine z_callVI K (mX10_takeNumber l hR k1 hc) clX10 k1 ceX10_takeNumber q644 ⟨rfl, rfl, rfl, rfl⟩ rfl rfl rfl dX3_readPerson_57 ?_
      obtain ⟨hi, h⟩ := ix_e h
      refine z_iast K (hR.at (k := 5) (t := 20005) k0 rfl rfl) rfl rfl rfl hi dX3_readPerson_60 ?_
      refine z_aload_n K dX3_readPerson_61 rfl ?_
      refine z_getR K clX3 k0 5 rfl rfl q266 dX3_readPerson_62 ?_
      refine z_aload_n K dX3_readPerson_65 rfl ?_
      refine z_getI K clX3 k0 0 rfl rfl q245 dX3_readPerson_66 ?_
      obtain ⟨hi, h⟩ := ix_e h
      refine z_iald K (hR.at (k := 5) (t := 20005) k0 rfl rfl) rfl rfl rfl hi dX3_readPerson_69 ?_
      refine z_iconst K (-1) dX3_readPerson_70 rfl ?_
      refine z_icmp_ne K 76 dX3_readPerson_71 (by decide) (fun c => ?_) (fun c => ?_)
      · have h := ite_f h c
        refine z_aload_n K dX3_readPerson_76 rfl ?_
        refine z_dup K dX3_readPerson_77 rfl ?_
        refine z_getI K clX3 k0 0 rfl rfl q245 dX3_readPerson_78 ?_
        refine z_iconst K 1 dX3_readPerson_81 rfl ?_
        refine z_iadd K dX3_readPerson_82 ?_
        refine z_putI K clX3 tyX3_ok nmX3 k0 0 rfl rfl q245 rfl rfl rfl dX3_readPerson_83 ?_
        refine z_iconst K 1 dX3_readPerson_86 rfl ?_
        obtain rfl := Option.some.inj h
        exact z_zret (v := 1) K rfl dX3_readPerson_87
      · have h := ite_t h c
        refine z_iconst K 0 dX3_readPerson_74 rfl ?_
        obtain rfl := Option.some.inj h
        exact z_zret (v := 0) K rfl dX3_readPerson_75
    · have h := ite_t h c
      refine z_iconst K 0 dX3_readPerson_26 rfl ?_
      obtain rfl := Option.some.inj h
      exact z_zret (v := 0) K rfl dX3_readPerson_27
  · have h := ite_f h c
    refine z_aload_n K dX3_readPerson_8 rfl ?_
    refine z_iconst K 4 dX3_readPerson_9 rfl ?_
    obtain ⟨u9, T9, hc, h⟩ := bd2_e h
    refine z_callVI K (mX10_fail l hR k1 hc) clX10 k1 ceX10_fail q636 ⟨rfl, rfl, rfl, rfl⟩ rfl rfl rfl dX3_readPerson_10 ?_
    obtain ⟨hz, hf, h⟩ := bz_e h
    obtain rfl := Option.some.inj h
    exact z_zret K hz dX3_readPerson_13
/-! GoingOver$Falls.readItem (LGoingOver$Tape;)Z -/
abbrev rmX3_readItem : Room := { frames := 3, cells := 0, slots := 0, locals := 63 }
def pX3_readItem (R : Rf) (T : Mm) (a0 : Nat) (a1 : Nat) : Option (Int32 × Mm) :=
  if (T.1 a0 1) < 10 then bd1 (pX10_advance R T a1) (fun (T1 : Mm) => bd2 (pX3_isNewName R T1 a0 a1) (fun (u2 : Int32) (T2 : Mm) => if u2 = 0 then some (0, T2) else bd1 (pX10_name R T2 a1) (fun (u3 : Int64) => ix (T2.1 a0 1) 10 (lt (wJ T2 (R a0 7) (T2.1 a0 1).toNatClampNeg u3) (fun (T4 : Mm) => bd1 (pX10_advance R T4 a1) (fun (T5 : Mm) => bd2 (pX3_takePerson R T5 a0 a1) (fun (u6 : Int32) (T6 : Mm) => ix (T5.1 a0 1) 10 (lt (wI T6 (R a0 8) (T5.1 a0 1).toNatClampNeg u6) (fun (T7 : Mm) => ix (T7.1 a0 1) 10 (if (T7.1 (R a0 8) (T7.1 a0 1).toNatClampNeg) = (-1) then some (0, T7) else bd2 (pX10_takeNumber R T7 a1 1 20) (fun (u8 : Int32) (T8 : Mm) => ix (T7.1 a0 1) 10 (lt (wI T8 (R a0 9) (T7.1 a0 1).toNatClampNeg u8) (fun (T9 : Mm) => ix (T9.1 a0 1) 10 (if (T9.1 (R a0 9) (T9.1 a0 1).toNatClampNeg) = (-1) then some (0, T9) else lt (wI T9 a0 1 ((T9.1 a0 1) + 1)) (fun (T10 : Mm) => some (1, T10)))))))))))))))) else bd2 (pX10_fail R T a1 4) (fun (u11 : Int32) (T11 : Mm) => bz u11 (some (u11, T11)))
set_option maxRecDepth 100000 in
set_option maxHeartbeats 4000000 in
theorem mX3_readItem {g : Gl} {R : Rf} {T : Mm} {a0 : Nat} {a1 : Nat} (l : Launch) (hR : Ty g R) (k0 : kd g a0 = 3) (k1 : kd g a1 = 10) {r : Int32 × Mm} (h : pX3_readItem R T a0 a1 = some r) : MI l g yX3_readItem cX3_readItem 2 (some .boolean) rmX3_readItem [.ref (g.2.2.1 a0), .ref (g.2.2.1 a1)] R T r.1 R r.2 := by
  refine z_metI (own := RX3) (lv := [some (.ref (g.2.2.1 a0)), some (.ref (g.2.2.1 a1))]) (by decide +kernel) rfl rfl rfl (fun X K => ?_)
  unfold pX3_readItem at h
  refine z_aload_n K dX3_readItem_0 rfl ?_
  refine z_getI K clX3 k0 1 rfl rfl q250 dX3_readItem_1 ?_
  refine z_bipush K 10 dX3_readItem_4 rfl ?_
  refine z_icmp_lt K 15 dX3_readItem_6 (by decide) (fun c => ?_) (fun c => ?_)
  · have h := ite_t h c
    refine z_aload_n K dX3_readItem_15 rfl ?_
    obtain ⟨T1, hc, h⟩ := bd1_e h
    refine z_callVV K (mX10_advance l hR k1 hc) clX10 k1 ceX10_advance q640 ⟨rfl, rfl, rfl, rfl⟩ rfl rfl rfl dX3_readItem_16 ?_
    refine z_aload_n K dX3_readItem_19 rfl ?_
    refine z_aload_n K dX3_readItem_20 rfl ?_
    obtain ⟨u2, T2, hc, h⟩ := bd2_e h
    refine z_callVI K (mX3_isNewName l hR k0 k1 hc) clX3 k0 ceX3_isNewName q666 ⟨rfl, rfl, rfl, rfl⟩ rfl rfl rfl dX3_readItem_21 ?_
    refine z_if_ne K 29 dX3_readItem_24 (by decide) (fun c => ?_) (fun c => ?_)
    · have h := ite_f h c
      refine z_aload_n K dX3_readItem_29 rfl ?_
      refine z_getR K clX3 k0 7 rfl rfl q272 dX3_readItem_30 ?_
      refine z_aload_n K dX3_readItem_33 rfl ?_
      refine z_getI K clX3 k0 1 rfl rfl q250 dX3_readItem_34 ?_
      refine z_aload_n K dX3_readItem_37 rfl ?_
      obtain ⟨u3, hc, h⟩ := bd1_e h
      refine z_callVL K (mX10_name l hR k1 hc) clX10 k1 ceX10_name q674 ⟨rfl, rfl, rfl, rfl⟩ rfl rfl rfl dX3_readItem_38 ?_
      obtain ⟨hi, h⟩ := ix_e h
      refine z_last K (hR.at (k := 7) (t := 30010) k0 rfl rfl) rfl rfl rfl hi dX3_readItem_41 ?_
      refine z_aload_n K dX3_readItem_42 rfl ?_
      obtain ⟨T5, hc, h⟩ := bd1_e h
      refine z_callVV K (mX10_advance l hR k1 hc) clX10 k1 ceX10_advance q640 ⟨rfl, rfl, rfl, rfl⟩ rfl rfl rfl dX3_readItem_43 ?_
      refine z_aload_n K dX3_readItem_46 rfl ?_
      refine z_getR K clX3 k0 8 rfl rfl q273 dX3_readItem_47 ?_
      refine z_aload_n K dX3_readItem_50 rfl ?_
      refine z_getI K clX3 k0 1 rfl rfl q250 dX3_readItem_51 ?_
      refine z_aload_n K dX3_readItem_54 rfl ?_
      refine z_aload_n K dX3_readItem_55 rfl ?_
      obtain ⟨u6, T6, hc, h⟩ := bd2_e h
      refine z_callVI K (mX3_takePerson l hR k0 k1 hc) clX3 k0 ceX3_takePerson q690 ⟨rfl, rfl, rfl, rfl⟩ rfl rfl rfl dX3_readItem_56 ?_
      obtain ⟨hi, h⟩ := ix_e h
      refine z_iast K (hR.at (k := 8) (t := 20010) k0 rfl rfl) rfl rfl rfl hi dX3_readItem_59 ?_
      refine z_aload_n K dX3_readItem_60 rfl ?_
      refine z_getR K clX3 k0 8 rfl rfl q273 dX3_readItem_61 ?_
      refine z_aload_n K dX3_readItem_64 rfl ?_
      refine z_getI K clX3 k0 1 rfl rfl q250 dX3_readItem_65 ?_
      obtain ⟨hi, h⟩ := ix_e h
      refine z_iald K (hR.at (k := 8) (t := 20010) k0 rfl rfl) rfl rfl rfl hi dX3_readItem_68 ?_
      refine z_iconst K (-1) dX3_readItem_69 rfl ?_
      refine z_icmp_ne K 75 dX3_readItem_70 (by decide) (fun c => ?_) (fun c => ?_)
      · have h := ite_f h c
        refine z_aload_n K dX3_readItem_75 rfl ?_
        refine z_getR K clX3 k0 9 rfl rfl q276 dX3_readItem_76 ?_
        refine z_aload_n K dX3_readItem_79 rfl ?_
        refine z_getI K clX3 k0 1 rfl rfl q250 dX3_readItem_80 ?_
        refine z_aload_n K dX3_readItem_83 rfl ?_
        refine z_iconst K 1 dX3_readItem_84 rfl ?_
        refine z_bipush K 20 dX3_readItem_85 rfl ?_
        obtain ⟨u8, T8, hc, h⟩ := bd2_e h
        refine z_callVI K (mX10_takeNumber l hR k1 hc) clX10 k1 ceX10_takeNumber q644 ⟨rfl, rfl, rfl, rfl⟩ rfl rfl rfl dX3_readItem_87 ?_
        obtain ⟨hi, h⟩ := ix_e h
        refine z_iast K (hR.at (k := 9) (t := 20010) k0 rfl rfl) rfl rfl rfl hi dX3_readItem_90 ?_
        refine z_aload_n K dX3_readItem_91 rfl ?_
        refine z_getR K clX3 k0 9 rfl rfl q276 dX3_readItem_92 ?_
        refine z_aload_n K dX3_readItem_95 rfl ?_
        refine z_getI K clX3 k0 1 rfl rfl q250 dX3_readItem_96 ?_
        obtain ⟨hi, h⟩ := ix_e h
        refine z_iald K (hR.at (k := 9) (t := 20010) k0 rfl rfl) rfl rfl rfl hi dX3_readItem_99 ?_
        refine z_iconst K (-1) dX3_readItem_100 rfl ?_
        refine z_icmp_ne K 106 dX3_readItem_101 (by decide) (fun c => ?_) (fun c => ?_)
        · have h := ite_f h c
          refine z_aload_n K dX3_readItem_106 rfl ?_
          refine z_dup K dX3_readItem_107 rfl ?_
          refine z_getI K clX3 k0 1 rfl rfl q250 dX3_readItem_108 ?_
          refine z_iconst K 1 dX3_readItem_111 rfl ?_
          refine z_iadd K dX3_readItem_112 ?_
          refine z_putI K clX3 tyX3_ok nmX3 k0 1 rfl rfl q250 rfl rfl rfl dX3_readItem_113 ?_
          refine z_iconst K 1 dX3_readItem_116 rfl ?_
          obtain rfl := Option.some.inj h
          exact z_zret (v := 1) K rfl dX3_readItem_117
        · have h := ite_t h c
          refine z_iconst K 0 dX3_readItem_104 rfl ?_
          obtain rfl := Option.some.inj h
          exact z_zret (v := 0) K rfl dX3_readItem_105
      · have h := ite_t h c
        refine z_iconst K 0 dX3_readItem_73 rfl ?_
        obtain rfl := Option.some.inj h
        exact z_zret (v := 0) K rfl dX3_readItem_74
    · have h := ite_t h c
      refine z_iconst K 0 dX3_readItem_27 rfl ?_
      obtain rfl := Option.some.inj h
      exact z_zret (v := 0) K rfl dX3_readItem_28
  · have h := ite_f h c
    refine z_aload_n K dX3_readItem_9 rfl ?_
    refine z_iconst K 4 dX3_readItem_10 rfl ?_
    obtain ⟨u11, T11, hc, h⟩ := bd2_e h
    refine z_callVI K (mX10_fail l hR k1 hc) clX10 k1 ceX10_fail q636 ⟨rfl, rfl, rfl, rfl⟩ rfl rfl rfl dX3_readItem_11 ?_
    obtain ⟨hz, hf, h⟩ := bz_e h
    obtain rfl := Option.some.inj h
    exact z_zret K hz dX3_readItem_14
/-! GoingOver$Falls.mayBeJoined (II)Z -/
abbrev rmX3_mayBeJoined : Room := { frames := 1, cells := 0, slots := 0, locals := 23 }
def pX3_mayBeJoined (R : Rf) (T : Mm) (a0 : Nat) (x1 : Int32) (x2 : Int32) : Option (Int32) :=
  if x1 = x2 then some 0 else ix x1 10 (ix x2 10 (if (T.1 (R a0 8) x1.toNatClampNeg) = (T.1 (R a0 8) x2.toNatClampNeg) then bd1 (pX3_joinsAt R T a0 x1) (fun (u1 : Int32) => bd1 (pX3_joinsAt R T a0 x2) (fun (u2 : Int32) => if (u1 &&& u2) = 0 then some 1 else some 0)) else some 0))
set_option maxRecDepth 100000 in
set_option maxHeartbeats 4000000 in
theorem mX3_mayBeJoined {g : Gl} {R : Rf} {T : Mm} {a0 : Nat} {x1 : Int32} {x2 : Int32} (l : Launch) (hR : Ty g R) (k0 : kd g a0 = 3) {r : Int32} (h : pX3_mayBeJoined R T a0 x1 x2 = some r) : MI l g yX3_mayBeJoined cX3_mayBeJoined 3 (some .boolean) rmX3_mayBeJoined [.ref (g.2.2.1 a0), .int x1, .int x2] R T r R T := by
  refine z_metI (own := RX3) (lv := [some (.ref (g.2.2.1 a0)), some (.int x1), some (.int x2)]) (by decide +kernel) rfl rfl rfl (fun X K => ?_)
  unfold pX3_mayBeJoined at h
  refine z_iload_n K dX3_mayBeJoined_0 rfl ?_
  refine z_iload_n K dX3_mayBeJoined_1 rfl ?_
  refine z_icmp_eq K 38 dX3_mayBeJoined_2 (by decide) (fun c => ?_) (fun c => ?_)
  · have h := ite_t h c
    refine z_iconst K 0 dX3_mayBeJoined_38 rfl ?_
    obtain rfl := Option.some.inj h
    exact z_zret (v := 0) K rfl dX3_mayBeJoined_39
  · have h := ite_f h c
    refine z_aload_n K dX3_mayBeJoined_5 rfl ?_
    refine z_getR K clX3 k0 8 rfl rfl q273 dX3_mayBeJoined_6 ?_
    refine z_iload_n K dX3_mayBeJoined_9 rfl ?_
    obtain ⟨hi, h⟩ := ix_e h
    refine z_iald K (hR.at (k := 8) (t := 20010) k0 rfl rfl) rfl rfl rfl hi dX3_mayBeJoined_10 ?_
    refine z_aload_n K dX3_mayBeJoined_11 rfl ?_
    refine z_getR K clX3 k0 8 rfl rfl q273 dX3_mayBeJoined_12 ?_
    refine z_iload_n K dX3_mayBeJoined_15 rfl ?_
    obtain ⟨hi, h⟩ := ix_e h
    refine z_iald K (hR.at (k := 8) (t := 20010) k0 rfl rfl) rfl rfl rfl hi dX3_mayBeJoined_16 ?_
    refine z_icmp_ne K 38 dX3_mayBeJoined_17 (by decide) (fun c => ?_) (fun c => ?_)
    · have h := ite_f h c
      refine z_iconst K 0 dX3_mayBeJoined_38 rfl ?_
      obtain rfl := Option.some.inj h
      exact z_zret (v := 0) K rfl dX3_mayBeJoined_39
    · have h := ite_t h c
      refine z_aload_n K dX3_mayBeJoined_20 rfl ?_
      refine z_iload_n K dX3_mayBeJoined_21 rfl ?_
      obtain ⟨u1, hc, h⟩ := bd1_e h
      refine z_callVI K (mX3_joinsAt l hR k0 hc) clX3 k0 ceX3_joinsAt q709 ⟨rfl, rfl, rfl, rfl⟩ rfl rfl rfl dX3_mayBeJoined_22 ?_
      refine z_aload_n K dX3_mayBeJoined_25 rfl ?_
      refine z_iload_n K dX3_mayBeJoined_26 rfl ?_
      obtain ⟨u2, hc, h⟩ := bd1_e h
      refine z_callVI K (mX3_joinsAt l hR k0 hc) clX3 k0 ceX3_joinsAt q709 ⟨rfl, rfl, rfl, rfl⟩ rfl rfl rfl dX3_mayBeJoined_27 ?_
      refine z_iand K dX3_mayBeJoined_30 ?_
      refine z_if_ne K 38 dX3_mayBeJoined_31 (by decide) (fun c => ?_) (fun c => ?_)
      · have h := ite_f h c
        refine z_iconst K 0 dX3_mayBeJoined_38 rfl ?_
        obtain rfl := Option.some.inj h
        exact z_zret (v := 0) K rfl dX3_mayBeJoined_39
      · have h := ite_t h c
        refine z_iconst K 1 dX3_mayBeJoined_34 rfl ?_
        refine z_goto K 39 dX3_mayBeJoined_35 (by decide) ?_
        obtain rfl := Option.some.inj h
        exact z_zret (v := 1) K rfl dX3_mayBeJoined_39
/-! GoingOver$Falls.readJoin (LGoingOver$Tape;)Z -/
abbrev rmX3_readJoin : Room := { frames := 3, cells := 0, slots := 0, locals := 63 }
def pX3_readJoin_72 (R : Rf) (a0 : Nat) (a1 : Nat) (T : Mm) (x2 : Int32) (x3 : Int32) : Option (Int32 × Mm) :=
  bd2 (pX3_takeItem R T a0 a1) (fun (u4 : Int32) (T4 : Mm) => if u4 = (-1) then some (0, T4) else ix (T4.1 a0 2) 16 (lt (wI T4 (R a0 10) (T4.1 a0 2).toNatClampNeg x2) (fun (T5 : Mm) => ix (T5.1 a0 2) 16 (lt (wI T5 (R a0 11) (T5.1 a0 2).toNatClampNeg x3) (fun (T6 : Mm) => bd2 (pX10_takeNumber R T6 a1 1 30) (fun (u7 : Int32) (T7 : Mm) => ix (T6.1 a0 2) 16 (lt (wI T7 (R a0 12) (T6.1 a0 2).toNatClampNeg u7) (fun (T8 : Mm) => ix (T8.1 a0 2) 16 (if (T8.1 (R a0 12) (T8.1 a0 2).toNatClampNeg) = (-1) then some (0, T8) else lt (wI T8 a0 2 ((T8.1 a0 2) + 1)) (fun (T9 : Mm) => some (1, T9)))))))))))
def pX3_readJoin_51 (R : Rf) (a0 : Nat) (a1 : Nat) (T : Mm) (x2 : Int32) (xs0 : Int32) : Option (Int32 × Mm) :=
  if xs0 = (-1) then pX3_readJoin_72 R a0 a1 T x2 xs0 else bd1 (pX3_mayBeJoined R T a0 x2 xs0) (fun (u10 : Int32) => if u10 = 0 then bd2 (pX10_fail R T a1 3) (fun (u11 : Int32) (T11 : Mm) => bz u11 (some (u11, T11))) else pX3_readJoin_72 R a0 a1 T x2 xs0)
def pX3_readJoin (R : Rf) (T : Mm) (a0 : Nat) (a1 : Nat) : Option (Int32 × Mm) :=
  if (T.1 a0 2) < 16 then bd1 (pX10_advance R T a1) (fun (T1 : Mm) => bd2 (pX3_takeItem R T1 a0 a1) (fun (u2 : Int32) (T2 : Mm) => if u2 = (-1) then some (0, T2) else bd1 (pX10_atName R T2 a1) (fun (u3 : Int32) => if u3 = 0 then pX3_readJoin_51 R a0 a1 T2 u2 (-1) else bd1 (pX10_name R T2 a1) (fun (u12 : Int64) => bd1 (pX3_itemNamed R T2 a0 u12) (fun (u13 : Int32) => pX3_readJoin_51 R a0 a1 T2 u2 u13))))) else bd2 (pX10_fail R T a1 4) (fun (u14 : Int32) (T14 : Mm) => bz u14 (some (u14, T14)))
set_option maxRecDepth 100000 in
set_option maxHeartbeats 4000000 in
theorem wX3_readJoin_72 {X : Cx} {g : Gl} {l : Launch} {R : Rf} {a0 : Nat} {a1 : Nat} (K : Ok X g l cX3_readJoin RX3 4 (some .boolean) rmX3_readJoin) (hR : Ty g R) (k0 : kd g a0 = 3) (k1 : kd g a1 = 10) {r : Int32 × Mm} (T : Mm) (x2 : Int32) (x3 : Int32) (h : pX3_readJoin_72 R a0 a1 T x2 x3 = some r) : Zj X g 4 (QI X g r.1 R r.2) R T [some (.ref (g.2.2.1 a0)), some (.ref (g.2.2.1 a1)), some (.int x2), some (.int x3)] [] 72 := by
  unfold pX3_readJoin_72 at h
  refine z_aload_n K dX3_readJoin_72 rfl ?_
  refine z_aload_n K dX3_readJoin_73 rfl ?_
  obtain ⟨u4, T4, hc, h⟩ := bd2_e h
  refine z_callVI K (mX3_takeItem l hR k0 k1 hc) clX3 k0 ceX3_takeItem q701 ⟨rfl, rfl, rfl, rfl⟩ rfl rfl rfl dX3_readJoin_74 ?_
  refine z_iconst K (-1) dX3_readJoin_77 rfl ?_
  refine z_icmp_ne K 83 dX3_readJoin_78 (by decide) (fun c => ?_) (fun c => ?_)
  · have h := ite_f h c
    refine z_aload_n K dX3_readJoin_83 rfl ?_
    refine z_getR K clX3 k0 10 rfl rfl q279 dX3_readJoin_84 ?_
    refine z_aload_n K dX3_readJoin_87 rfl ?_
    refine z_getI K clX3 k0 2 rfl rfl q255 dX3_readJoin_88 ?_
    refine z_iload_n K dX3_readJoin_91 rfl ?_
    obtain ⟨hi, h⟩ := ix_e h
    refine z_iast K (hR.at (k := 10) (t := 20016) k0 rfl rfl) rfl rfl rfl hi dX3_readJoin_92 ?_
    refine z_aload_n K dX3_readJoin_93 rfl ?_
    refine z_getR K clX3 k0 11 rfl rfl q283 dX3_readJoin_94 ?_
    refine z_aload_n K dX3_readJoin_97 rfl ?_
    refine z_getI K clX3 k0 2 rfl rfl q255 dX3_readJoin_98 ?_
    refine z_iload_n K dX3_readJoin_101 rfl ?_
    obtain ⟨hi, h⟩ := ix_e h
    refine z_iast K (hR.at (k := 11) (t := 20016) k0 rfl rfl) rfl rfl rfl hi dX3_readJoin_102 ?_
    refine z_aload_n K dX3_readJoin_103 rfl ?_
    refine z_getR K clX3 k0 12 rfl rfl q287 dX3_readJoin_104 ?_
    refine z_aload_n K dX3_readJoin_107 rfl ?_
    refine z_getI K clX3 k0 2 rfl rfl q255 dX3_readJoin_108 ?_
    refine z_aload_n K dX3_readJoin_111 rfl ?_
    refine z_iconst K 1 dX3_readJoin_112 rfl ?_
    refine z_bipush K 30 dX3_readJoin_113 rfl ?_
    obtain ⟨u7, T7, hc, h⟩ := bd2_e h
    refine z_callVI K (mX10_takeNumber l hR k1 hc) clX10 k1 ceX10_takeNumber q644 ⟨rfl, rfl, rfl, rfl⟩ rfl rfl rfl dX3_readJoin_115 ?_
    obtain ⟨hi, h⟩ := ix_e h
    refine z_iast K (hR.at (k := 12) (t := 20016) k0 rfl rfl) rfl rfl rfl hi dX3_readJoin_118 ?_
    refine z_aload_n K dX3_readJoin_119 rfl ?_
    refine z_getR K clX3 k0 12 rfl rfl q287 dX3_readJoin_120 ?_
    refine z_aload_n K dX3_readJoin_123 rfl ?_
    refine z_getI K clX3 k0 2 rfl rfl q255 dX3_readJoin_124 ?_
    obtain ⟨hi, h⟩ := ix_e h
    refine z_iald K (hR.at (k := 12) (t := 20016) k0 rfl rfl) rfl rfl rfl hi dX3_readJoin_127 ?_
    refine z_iconst K (-1) dX3_readJoin_128 rfl ?_
    refine z_icmp_ne K 134 dX3_readJoin_129 (by decide) (fun c => ?_) (fun c => ?_)
    · have h := ite_f h c
      refine z_aload_n K dX3_readJoin_134 rfl ?_
      refine z_dup K dX3_readJoin_135 rfl ?_
      refine z_getI K clX3 k0 2 rfl rfl q255 dX3_readJoin_136 ?_
      refine z_iconst K 1 dX3_readJoin_139 rfl ?_
      refine z_iadd K dX3_readJoin_140 ?_
      refine z_putI K clX3 tyX3_ok nmX3 k0 2 rfl rfl q255 rfl rfl rfl dX3_readJoin_141 ?_
      refine z_iconst K 1 dX3_readJoin_144 rfl ?_
      obtain rfl := Option.some.inj h
      exact z_zret (v := 1) K rfl dX3_readJoin_145
    · have h := ite_t h c
      refine z_iconst K 0 dX3_readJoin_132 rfl ?_
      obtain rfl := Option.some.inj h
      exact z_zret (v := 0) K rfl dX3_readJoin_133
  · have h := ite_t h c
    refine z_iconst K 0 dX3_readJoin_81 rfl ?_
    obtain rfl := Option.some.inj h
    exact z_zret (v := 0) K rfl dX3_readJoin_82
set_option maxRecDepth 100000 in
set_option maxHeartbeats 4000000 in
theorem wX3_readJoin_51 {X : Cx} {g : Gl} {l : Launch} {R : Rf} {a0 : Nat} {a1 : Nat} (K : Ok X g l cX3_readJoin RX3 4 (some .boolean) rmX3_readJoin) (hR : Ty g R) (k0 : kd g a0 = 3) (k1 : kd g a1 = 10) {r : Int32 × Mm} (T : Mm) (x2 : Int32) (xs0 : Int32) (h : pX3_readJoin_51 R a0 a1 T x2 xs0 = some r) : Zj X g 4 (QI X g r.1 R r.2) R T [some (.ref (g.2.2.1 a0)), some (.ref (g.2.2.1 a1)), some (.int x2), none] [.int xs0] 51 := by
  unfold pX3_readJoin_51 at h
  refine z_istore_n K dX3_readJoin_51 rfl rfl ?_
  refine z_iload_n K dX3_readJoin_52 rfl ?_
  refine z_iconst K (-1) dX3_readJoin_53 rfl ?_
  refine z_icmp_eq K 72 dX3_readJoin_54 (by decide) (fun c => ?_) (fun c => ?_)
  · have h := ite_t h c
    refine Zj.mask [true, true, true, true] ?_
    exact wX3_readJoin_72 K hR k0 k1 _ _ _ h
  · have h := ite_f h c
    refine z_aload_n K dX3_readJoin_57 rfl ?_
    refine z_iload_n K dX3_readJoin_58 rfl ?_
    refine z_iload_n K dX3_readJoin_59 rfl ?_
    obtain ⟨u10, hc, h⟩ := bd1_e h
    refine z_callVI K (mX3_mayBeJoined l hR k0 hc) clX3 k0 ceX3_mayBeJoined q705 ⟨rfl, rfl, rfl, rfl⟩ rfl rfl rfl dX3_readJoin_60 ?_
    refine z_if_ne K 72 dX3_readJoin_63 (by decide) (fun c => ?_) (fun c => ?_)
    · have h := ite_f h c
      refine Zj.mask [true, true, true, true] ?_
      exact wX3_readJoin_72 K hR k0 k1 _ _ _ h
    · have h := ite_t h c
      refine z_aload_n K dX3_readJoin_66 rfl ?_
      refine z_iconst K 3 dX3_readJoin_67 rfl ?_
      obtain ⟨u11, T11, hc, h⟩ := bd2_e h
      refine z_callVI K (mX10_fail l hR k1 hc) clX10 k1 ceX10_fail q636 ⟨rfl, rfl, rfl, rfl⟩ rfl rfl rfl dX3_readJoin_68 ?_
      obtain ⟨hz, hf, h⟩ := bz_e h
      obtain rfl := Option.some.inj h
      exact z_zret K hz dX3_readJoin_71
set_option maxRecDepth 100000 in
set_option maxHeartbeats 4000000 in
theorem mX3_readJoin {g : Gl} {R : Rf} {T : Mm} {a0 : Nat} {a1 : Nat} (l : Launch) (hR : Ty g R) (k0 : kd g a0 = 3) (k1 : kd g a1 = 10) {r : Int32 × Mm} (h : pX3_readJoin R T a0 a1 = some r) : MI l g yX3_readJoin cX3_readJoin 4 (some .boolean) rmX3_readJoin [.ref (g.2.2.1 a0), .ref (g.2.2.1 a1)] R T r.1 R r.2 := by
  refine z_metI (own := RX3) (lv := [some (.ref (g.2.2.1 a0)), some (.ref (g.2.2.1 a1)), none, none]) (by decide +kernel) rfl rfl rfl (fun X K => ?_)
  unfold pX3_readJoin at h
  refine z_aload_n K dX3_readJoin_0 rfl ?_
  refine z_getI K clX3 k0 2 rfl rfl q255 dX3_readJoin_1 ?_
  refine z_bipush K 16 dX3_readJoin_4 rfl ?_
  refine z_icmp_lt K 15 dX3_readJoin_6 (by decide) (fun c => ?_) (fun c => ?_)
  · have h := ite_t h c
    refine z_aload_n K dX3_readJoin_15 rfl ?_
    obtain ⟨T1, hc, h⟩ := bd1_e h
    refine z_callVV K (mX10_advance l hR k1 hc) clX10 k1 ceX10_advance q640 ⟨rfl, rfl, rfl, rfl⟩ rfl rfl rfl dX3_readJoin_16 ?_
    refine z_aload_n K dX3_readJoin_19 rfl ?_
    refine z_aload_n K dX3_readJoin_20 rfl ?_
    obtain ⟨u2, T2, hc, h⟩ := bd2_e h
    refine z_callVI K (mX3_takeItem l hR k0 k1 hc) clX3 k0 ceX3_takeItem q701 ⟨rfl, rfl, rfl, rfl⟩ rfl rfl rfl dX3_readJoin_21 ?_
    refine z_istore_n K dX3_readJoin_24 rfl rfl ?_
    refine z_iload_n K dX3_readJoin_25 rfl ?_
    refine z_iconst K (-1) dX3_readJoin_26 rfl ?_
    refine z_icmp_ne K 32 dX3_readJoin_27 (by decide) (fun c => ?_) (fun c => ?_)
    · have h := ite_f h c
      refine z_aload_n K dX3_readJoin_32 rfl ?_
      obtain ⟨u3, hc, h⟩ := bd1_e h
      refine z_callVI K (mX10_atName l hR k1 hc) clX10 k1 ceX10_atName q670 ⟨rfl, rfl, rfl, rfl⟩ rfl rfl rfl dX3_readJoin_33 ?_
      refine z_if_eq K 50 dX3_readJoin_36 (by decide) (fun c => ?_) (fun c => ?_)
      · have h := ite_t h c
        refine z_iconst K (-1) dX3_readJoin_50 rfl ?_
        refine Zj.mask [true, true, true, false] ?_
        exact wX3_readJoin_51 K hR k0 k1 _ _ _ h
      · have h := ite_f h c
        refine z_aload_n K dX3_readJoin_39 rfl ?_
        refine z_aload_n K dX3_readJoin_40 rfl ?_
        obtain ⟨u12, hc, h⟩ := bd1_e h
        refine z_callVL K (mX10_name l hR k1 hc) clX10 k1 ceX10_name q674 ⟨rfl, rfl, rfl, rfl⟩ rfl rfl rfl dX3_readJoin_41 ?_
        obtain ⟨u13, hc, h⟩ := bd1_e h
        refine z_callVI K (mX3_itemNamed l hR k0 hc) clX3 k0 ceX3_itemNamed q682 ⟨rfl, rfl, rfl, rfl⟩ rfl rfl rfl dX3_readJoin_44 ?_
        refine z_goto K 51 dX3_readJoin_47 (by decide) ?_
        refine Zj.mask [true, true, true, false] ?_
        exact wX3_readJoin_51 K hR k0 k1 _ _ _ h
    · have h := ite_t h c
      refine z_iconst K 0 dX3_readJoin_30 rfl ?_
      obtain rfl := Option.some.inj h
      exact z_zret (v := 0) K rfl dX3_readJoin_31
  · have h := ite_f h c
    refine z_aload_n K dX3_readJoin_9 rfl ?_
    refine z_iconst K 4 dX3_readJoin_10 rfl ?_
    obtain ⟨u14, T14, hc, h⟩ := bd2_e h
    refine z_callVI K (mX10_fail l hR k1 hc) clX10 k1 ceX10_fail q636 ⟨rfl, rfl, rfl, rfl⟩ rfl rfl rfl dX3_readJoin_11 ?_
    obtain ⟨hz, hf, h⟩ := bz_e h
    obtain rfl := Option.some.inj h
    exact z_zret K hz dX3_readJoin_14
/-! GoingOver$Falls.readLine (LGoingOver$Tape;)Z -/
abbrev rmX3_readLine : Room := { frames := 4, cells := 0, slots := 0, locals := 86 }
def pX3_readLine (R : Rf) (T : Mm) (a0 : Nat) (a1 : Nat) : Option (Int32 × Mm) :=
  bd1 (pX10_keyword R T a1) (fun (u1 : Int32) => if u1 = 0 then bd2 (pX3_readFalls R T a0 a1) (fun (u3 : Int32) (T3 : Mm) => if u3 = 0 then some (0, T3) else bd2 (pX10_takeMark R T3 a1 59) (fun (u4 : Int32) (T4 : Mm) => if u4 = 0 then some (0, T4) else some (1, T4))) else if u1 = 1 then bd2 (pX3_readRain R T a0 a1) (fun (u5 : Int32) (T5 : Mm) => if u5 = 0 then some (0, T5) else bd2 (pX10_takeMark R T5 a1 59) (fun (u6 : Int32) (T6 : Mm) => if u6 = 0 then some (0, T6) else some (1, T6))) else if u1 = 2 then bd2 (pX3_readPerson R T a0 a1) (fun (u7 : Int32) (T7 : Mm) => if u7 = 0 then some (0, T7) else bd2 (pX10_takeMark R T7 a1 59) (fun (u8 : Int32) (T8 : Mm) => if u8 = 0 then some (0, T8) else some (1, T8))) else if u1 = 3 then bd2 (pX3_readItem R T a0 a1) (fun (u9 : Int32) (T9 : Mm) => if u9 = 0 then some (0, T9) else bd2 (pX10_takeMark R T9 a1 59) (fun (u10 : Int32) (T10 : Mm) => if u10 = 0 then some (0, T10) else some (1, T10))) else if u1 = 4 then bd2 (pX3_readJoin R T a0 a1) (fun (u11 : Int32) (T11 : Mm) => if u11 = 0 then some (0, T11) else bd2 (pX10_takeMark R T11 a1 59) (fun (u12 : Int32) (T12 : Mm) => if u12 = 0 then some (0, T12) else some (1, T12))) else bd2 (pX10_fail R T a1 1) (fun (u2 : Int32) (T2 : Mm) => bz u2 (some (u2, T2))))
set_option maxRecDepth 100000 in
set_option maxHeartbeats 4000000 in
theorem mX3_readLine {g : Gl} {R : Rf} {T : Mm} {a0 : Nat} {a1 : Nat} (l : Launch) (hR : Ty g R) (k0 : kd g a0 = 3) (k1 : kd g a1 = 10) {r : Int32 × Mm} (h : pX3_readLine R T a0 a1 = some r) : MI l g yX3_readLine cX3_readLine 2 (some .boolean) rmX3_readLine [.ref (g.2.2.1 a0), .ref (g.2.2.1 a1)] R T r.1 R r.2 := by
  refine z_metI (own := RX3) (lv := [some (.ref (g.2.2.1 a0)), some (.ref (g.2.2.1 a1))]) (by decide +kernel) rfl rfl rfl (fun X K => ?_)
  unfold pX3_readLine at h
  refine z_aload_n K dX3_readLine_0 rfl ?_
  obtain ⟨u1, hc, h⟩ := bd1_e h
  refine z_callVI K (mX10_keyword l hR k1 hc) clX10 k1 ceX10_keyword q628 ⟨rfl, rfl, rfl, rfl⟩ rfl rfl rfl dX3_readLine_1 ?_
  rcases ite_or h with ⟨c0, h⟩ | ⟨c0, h⟩
  · refine z_tin K 40 0 c0 dX3_readLine_4 (by decide) (by decide) rfl (by decide) ?_
    refine z_aload_n K dX3_readLine_40 rfl ?_
    refine z_aload_n K dX3_readLine_41 rfl ?_
    obtain ⟨u3, T3, hc, h⟩ := bd2_e h
    refine z_callVI K (mX3_readFalls l hR k0 k1 hc) clX3 k0 ceX3_readFalls q632 ⟨rfl, rfl, rfl, rfl⟩ rfl rfl rfl dX3_readLine_42 ?_
    refine z_if_eq K 61 dX3_readLine_45 (by decide) (fun c => ?_) (fun c => ?_)
    · have h := ite_t h c
      refine z_iconst K 0 dX3_readLine_61 rfl ?_
      obtain rfl := Option.some.inj h
      exact z_zret (v := 0) K rfl dX3_readLine_62
    · have h := ite_f h c
      refine z_aload_n K dX3_readLine_48 rfl ?_
      refine z_bipush K 59 dX3_readLine_49 rfl ?_
      obtain ⟨u4, T4, hc, h⟩ := bd2_e h
      refine z_callVI K (mX10_takeMark l hR k1 hc) clX10 k1 ceX10_takeMark q650 ⟨rfl, rfl, rfl, rfl⟩ rfl rfl rfl dX3_readLine_51 ?_
      refine z_if_eq K 61 dX3_readLine_54 (by decide) (fun c => ?_) (fun c => ?_)
      · have h := ite_t h c
        refine z_iconst K 0 dX3_readLine_61 rfl ?_
        obtain rfl := Option.some.inj h
        exact z_zret (v := 0) K rfl dX3_readLine_62
      · have h := ite_f h c
        refine z_iconst K 1 dX3_readLine_57 rfl ?_
        refine z_goto K 62 dX3_readLine_58 (by decide) ?_
        obtain rfl := Option.some.inj h
        exact z_zret (v := 1) K rfl dX3_readLine_62
  rcases ite_or h with ⟨c1, h⟩ | ⟨c1, h⟩
  · refine z_tin K 63 1 c1 dX3_readLine_4 (by decide) (by decide) rfl (by decide) ?_
    refine z_aload_n K dX3_readLine_63 rfl ?_
    refine z_aload_n K dX3_readLine_64 rfl ?_
    obtain ⟨u5, T5, hc, h⟩ := bd2_e h
    refine z_callVI K (mX3_readRain l hR k0 k1 hc) clX3 k0 ceX3_readRain q658 ⟨rfl, rfl, rfl, rfl⟩ rfl rfl rfl dX3_readLine_65 ?_
    refine z_if_eq K 84 dX3_readLine_68 (by decide) (fun c => ?_) (fun c => ?_)
    · have h := ite_t h c
      refine z_iconst K 0 dX3_readLine_84 rfl ?_
      obtain rfl := Option.some.inj h
      exact z_zret (v := 0) K rfl dX3_readLine_85
    · have h := ite_f h c
      refine z_aload_n K dX3_readLine_71 rfl ?_
      refine z_bipush K 59 dX3_readLine_72 rfl ?_
      obtain ⟨u6, T6, hc, h⟩ := bd2_e h
      refine z_callVI K (mX10_takeMark l hR k1 hc) clX10 k1 ceX10_takeMark q650 ⟨rfl, rfl, rfl, rfl⟩ rfl rfl rfl dX3_readLine_74 ?_
      refine z_if_eq K 84 dX3_readLine_77 (by decide) (fun c => ?_) (fun c => ?_)
      · have h := ite_t h c
        refine z_iconst K 0 dX3_readLine_84 rfl ?_
        obtain rfl := Option.some.inj h
        exact z_zret (v := 0) K rfl dX3_readLine_85
      · have h := ite_f h c
        refine z_iconst K 1 dX3_readLine_80 rfl ?_
        refine z_goto K 85 dX3_readLine_81 (by decide) ?_
        obtain rfl := Option.some.inj h
        exact z_zret (v := 1) K rfl dX3_readLine_85
  rcases ite_or h with ⟨c2, h⟩ | ⟨c2, h⟩
  · refine z_tin K 86 2 c2 dX3_readLine_4 (by decide) (by decide) rfl (by decide) ?_
    refine z_aload_n K dX3_readLine_86 rfl ?_
    refine z_aload_n K dX3_readLine_87 rfl ?_
    obtain ⟨u7, T7, hc, h⟩ := bd2_e h
    refine z_callVI K (mX3_readPerson l hR k0 k1 hc) clX3 k0 ceX3_readPerson q662 ⟨rfl, rfl, rfl, rfl⟩ rfl rfl rfl dX3_readLine_88 ?_
    refine z_if_eq K 107 dX3_readLine_91 (by decide) (fun c => ?_) (fun c => ?_)
    · have h := ite_t h c
      refine z_iconst K 0 dX3_readLine_107 rfl ?_
      obtain rfl := Option.some.inj h
      exact z_zret (v := 0) K rfl dX3_readLine_108
    · have h := ite_f h c
      refine z_aload_n K dX3_readLine_94 rfl ?_
      refine z_bipush K 59 dX3_readLine_95 rfl ?_
      obtain ⟨u8, T8, hc, h⟩ := bd2_e h
      refine z_callVI K (mX10_takeMark l hR k1 hc) clX10 k1 ceX10_takeMark q650 ⟨rfl, rfl, rfl, rfl⟩ rfl rfl rfl dX3_readLine_97 ?_
      refine z_if_eq K 107 dX3_readLine_100 (by decide) (fun c => ?_) (fun c => ?_)
      · have h := ite_t h c
        refine z_iconst K 0 dX3_readLine_107 rfl ?_
        obtain rfl := Option.some.inj h
        exact z_zret (v := 0) K rfl dX3_readLine_108
      · have h := ite_f h c
        refine z_iconst K 1 dX3_readLine_103 rfl ?_
        refine z_goto K 108 dX3_readLine_104 (by decide) ?_
        obtain rfl := Option.some.inj h
        exact z_zret (v := 1) K rfl dX3_readLine_108
  rcases ite_or h with ⟨c3, h⟩ | ⟨c3, h⟩
  · refine z_tin K 109 3 c3 dX3_readLine_4 (by decide) (by decide) rfl (by decide) ?_
    refine z_aload_n K dX3_readLine_109 rfl ?_
    refine z_aload_n K dX3_readLine_110 rfl ?_
    obtain ⟨u9, T9, hc, h⟩ := bd2_e h
    refine z_callVI K (mX3_readItem l hR k0 k1 hc) clX3 k0 ceX3_readItem q686 ⟨rfl, rfl, rfl, rfl⟩ rfl rfl rfl dX3_readLine_111 ?_
    refine z_if_eq K 130 dX3_readLine_114 (by decide) (fun c => ?_) (fun c => ?_)
    · have h := ite_t h c
      refine z_iconst K 0 dX3_readLine_130 rfl ?_
      obtain rfl := Option.some.inj h
      exact z_zret (v := 0) K rfl dX3_readLine_131
    · have h := ite_f h c
      refine z_aload_n K dX3_readLine_117 rfl ?_
      refine z_bipush K 59 dX3_readLine_118 rfl ?_
      obtain ⟨u10, T10, hc, h⟩ := bd2_e h
      refine z_callVI K (mX10_takeMark l hR k1 hc) clX10 k1 ceX10_takeMark q650 ⟨rfl, rfl, rfl, rfl⟩ rfl rfl rfl dX3_readLine_120 ?_
      refine z_if_eq K 130 dX3_readLine_123 (by decide) (fun c => ?_) (fun c => ?_)
      · have h := ite_t h c
        refine z_iconst K 0 dX3_readLine_130 rfl ?_
        obtain rfl := Option.some.inj h
        exact z_zret (v := 0) K rfl dX3_readLine_131
      · have h := ite_f h c
        refine z_iconst K 1 dX3_readLine_126 rfl ?_
        refine z_goto K 131 dX3_readLine_127 (by decide) ?_
        obtain rfl := Option.some.inj h
        exact z_zret (v := 1) K rfl dX3_readLine_131
  rcases ite_or h with ⟨c4, h⟩ | ⟨c4, h⟩
  · refine z_tin K 132 4 c4 dX3_readLine_4 (by decide) (by decide) rfl (by decide) ?_
    refine z_aload_n K dX3_readLine_132 rfl ?_
    refine z_aload_n K dX3_readLine_133 rfl ?_
    obtain ⟨u11, T11, hc, h⟩ := bd2_e h
    refine z_callVI K (mX3_readJoin l hR k0 k1 hc) clX3 k0 ceX3_readJoin q697 ⟨rfl, rfl, rfl, rfl⟩ rfl rfl rfl dX3_readLine_134 ?_
    refine z_if_eq K 153 dX3_readLine_137 (by decide) (fun c => ?_) (fun c => ?_)
    · have h := ite_t h c
      refine z_iconst K 0 dX3_readLine_153 rfl ?_
      obtain rfl := Option.some.inj h
      exact z_zret (v := 0) K rfl dX3_readLine_154
    · have h := ite_f h c
      refine z_aload_n K dX3_readLine_140 rfl ?_
      refine z_bipush K 59 dX3_readLine_141 rfl ?_
      obtain ⟨u12, T12, hc, h⟩ := bd2_e h
      refine z_callVI K (mX10_takeMark l hR k1 hc) clX10 k1 ceX10_takeMark q650 ⟨rfl, rfl, rfl, rfl⟩ rfl rfl rfl dX3_readLine_143 ?_
      refine z_if_eq K 153 dX3_readLine_146 (by decide) (fun c => ?_) (fun c => ?_)
      · have h := ite_t h c
        refine z_iconst K 0 dX3_readLine_153 rfl ?_
        obtain rfl := Option.some.inj h
        exact z_zret (v := 0) K rfl dX3_readLine_154
      · have h := ite_f h c
        refine z_iconst K 1 dX3_readLine_149 rfl ?_
        refine z_goto K 154 dX3_readLine_150 (by decide) ?_
        obtain rfl := Option.some.inj h
        exact z_zret (v := 1) K rfl dX3_readLine_154
  refine z_tout K 155 5 (lt_p (lt_s (lt_s (lt_s (lt_s (lt_s lt_0 c0) c1) c2) c3) c4)) dX3_readLine_4 (by decide) (by decide) (by decide) ?_
  refine z_aload_n K dX3_readLine_155 rfl ?_
  refine z_iconst K 1 dX3_readLine_156 rfl ?_
  obtain ⟨u2, T2, hc, h⟩ := bd2_e h
  refine z_callVI K (mX10_fail l hR k1 hc) clX10 k1 ceX10_fail q636 ⟨rfl, rfl, rfl, rfl⟩ rfl rfl rfl dX3_readLine_157 ?_
  obtain ⟨hz, hf, h⟩ := bz_e h
  obtain rfl := Option.some.inj h
  exact z_zret K hz dX3_readLine_160
/-! GoingOver$Falls.read (LGoingOver$Tape;)I -/
abbrev rmX3_read : Room := { frames := 5, cells := 0, slots := 0, locals := 107 }
def pX3_read_13 (R : Rf) (a0 : Nat) (a1 : Nat) (e34 : Mm → Option (Int32 × Mm)) (e42 : Mm → Int32 → Option (Int32 × Mm)) (r13 : Mm → Int32 → Option (Int32 × Mm)) (T : Mm) (x2 : Int32) : Option (Int32 × Mm) :=
  if 33 < x2 then e42 T x2 else bd1 (pX10_atEnd R T a1) (fun (u3 : Int32) => if u3 = 0 then bd2 (pX3_readLine R T a0 a1) (fun (u4 : Int32) (T4 : Mm) => if u4 = 0 then e34 T4 else lt (x2 + 1) (fun (v5 : Int32) => r13 T4 v5)) else e42 T x2)
def pX3_read_34 (R : Rf) (a0 : Nat) (a1 : Nat) (T : Mm) : Option (Int32 × Mm) :=
  some ((-1), T)
def pX3_read_42 (R : Rf) (a0 : Nat) (a1 : Nat) (T : Mm) (x2 : Int32) : Option (Int32 × Mm) :=
  bd2 (pX10_finish R T a1) (fun (u6 : Int32) (T6 : Mm) => some (x2, T6))
def pX3_read (R : Rf) (T : Mm) (a0 : Nat) (a1 : Nat) : Option (Int32 × Mm) :=
  bd1 (pX3_clear R T a0) (fun (T1 : Mm) => bd1 (pX10_begin R T1 a1 900) (fun (T2 : Mm) => zl2 (pX3_read_13 R a0 a1 (pX3_read_34 R a0 a1) (pX3_read_42 R a0 a1)) FU T2 0))
set_option maxRecDepth 100000 in
set_option maxHeartbeats 4000000 in
theorem wX3_read_13 {X : Cx} {g : Gl} {l : Launch} {R : Rf} {a0 : Nat} {a1 : Nat} (K : Ok X g l cX3_read RX3 3 (some .int) rmX3_read) (hR : Ty g R) (k0 : kd g a0 = 3) (k1 : kd g a1 = 10) {r : Int32 × Mm} {e34 : Mm → Option (Int32 × Mm)} (he34 : ∀ (T : Mm), e34 T = some r → Zj X g 3 (QI X g r.1 R r.2) R T [none, none, none] [] 34) {e42 : Mm → Int32 → Option (Int32 × Mm)} (he42 : ∀ (T : Mm) (x2 : Int32), e42 T x2 = some r → Zj X g 3 (QI X g r.1 R r.2) R T [none, some (.ref (g.2.2.1 a1)), some (.int x2)] [] 42) : ∀ (n : Nat) (T : Mm) (x2 : Int32), zl2 (pX3_read_13 R a0 a1 e34 e42) n T x2 = some r → Zj X g 3 (QI X g r.1 R r.2) R T [some (.ref (g.2.2.1 a0)), some (.ref (g.2.2.1 a1)), some (.int x2)] [] 13 := by
  intro n
  induction n with
  | zero =>
    intro T x2 h
    exact absurd h (by simp [zl2])
  | succ n hr13 =>
    intro T x2 h
    rw [zl2_s] at h
    unfold pX3_read_13 at h
    refine z_iload_n K dX3_read_13 rfl ?_
    refine z_bipush K 33 dX3_read_14 rfl ?_
    refine z_icmp_gt K 42 dX3_read_16 (by decide) (fun c => ?_) (fun c => ?_)
    · have h := ite_t h c
      refine Zj.mask [false, true, true] ?_
      exact he42 _ _ h
    · have h := ite_f h c
      refine z_aload_n K dX3_read_19 rfl ?_
      obtain ⟨u3, hc, h⟩ := bd1_e h
      refine z_callVI K (mX10_atEnd l hR k1 hc) clX10 k1 ceX10_atEnd q620 ⟨rfl, rfl, rfl, rfl⟩ rfl rfl rfl dX3_read_20 ?_
      refine z_if_ne K 42 dX3_read_23 (by decide) (fun c => ?_) (fun c => ?_)
      · have h := ite_f h c
        refine Zj.mask [false, true, true] ?_
        exact he42 _ _ h
      · have h := ite_t h c
        refine z_aload_n K dX3_read_26 rfl ?_
        refine z_aload_n K dX3_read_27 rfl ?_
        obtain ⟨u4, T4, hc, h⟩ := bd2_e h
        refine z_callVI K (mX3_readLine l hR k0 k1 hc) clX3 k0 ceX3_readLine q624 ⟨rfl, rfl, rfl, rfl⟩ rfl rfl rfl dX3_read_28 ?_
        refine z_if_ne K 36 dX3_read_31 (by decide) (fun c => ?_) (fun c => ?_)
        · have h := ite_f h c
          refine z_iinc K 1 dX3_read_36 rfl rfl rfl rfl ?_
          refine z_goto K 13 dX3_read_39 (by decide) ?_
          refine Zj.mask [true, true, true] ?_
          exact hr13 _ _ h
        · have h := ite_t h c
          refine Zj.mask [false, false, false] ?_
          exact he34 _ h
set_option maxRecDepth 100000 in
set_option maxHeartbeats 4000000 in
theorem wX3_read_34 {X : Cx} {g : Gl} {l : Launch} {R : Rf} {a0 : Nat} {a1 : Nat} (K : Ok X g l cX3_read RX3 3 (some .int) rmX3_read) (hR : Ty g R) (k0 : kd g a0 = 3) (k1 : kd g a1 = 10) {r : Int32 × Mm} (T : Mm) (h : pX3_read_34 R a0 a1 T = some r) : Zj X g 3 (QI X g r.1 R r.2) R T [none, none, none] [] 34 := by
  unfold pX3_read_34 at h
  refine z_iconst K (-1) dX3_read_34 rfl ?_
  obtain rfl := Option.some.inj h
  exact z_iret K dX3_read_35
set_option maxRecDepth 100000 in
set_option maxHeartbeats 4000000 in
theorem wX3_read_42 {X : Cx} {g : Gl} {l : Launch} {R : Rf} {a0 : Nat} {a1 : Nat} (K : Ok X g l cX3_read RX3 3 (some .int) rmX3_read) (hR : Ty g R) (k0 : kd g a0 = 3) (k1 : kd g a1 = 10) {r : Int32 × Mm} (T : Mm) (x2 : Int32) (h : pX3_read_42 R a0 a1 T x2 = some r) : Zj X g 3 (QI X g r.1 R r.2) R T [none, some (.ref (g.2.2.1 a1)), some (.int x2)] [] 42 := by
  unfold pX3_read_42 at h
  refine z_aload_n K dX3_read_42 rfl ?_
  obtain ⟨u6, T6, hc, h⟩ := bd2_e h
  refine z_callVI K (mX10_finish l hR k1 hc) clX10 k1 ceX10_finish q713 ⟨rfl, rfl, rfl, rfl⟩ rfl rfl rfl dX3_read_43 ?_
  refine z_pop K dX3_read_46 rfl ?_
  refine z_iload_n K dX3_read_47 rfl ?_
  obtain rfl := Option.some.inj h
  exact z_iret K dX3_read_48
set_option maxRecDepth 100000 in
set_option maxHeartbeats 4000000 in
theorem mX3_read {g : Gl} {R : Rf} {T : Mm} {a0 : Nat} {a1 : Nat} (l : Launch) (hR : Ty g R) (k0 : kd g a0 = 3) (k1 : kd g a1 = 10) {r : Int32 × Mm} (h : pX3_read R T a0 a1 = some r) : MI l g yX3_read cX3_read 3 (some .int) rmX3_read [.ref (g.2.2.1 a0), .ref (g.2.2.1 a1)] R T r.1 R r.2 := by
  refine z_metI (own := RX3) (lv := [some (.ref (g.2.2.1 a0)), some (.ref (g.2.2.1 a1)), none]) (by decide +kernel) rfl rfl rfl (fun X K => ?_)
  unfold pX3_read at h
  refine z_aload_n K dX3_read_0 rfl ?_
  obtain ⟨T1, hc, h⟩ := bd1_e h
  refine z_callVV K (mX3_clear l hR k0 hc) clX3 k0 ceX3_clear q581 ⟨rfl, rfl, rfl, rfl⟩ rfl rfl rfl dX3_read_1 ?_
  refine z_aload_n K dX3_read_4 rfl ?_
  refine z_sipush K 900 dX3_read_5 rfl ?_
  obtain ⟨T2, hc, h⟩ := bd1_e h
  refine z_callVV K (mX10_begin l hR k1 hc) clX10 k1 ceX10_begin q585 ⟨rfl, rfl, rfl, rfl⟩ rfl rfl rfl dX3_read_8 ?_
  refine z_iconst K 0 dX3_read_11 rfl ?_
  refine z_istore_n K dX3_read_12 rfl rfl ?_
  refine Zj.mask [true, true, true] ?_
  exact wX3_read_13 K hR k0 k1 (wX3_read_34 K hR k0 k1) (wX3_read_42 K hR k0 k1) FU _ _ h
/-! GoingOver$Parts.hold (LGoingOver$Falls;I)V -/
abbrev rmX6_hold : Room := { frames := 0, cells := 0, slots := 0, locals := 0 }
def pX6_hold_2 (R : Rf) (a0 : Nat) (a1 : Nat) (x2 : Int32) (e21 : Mm → Option (Mm)) (r2 : Mm → Int32 → Option (Mm)) (T : Mm) (x3 : Int32) : Option (Mm) :=
  if 10 ≤ x3 then e21 T else ix x3 10 (lt (wI T (R a0 0) x3.toNatClampNeg 0) (fun (T1 : Mm) => lt (x3 + 1) (fun (v2 : Int32) => r2 T1 v2)))
def pX6_hold_23 (R : Rf) (a0 : Nat) (a1 : Nat) (x2 : Int32) (e89 : Mm → Option (Mm)) (r23 : Mm → Int32 → Option (Mm)) (T : Mm) (x3 : Int32) : Option (Mm) :=
  if (T.1 a1 2) ≤ x3 then e89 T else if ((x2 >>> (x3 &&& 31)) &&& 1) = 0 then lt (x3 + 1) (fun (v3 : Int32) => r23 T v3) else ix x3 16 (ix (T.1 (R a1 10) x3.toNatClampNeg) 10 (ix x3 16 (ix (T.1 (R a1 10) x3.toNatClampNeg) 10 (lt (wI T (R a0 0) (T.1 (R a1 10) x3.toNatClampNeg).toNatClampNeg ((T.1 (R a0 0) (T.1 (R a1 10) x3.toNatClampNeg).toNatClampNeg) ||| (1 <<< ((T.1 (R a1 11) x3.toNatClampNeg) &&& 31)))) (fun (T4 : Mm) => ix x3 16 (ix (T4.1 (R a1 11) x3.toNatClampNeg) 10 (ix x3 16 (ix (T4.1 (R a1 11) x3.toNatClampNeg) 10 (lt (wI T4 (R a0 0) (T4.1 (R a1 11) x3.toNatClampNeg).toNatClampNeg ((T4.1 (R a0 0) (T4.1 (R a1 11) x3.toNatClampNeg).toNatClampNeg) ||| (1 <<< ((T4.1 (R a1 10) x3.toNatClampNeg) &&& 31)))) (fun (T5 : Mm) => lt (x3 + 1) (fun (v6 : Int32) => r23 T5 v6)))))))))))
def pX6_hold_89 (R : Rf) (a0 : Nat) (a1 : Nat) (x2 : Int32) (T : Mm) : Option (Mm) :=
  some T
def pX6_hold_21 (R : Rf) (a0 : Nat) (a1 : Nat) (x2 : Int32) (T : Mm) : Option (Mm) :=
  zl2 (pX6_hold_23 R a0 a1 x2 (pX6_hold_89 R a0 a1 x2)) FU T 0
def pX6_hold (R : Rf) (T : Mm) (a0 : Nat) (a1 : Nat) (x2 : Int32) : Option (Mm) :=
  zl2 (pX6_hold_2 R a0 a1 x2 (pX6_hold_21 R a0 a1 x2)) FU T 0
set_option maxRecDepth 100000 in
set_option maxHeartbeats 4000000 in
theorem wX6_hold_2 {X : Cx} {g : Gl} {l : Launch} {R : Rf} {a0 : Nat} {a1 : Nat} {x2 : Int32} (K : Ok X g l cX6_hold RX6 4 none rmX6_hold) (hR : Ty g R) (k0 : kd g a0 = 6) (k1 : kd g a1 = 3) {r : Mm} {e21 : Mm → Option (Mm)} (he21 : ∀ (T : Mm), e21 T = some r → Zj X g 4 (QV X g R r) R T [some (.ref (g.2.2.1 a0)), some (.ref (g.2.2.1 a1)), some (.int x2), none] [] 21) : ∀ (n : Nat) (T : Mm) (x3 : Int32), zl2 (pX6_hold_2 R a0 a1 x2 e21) n T x3 = some r → Zj X g 4 (QV X g R r) R T [some (.ref (g.2.2.1 a0)), some (.ref (g.2.2.1 a1)), some (.int x2), some (.int x3)] [] 2 := by
  intro n
  induction n with
  | zero =>
    intro T x3 h
    exact absurd h (by simp [zl2])
  | succ n hr2 =>
    intro T x3 h
    rw [zl2_s] at h
    unfold pX6_hold_2 at h
    refine z_iload_n K dX6_hold_2 rfl ?_
    refine z_bipush K 10 dX6_hold_3 rfl ?_
    refine z_icmp_ge K 21 dX6_hold_5 (by decide) (fun c => ?_) (fun c => ?_)
    · have h := ite_t h c
      refine Zj.mask [true, true, true, false] ?_
      exact he21 _ h
    · have h := ite_f h c
      refine z_aload_n K dX6_hold_8 rfl ?_
      refine z_getR K clX6 k0 0 rfl rfl q406 dX6_hold_9 ?_
      refine z_iload_n K dX6_hold_12 rfl ?_
      refine z_iconst K 0 dX6_hold_13 rfl ?_
      obtain ⟨hi, h⟩ := ix_e h
      refine z_iast K (hR.at (k := 0) (t := 20010) k0 rfl rfl) rfl rfl rfl hi dX6_hold_14 ?_
      refine z_iinc K 1 dX6_hold_15 rfl rfl rfl rfl ?_
      refine z_goto K 2 dX6_hold_18 (by decide) ?_
      refine Zj.mask [true, true, true, true] ?_
      exact hr2 _ _ h
set_option maxRecDepth 100000 in
set_option maxHeartbeats 4000000 in
theorem wX6_hold_23 {X : Cx} {g : Gl} {l : Launch} {R : Rf} {a0 : Nat} {a1 : Nat} {x2 : Int32} (K : Ok X g l cX6_hold RX6 4 none rmX6_hold) (hR : Ty g R) (k0 : kd g a0 = 6) (k1 : kd g a1 = 3) {r : Mm} {e89 : Mm → Option (Mm)} (he89 : ∀ (T : Mm), e89 T = some r → Zj X g 4 (QV X g R r) R T [none, none, none, none] [] 89) : ∀ (n : Nat) (T : Mm) (x3 : Int32), zl2 (pX6_hold_23 R a0 a1 x2 e89) n T x3 = some r → Zj X g 4 (QV X g R r) R T [some (.ref (g.2.2.1 a0)), some (.ref (g.2.2.1 a1)), some (.int x2), some (.int x3)] [] 23 := by
  intro n
  induction n with
  | zero =>
    intro T x3 h
    exact absurd h (by simp [zl2])
  | succ n hr23 =>
    intro T x3 h
    rw [zl2_s] at h
    unfold pX6_hold_23 at h
    refine z_iload_n K dX6_hold_23 rfl ?_
    refine z_aload_n K dX6_hold_24 rfl ?_
    refine z_getI K clX3 k1 2 rfl rfl q256 dX6_hold_25 ?_
    refine z_icmp_ge K 89 dX6_hold_28 (by decide) (fun c => ?_) (fun c => ?_)
    · have h := ite_t h c
      refine Zj.mask [false, false, false, false] ?_
      exact he89 _ h
    · have h := ite_f h c
      refine z_iload_n K dX6_hold_31 rfl ?_
      refine z_iload_n K dX6_hold_32 rfl ?_
      refine z_ishr K dX6_hold_33 ?_
      refine z_iconst K 1 dX6_hold_34 rfl ?_
      refine z_iand K dX6_hold_35 ?_
      refine z_if_eq K 83 dX6_hold_36 (by decide) (fun c => ?_) (fun c => ?_)
      · have h := ite_t h c
        refine z_iinc K 1 dX6_hold_83 rfl rfl rfl rfl ?_
        refine z_goto K 23 dX6_hold_86 (by decide) ?_
        refine Zj.mask [true, true, true, true] ?_
        exact hr23 _ _ h
      · have h := ite_f h c
        refine z_aload_n K dX6_hold_39 rfl ?_
        refine z_getR K clX6 k0 0 rfl rfl q406 dX6_hold_40 ?_
        refine z_aload_n K dX6_hold_43 rfl ?_
        refine z_getR K clX3 k1 10 rfl rfl q280 dX6_hold_44 ?_
        refine z_iload_n K dX6_hold_47 rfl ?_
        obtain ⟨hi, h⟩ := ix_e h
        refine z_iald K (hR.at (k := 10) (t := 20016) k1 rfl rfl) rfl rfl rfl hi dX6_hold_48 ?_
        refine z_dup2 K dX6_hold_49 rfl rfl ?_
        obtain ⟨hi, h⟩ := ix_e h
        refine z_iald K (hR.at (k := 0) (t := 20010) k0 rfl rfl) rfl rfl rfl hi dX6_hold_50 ?_
        refine z_iconst K 1 dX6_hold_51 rfl ?_
        refine z_aload_n K dX6_hold_52 rfl ?_
        refine z_getR K clX3 k1 11 rfl rfl q284 dX6_hold_53 ?_
        refine z_iload_n K dX6_hold_56 rfl ?_
        obtain ⟨hi, h⟩ := ix_e h
        refine z_iald K (hR.at (k := 11) (t := 20016) k1 rfl rfl) rfl rfl rfl hi dX6_hold_57 ?_
        refine z_ishl K dX6_hold_58 ?_
        refine z_ior K dX6_hold_59 ?_
        obtain ⟨hi, h⟩ := ix_e h
        refine z_iast K (hR.at (k := 0) (t := 20010) k0 rfl rfl) rfl rfl rfl hi dX6_hold_60 ?_
        refine z_aload_n K dX6_hold_61 rfl ?_
        refine z_getR K clX6 k0 0 rfl rfl q406 dX6_hold_62 ?_
        refine z_aload_n K dX6_hold_65 rfl ?_
        refine z_getR K clX3 k1 11 rfl rfl q284 dX6_hold_66 ?_
        refine z_iload_n K dX6_hold_69 rfl ?_
        obtain ⟨hi, h⟩ := ix_e h
        refine z_iald K (hR.at (k := 11) (t := 20016) k1 rfl rfl) rfl rfl rfl hi dX6_hold_70 ?_
        refine z_dup2 K dX6_hold_71 rfl rfl ?_
        obtain ⟨hi, h⟩ := ix_e h
        refine z_iald K (hR.at (k := 0) (t := 20010) k0 rfl rfl) rfl rfl rfl hi dX6_hold_72 ?_
        refine z_iconst K 1 dX6_hold_73 rfl ?_
        refine z_aload_n K dX6_hold_74 rfl ?_
        refine z_getR K clX3 k1 10 rfl rfl q280 dX6_hold_75 ?_
        refine z_iload_n K dX6_hold_78 rfl ?_
        obtain ⟨hi, h⟩ := ix_e h
        refine z_iald K (hR.at (k := 10) (t := 20016) k1 rfl rfl) rfl rfl rfl hi dX6_hold_79 ?_
        refine z_ishl K dX6_hold_80 ?_
        refine z_ior K dX6_hold_81 ?_
        obtain ⟨hi, h⟩ := ix_e h
        refine z_iast K (hR.at (k := 0) (t := 20010) k0 rfl rfl) rfl rfl rfl hi dX6_hold_82 ?_
        refine z_iinc K 1 dX6_hold_83 rfl rfl rfl rfl ?_
        refine z_goto K 23 dX6_hold_86 (by decide) ?_
        refine Zj.mask [true, true, true, true] ?_
        exact hr23 _ _ h
set_option maxRecDepth 100000 in
set_option maxHeartbeats 4000000 in
theorem wX6_hold_89 {X : Cx} {g : Gl} {l : Launch} {R : Rf} {a0 : Nat} {a1 : Nat} {x2 : Int32} (K : Ok X g l cX6_hold RX6 4 none rmX6_hold) (hR : Ty g R) (k0 : kd g a0 = 6) (k1 : kd g a1 = 3) {r : Mm} (T : Mm) (h : pX6_hold_89 R a0 a1 x2 T = some r) : Zj X g 4 (QV X g R r) R T [none, none, none, none] [] 89 := by
  unfold pX6_hold_89 at h
  obtain rfl := Option.some.inj h
  exact z_vret K dX6_hold_89
set_option maxRecDepth 100000 in
set_option maxHeartbeats 4000000 in
theorem wX6_hold_21 {X : Cx} {g : Gl} {l : Launch} {R : Rf} {a0 : Nat} {a1 : Nat} {x2 : Int32} (K : Ok X g l cX6_hold RX6 4 none rmX6_hold) (hR : Ty g R) (k0 : kd g a0 = 6) (k1 : kd g a1 = 3) {r : Mm} (T : Mm) (h : pX6_hold_21 R a0 a1 x2 T = some r) : Zj X g 4 (QV X g R r) R T [some (.ref (g.2.2.1 a0)), some (.ref (g.2.2.1 a1)), some (.int x2), none] [] 21 := by
  unfold pX6_hold_21 at h
  refine z_iconst K 0 dX6_hold_21 rfl ?_
  refine z_istore_n K dX6_hold_22 rfl rfl ?_
  refine Zj.mask [true, true, true, true] ?_
  exact wX6_hold_23 K hR k0 k1 (wX6_hold_89 K hR k0 k1) FU _ _ h
set_option maxRecDepth 100000 in
set_option maxHeartbeats 4000000 in
theorem mX6_hold {g : Gl} {R : Rf} {T : Mm} {a0 : Nat} {a1 : Nat} {x2 : Int32} (l : Launch) (hR : Ty g R) (k0 : kd g a0 = 6) (k1 : kd g a1 = 3) {r : Mm} (h : pX6_hold R T a0 a1 x2 = some r) : MV l g yX6_hold cX6_hold 4 none rmX6_hold [.ref (g.2.2.1 a0), .ref (g.2.2.1 a1), .int x2] R T R r := by
  refine z_metV (own := RX6) (lv := [some (.ref (g.2.2.1 a0)), some (.ref (g.2.2.1 a1)), some (.int x2), none]) (by decide +kernel) rfl rfl rfl (fun X K => ?_)
  unfold pX6_hold at h
  refine z_iconst K 0 dX6_hold_0 rfl ?_
  refine z_istore_n K dX6_hold_1 rfl rfl ?_
  refine Zj.mask [true, true, true, true] ?_
  exact wX6_hold_2 K hR k0 k1 (wX6_hold_21 K hR k0 k1) FU _ _ h
/-! GoingOver$Parts.around (II)I -/
abbrev rmX6_around : Room := { frames := 0, cells := 0, slots := 0, locals := 0 }
def pX6_around_20 (R : Rf) (T : Mm) (a0 : Nat) (x1 : Int32) (x2 : Int32) (e56 : Int32 → Int32 → Int32 → Option (Int32)) (r20 : Int32 → Int32 → Int32 → Int32 → Option (Int32)) (x3 : Int32) (x4 : Int32) (x5 : Int32) (x6 : Int32) : Option (Int32) :=
  if 10 ≤ x6 then e56 x3 x4 x5 else if ((x3 >>> (x6 &&& 31)) &&& 1) = 0 then lt (x6 + 1) (fun (v2 : Int32) => r20 x3 x4 x5 v2) else ix x6 10 (lt (x5 ||| ((T.1 (R a0 0) x6.toNatClampNeg) &&& x2)) (fun (v3 : Int32) => lt (x6 + 1) (fun (v4 : Int32) => r20 x3 x4 v3 v4)))
def pX6_around_56 (R : Rf) (T : Mm) (a0 : Nat) (x1 : Int32) (x2 : Int32) (r7 : Int32 → Int32 → Option (Int32)) (e62 : Int32 → Option (Int32)) (e73 : Int32 → Option (Int32)) (x3 : Int32) (x4 : Int32) (x5 : Int32) : Option (Int32) :=
  if x5 = x3 then e62 x3 else lt (x4 + 1) (fun (v5 : Int32) => r7 x5 v5)
def pX6_around_7 (R : Rf) (T : Mm) (a0 : Nat) (x1 : Int32) (x2 : Int32) (e62 : Int32 → Option (Int32)) (e73 : Int32 → Option (Int32)) (r7 : Int32 → Int32 → Option (Int32)) (x3 : Int32) (x4 : Int32) : Option (Int32) :=
  if 10 ≤ x4 then e73 x3 else zl4 (pX6_around_20 R T a0 x1 x2 (pX6_around_56 R T a0 x1 x2 r7 e62 e73)) FU x3 x4 x3 0
def pX6_around_62 (R : Rf) (T : Mm) (a0 : Nat) (x1 : Int32) (x2 : Int32) (x3 : Int32) : Option (Int32) :=
  some x3
def pX6_around_73 (R : Rf) (T : Mm) (a0 : Nat) (x1 : Int32) (x2 : Int32) (x3 : Int32) : Option (Int32) :=
  some x3
def pX6_around (R : Rf) (T : Mm) (a0 : Nat) (x1 : Int32) (x2 : Int32) : Option (Int32) :=
  lt (1 <<< (x1 &&& 31)) (fun (v1 : Int32) => zl2 (pX6_around_7 R T a0 x1 x2 (pX6_around_62 R T a0 x1 x2) (pX6_around_73 R T a0 x1 x2)) FU v1 0)
set_option maxRecDepth 100000 in
set_option maxHeartbeats 4000000 in
theorem wX6_around_20 {X : Cx} {g : Gl} {l : Launch} {R : Rf} {T : Mm} {a0 : Nat} {x1 : Int32} {x2 : Int32} (K : Ok X g l cX6_around RX6 7 (some .int) rmX6_around) (hR : Ty g R) (k0 : kd g a0 = 6) {r : Int32} {e56 : Int32 → Int32 → Int32 → Option (Int32)} (he56 : ∀ (x3 : Int32) (x4 : Int32) (x5 : Int32), e56 x3 x4 x5 = some r → Zj X g 7 (QI X g r R T) R T [some (.ref (g.2.2.1 a0)), none, some (.int x2), some (.int x3), some (.int x4), some (.int x5), none] [] 56) : ∀ (n : Nat) (x3 : Int32) (x4 : Int32) (x5 : Int32) (x6 : Int32), zl4 (pX6_around_20 R T a0 x1 x2 e56) n x3 x4 x5 x6 = some r → Zj X g 7 (QI X g r R T) R T [some (.ref (g.2.2.1 a0)), none, some (.int x2), some (.int x3), some (.int x4), some (.int x5), some (.int x6)] [] 20 := by
  intro n
  induction n with
  | zero =>
    intro x3 x4 x5 x6 h
    exact absurd h (by simp [zl4])
  | succ n hr20 =>
    intro x3 x4 x5 x6 h
    rw [zl4_s] at h
    unfold pX6_around_20 at h
    refine z_iload K dX6_around_20 rfl ?_
    refine z_bipush K 10 dX6_around_22 rfl ?_
    refine z_icmp_ge K 56 dX6_around_24 (by decide) (fun c => ?_) (fun c => ?_)
    · have h := ite_t h c
      refine Zj.mask [true, false, true, true, true, true, false] ?_
      exact he56 _ _ _ h
    · have h := ite_f h c
      refine z_iload_n K dX6_around_27 rfl ?_
      refine z_iload K dX6_around_28 rfl ?_
      refine z_ishr K dX6_around_30 ?_
      refine z_iconst K 1 dX6_around_31 rfl ?_
      refine z_iand K dX6_around_32 ?_
      refine z_if_eq K 50 dX6_around_33 (by decide) (fun c => ?_) (fun c => ?_)
      · have h := ite_t h c
        refine z_iinc K 1 dX6_around_50 rfl rfl rfl rfl ?_
        refine z_goto K 20 dX6_around_53 (by decide) ?_
        refine Zj.mask [true, false, true, true, true, true, true] ?_
        exact hr20 _ _ _ _ h
      · have h := ite_f h c
        refine z_iload K dX6_around_36 rfl ?_
        refine z_aload_n K dX6_around_38 rfl ?_
        refine z_getR K clX6 k0 0 rfl rfl q406 dX6_around_39 ?_
        refine z_iload K dX6_around_42 rfl ?_
        obtain ⟨hi, h⟩ := ix_e h
        refine z_iald K (hR.at (k := 0) (t := 20010) k0 rfl rfl) rfl rfl rfl hi dX6_around_44 ?_
        refine z_iload_n K dX6_around_45 rfl ?_
        refine z_iand K dX6_around_46 ?_
        refine z_ior K dX6_around_47 ?_
        refine z_istore K dX6_around_48 rfl rfl ?_
        refine z_iinc K 1 dX6_around_50 rfl rfl rfl rfl ?_
        refine z_goto K 20 dX6_around_53 (by decide) ?_
        refine Zj.mask [true, false, true, true, true, true, true] ?_
        exact hr20 _ _ _ _ h
set_option maxRecDepth 100000 in
set_option maxHeartbeats 4000000 in
theorem wX6_around_56 {X : Cx} {g : Gl} {l : Launch} {R : Rf} {T : Mm} {a0 : Nat} {x1 : Int32} {x2 : Int32} (K : Ok X g l cX6_around RX6 7 (some .int) rmX6_around) (hR : Ty g R) (k0 : kd g a0 = 6) {r : Int32} {r7 : Int32 → Int32 → Option (Int32)} (hr7 : ∀ (x3 : Int32) (x4 : Int32), r7 x3 x4 = some r → Zj X g 7 (QI X g r R T) R T [some (.ref (g.2.2.1 a0)), none, some (.int x2), some (.int x3), some (.int x4), none, none] [] 7) {e62 : Int32 → Option (Int32)} (he62 : ∀ (x3 : Int32), e62 x3 = some r → Zj X g 7 (QI X g r R T) R T [none, none, none, some (.int x3), none, none, none] [] 62) {e73 : Int32 → Option (Int32)} (he73 : ∀ (x3 : Int32), e73 x3 = some r → Zj X g 7 (QI X g r R T) R T [none, none, none, some (.int x3), none, none, none] [] 73) (x3 : Int32) (x4 : Int32) (x5 : Int32) (h : pX6_around_56 R T a0 x1 x2 r7 e62 e73 x3 x4 x5 = some r) : Zj X g 7 (QI X g r R T) R T [some (.ref (g.2.2.1 a0)), none, some (.int x2), some (.int x3), some (.int x4), some (.int x5), none] [] 56 := by
  unfold pX6_around_56 at h
  refine z_iload K dX6_around_56 rfl ?_
  refine z_iload_n K dX6_around_58 rfl ?_
  refine z_icmp_ne K 64 dX6_around_59 (by decide) (fun c => ?_) (fun c => ?_)
  · have h := ite_f h c
    refine z_iload K dX6_around_64 rfl ?_
    refine z_istore_n K dX6_around_66 rfl rfl ?_
    refine z_iinc K 1 dX6_around_67 rfl rfl rfl rfl ?_
    refine z_goto K 7 dX6_around_70 (by decide) ?_
    refine Zj.mask [true, false, true, true, true, false, false] ?_
    exact hr7 _ _ h
  · have h := ite_t h c
    refine Zj.mask [false, false, false, true, false, false, false] ?_
    exact he62 _ h
set_option maxRecDepth 100000 in
set_option maxHeartbeats 4000000 in
theorem wX6_around_7 {X : Cx} {g : Gl} {l : Launch} {R : Rf} {T : Mm} {a0 : Nat} {x1 : Int32} {x2 : Int32} (K : Ok X g l cX6_around RX6 7 (some .int) rmX6_around) (hR : Ty g R) (k0 : kd g a0 = 6) {r : Int32} {e62 : Int32 → Option (Int32)} (he62 : ∀ (x3 : Int32), e62 x3 = some r → Zj X g 7 (QI X g r R T) R T [none, none, none, some (.int x3), none, none, none] [] 62) {e73 : Int32 → Option (Int32)} (he73 : ∀ (x3 : Int32), e73 x3 = some r → Zj X g 7 (QI X g r R T) R T [none, none, none, some (.int x3), none, none, none] [] 73) : ∀ (n : Nat) (x3 : Int32) (x4 : Int32), zl2 (pX6_around_7 R T a0 x1 x2 e62 e73) n x3 x4 = some r → Zj X g 7 (QI X g r R T) R T [some (.ref (g.2.2.1 a0)), none, some (.int x2), some (.int x3), some (.int x4), none, none] [] 7 := by
  intro n
  induction n with
  | zero =>
    intro x3 x4 h
    exact absurd h (by simp [zl2])
  | succ n hr7 =>
    intro x3 x4 h
    rw [zl2_s] at h
    unfold pX6_around_7 at h
    refine z_iload K dX6_around_7 rfl ?_
    refine z_bipush K 10 dX6_around_9 rfl ?_
    refine z_icmp_ge K 73 dX6_around_11 (by decide) (fun c => ?_) (fun c => ?_)
    · have h := ite_t h c
      refine Zj.mask [false, false, false, true, false, false, false] ?_
      exact he73 _ h
    · have h := ite_f h c
      refine z_iload_n K dX6_around_14 rfl ?_
      refine z_istore K dX6_around_15 rfl rfl ?_
      refine z_iconst K 0 dX6_around_17 rfl ?_
      refine z_istore K dX6_around_18 rfl rfl ?_
      refine Zj.mask [true, false, true, true, true, true, true] ?_
      exact wX6_around_20 K hR k0 (wX6_around_56 K hR k0 hr7 he62 he73) FU _ _ _ _ h
set_option maxRecDepth 100000 in
set_option maxHeartbeats 4000000 in
theorem wX6_around_62 {X : Cx} {g : Gl} {l : Launch} {R : Rf} {T : Mm} {a0 : Nat} {x1 : Int32} {x2 : Int32} (K : Ok X g l cX6_around RX6 7 (some .int) rmX6_around) (hR : Ty g R) (k0 : kd g a0 = 6) {r : Int32} (x3 : Int32) (h : pX6_around_62 R T a0 x1 x2 x3 = some r) : Zj X g 7 (QI X g r R T) R T [none, none, none, some (.int x3), none, none, none] [] 62 := by
  unfold pX6_around_62 at h
  refine z_iload_n K dX6_around_62 rfl ?_
  obtain rfl := Option.some.inj h
  exact z_iret K dX6_around_63
set_option maxRecDepth 100000 in
set_option maxHeartbeats 4000000 in
theorem wX6_around_73 {X : Cx} {g : Gl} {l : Launch} {R : Rf} {T : Mm} {a0 : Nat} {x1 : Int32} {x2 : Int32} (K : Ok X g l cX6_around RX6 7 (some .int) rmX6_around) (hR : Ty g R) (k0 : kd g a0 = 6) {r : Int32} (x3 : Int32) (h : pX6_around_73 R T a0 x1 x2 x3 = some r) : Zj X g 7 (QI X g r R T) R T [none, none, none, some (.int x3), none, none, none] [] 73 := by
  unfold pX6_around_73 at h
  refine z_iload_n K dX6_around_73 rfl ?_
  obtain rfl := Option.some.inj h
  exact z_iret K dX6_around_74
set_option maxRecDepth 100000 in
set_option maxHeartbeats 4000000 in
theorem mX6_around {g : Gl} {R : Rf} {T : Mm} {a0 : Nat} {x1 : Int32} {x2 : Int32} (l : Launch) (hR : Ty g R) (k0 : kd g a0 = 6) {r : Int32} (h : pX6_around R T a0 x1 x2 = some r) : MI l g yX6_around cX6_around 7 (some .int) rmX6_around [.ref (g.2.2.1 a0), .int x1, .int x2] R T r R T := by
  refine z_metI (own := RX6) (lv := [some (.ref (g.2.2.1 a0)), some (.int x1), some (.int x2), none, none, none, none]) (by decide +kernel) rfl rfl rfl (fun X K => ?_)
  unfold pX6_around at h
  refine z_iconst K 1 dX6_around_0 rfl ?_
  refine z_iload_n K dX6_around_1 rfl ?_
  refine z_ishl K dX6_around_2 ?_
  refine z_istore_n K dX6_around_3 rfl rfl ?_
  refine z_iconst K 0 dX6_around_4 rfl ?_
  refine z_istore K dX6_around_5 rfl rfl ?_
  refine Zj.mask [true, false, true, true, true, false, false] ?_
  exact wX6_around_7 K hR k0 (wX6_around_62 K hR k0) (wX6_around_73 K hR k0) FU _ _ h
/-! GoingOver$Parts.number (I)I -/
abbrev rmX6_number : Room := { frames := 1, cells := 0, slots := 0, locals := 26 }
def pX6_number_7 (R : Rf) (T : Mm) (a0 : Nat) (x1 : Int32) (e44 : Int32 → Option (Int32)) (r7 : Int32 → Int32 → Int32 → Option (Int32)) (x2 : Int32) (x3 : Int32) (x4 : Int32) : Option (Int32) :=
  if 10 ≤ x4 then e44 x3 else if ((x2 >>> (x4 &&& 31)) &&& 1) = 0 then lt (x4 + 1) (fun (v1 : Int32) => r7 x2 x3 v1) else bd1 (pX6_around R T a0 x4 x1) (fun (u2 : Int32) => lt (x2 &&& (u2 ^^^ (-1))) (fun (v3 : Int32) => lt (x3 + 1) (fun (v4 : Int32) => lt (x4 + 1) (fun (v5 : Int32) => r7 v3 v4 v5))))
def pX6_number_44 (R : Rf) (T : Mm) (a0 : Nat) (x1 : Int32) (x3 : Int32) : Option (Int32) :=
  some x3
def pX6_number (R : Rf) (T : Mm) (a0 : Nat) (x1 : Int32) : Option (Int32) :=
  zl3 (pX6_number_7 R T a0 x1 (pX6_number_44 R T a0 x1)) FU x1 0 0
set_option maxRecDepth 100000 in
set_option maxHeartbeats 4000000 in
theorem wX6_number_7 {X : Cx} {g : Gl} {l : Launch} {R : Rf} {T : Mm} {a0 : Nat} {x1 : Int32} (K : Ok X g l cX6_number RX6 5 (some .int) rmX6_number) (hR : Ty g R) (k0 : kd g a0 = 6) {r : Int32} {e44 : Int32 → Option (Int32)} (he44 : ∀ (x3 : Int32), e44 x3 = some r → Zj X g 5 (QI X g r R T) R T [none, none, none, some (.int x3), none] [] 44) : ∀ (n : Nat) (x2 : Int32) (x3 : Int32) (x4 : Int32), zl3 (pX6_number_7 R T a0 x1 e44) n x2 x3 x4 = some r → Zj X g 5 (QI X g r R T) R T [some (.ref (g.2.2.1 a0)), some (.int x1), some (.int x2), some (.int x3), some (.int x4)] [] 7 := by
  intro n
  induction n with
  | zero =>
    intro x2 x3 x4 h
    exact absurd h (by simp [zl3])
  | succ n hr7 =>
    intro x2 x3 x4 h
    rw [zl3_s] at h
    unfold pX6_number_7 at h
    refine z_iload K dX6_number_7 rfl ?_
    refine z_bipush K 10 dX6_number_9 rfl ?_
    refine z_icmp_ge K 44 dX6_number_11 (by decide) (fun c => ?_) (fun c => ?_)
    · have h := ite_t h c
      refine Zj.mask [false, false, false, true, false] ?_
      exact he44 _ h
    · have h := ite_f h c
      refine z_iload_n K dX6_number_14 rfl ?_
      refine z_iload K dX6_number_15 rfl ?_
      refine z_ishr K dX6_number_17 ?_
      refine z_iconst K 1 dX6_number_18 rfl ?_
      refine z_iand K dX6_number_19 ?_
      refine z_if_eq K 38 dX6_number_20 (by decide) (fun c => ?_) (fun c => ?_)
      · have h := ite_t h c
        refine z_iinc K 1 dX6_number_38 rfl rfl rfl rfl ?_
        refine z_goto K 7 dX6_number_41 (by decide) ?_
        refine Zj.mask [true, true, true, true, true] ?_
        exact hr7 _ _ _ h
      · have h := ite_f h c
        refine z_iload_n K dX6_number_23 rfl ?_
        refine z_aload_n K dX6_number_24 rfl ?_
        refine z_iload K dX6_number_25 rfl ?_
        refine z_iload_n K dX6_number_27 rfl ?_
        obtain ⟨u2, hc, h⟩ := bd1_e h
        refine z_callVI K (mX6_around l hR k0 hc) clX6 k0 ceX6_around q901 ⟨rfl, rfl, rfl, rfl⟩ rfl rfl rfl dX6_number_28 ?_
        refine z_iconst K (-1) dX6_number_31 rfl ?_
        refine z_ixor K dX6_number_32 ?_
        refine z_iand K dX6_number_33 ?_
        refine z_istore_n K dX6_number_34 rfl rfl ?_
        refine z_iinc K 1 dX6_number_35 rfl rfl rfl rfl ?_
        refine z_iinc K 1 dX6_number_38 rfl rfl rfl rfl ?_
        refine z_goto K 7 dX6_number_41 (by decide) ?_
        refine Zj.mask [true, true, true, true, true] ?_
        exact hr7 _ _ _ h
set_option maxRecDepth 100000 in
set_option maxHeartbeats 4000000 in
theorem wX6_number_44 {X : Cx} {g : Gl} {l : Launch} {R : Rf} {T : Mm} {a0 : Nat} {x1 : Int32} (K : Ok X g l cX6_number RX6 5 (some .int) rmX6_number) (hR : Ty g R) (k0 : kd g a0 = 6) {r : Int32} (x3 : Int32) (h : pX6_number_44 R T a0 x1 x3 = some r) : Zj X g 5 (QI X g r R T) R T [none, none, none, some (.int x3), none] [] 44 := by
  unfold pX6_number_44 at h
  refine z_iload_n K dX6_number_44 rfl ?_
  obtain rfl := Option.some.inj h
  exact z_iret K dX6_number_45
set_option maxRecDepth 100000 in
set_option maxHeartbeats 4000000 in
theorem mX6_number {g : Gl} {R : Rf} {T : Mm} {a0 : Nat} {x1 : Int32} (l : Launch) (hR : Ty g R) (k0 : kd g a0 = 6) {r : Int32} (h : pX6_number R T a0 x1 = some r) : MI l g yX6_number cX6_number 5 (some .int) rmX6_number [.ref (g.2.2.1 a0), .int x1] R T r R T := by
  refine z_metI (own := RX6) (lv := [some (.ref (g.2.2.1 a0)), some (.int x1), none, none, none]) (by decide +kernel) rfl rfl rfl (fun X K => ?_)
  unfold pX6_number at h
  refine z_iload_n K dX6_number_0 rfl ?_
  refine z_istore_n K dX6_number_1 rfl rfl ?_
  refine z_iconst K 0 dX6_number_2 rfl ?_
  refine z_istore_n K dX6_number_3 rfl rfl ?_
  refine z_iconst K 0 dX6_number_4 rfl ?_
  refine z_istore K dX6_number_5 rfl rfl ?_
  refine Zj.mask [true, true, true, true, true] ?_
  exact wX6_number_7 K hR k0 (wX6_number_44 K hR k0) FU _ _ _ h
/-! GoingOver$Heights.fill (LGoingOver$Falls;LGoingOver$Course;LGoingOver$Parts;)V -/
abbrev rmX4_fill : Room := { frames := 3, cells := 0, slots := 0, locals := 69 }
def pX4_fill_31 (R : Rf) (a0 : Nat) (a1 : Nat) (a2 : Nat) (a3 : Nat) (e114 : Mm → Int32 → Option (Mm)) (r31 : Mm → Int32 → Int32 → Int32 → Int32 → Option (Mm)) (T : Mm) (x4 : Int32) (x5 : Int32) (x6 : Int32) (x7 : Int32) : Option (Mm) :=
  if 30 < x7 then e114 T x4 else bd1 (pX1_holdingAt R T a2 a1 x4 x7) (fun (u3 : Int32) => if u3 = x6 then ix x4 5 (ix x4 5 (ix (x7 - 1) 31 (ix x7 31 (lt (wI T (R (R a0 0) x4.toNatClampNeg) x7.toNatClampNeg (T.1 (R (R a0 0) x4.toNatClampNeg) (x7 - 1).toNatClampNeg)) (fun (T8 : Mm) => lt (x7 + 1) (fun (v9 : Int32) => r31 T8 x4 x5 x6 v9)))))) else bd1 (pX6_hold R T a3 a1 u3) (fun (T4 : Mm) => ix x4 5 (bd1 (pX6_number R T4 a3 x5) (fun (u5 : Int32) => ix x7 31 (lt (wI T4 (R (R a0 0) x4.toNatClampNeg) x7.toNatClampNeg u5) (fun (T6 : Mm) => lt (x7 + 1) (fun (v7 : Int32) => r31 T6 x4 x5 u3 v7)))))))
def pX4_fill_114 (R : Rf) (a0 : Nat) (a1 : Nat) (a2 : Nat) (a3 : Nat) (r3 : Mm → Int32 → Option (Mm)) (e120 : Mm → Option (Mm)) (T : Mm) (x4 : Int32) : Option (Mm) :=
  lt (x4 + 1) (fun (v10 : Int32) => r3 T v10)
def pX4_fill_3 (R : Rf) (a0 : Nat) (a1 : Nat) (a2 : Nat) (a3 : Nat) (e120 : Mm → Option (Mm)) (r3 : Mm → Int32 → Option (Mm)) (T : Mm) (x4 : Int32) : Option (Mm) :=
  if (T.1 a1 0) ≤ x4 then e120 T else bd1 (pX3_itemsOf R T a1 x4) (fun (u1 : Int32) => lt ((T.1 a2 1) &&& u1) (fun (v2 : Int32) => zl5 (pX4_fill_31 R a0 a1 a2 a3 (pX4_fill_114 R a0 a1 a2 a3 r3 e120)) FU T x4 v2 (-1) 1))
def pX4_fill_120 (R : Rf) (a0 : Nat) (a1 : Nat) (a2 : Nat) (a3 : Nat) (T : Mm) : Option (Mm) :=
  some T
def pX4_fill (R : Rf) (T : Mm) (a0 : Nat) (a1 : Nat) (a2 : Nat) (a3 : Nat) : Option (Mm) :=
  zl2 (pX4_fill_3 R a0 a1 a2 a3 (pX4_fill_120 R a0 a1 a2 a3)) FU T 0
set_option maxRecDepth 100000 in
set_option maxHeartbeats 4000000 in
theorem wX4_fill_31 {X : Cx} {g : Gl} {l : Launch} {R : Rf} {a0 : Nat} {a1 : Nat} {a2 : Nat} {a3 : Nat} (K : Ok X g l cX4_fill RX4 9 none rmX4_fill) (hR : Ty g R) (k0 : kd g a0 = 4) (k1 : kd g a1 = 3) (k2 : kd g a2 = 1) (k3 : kd g a3 = 6) {r : Mm} {e114 : Mm → Int32 → Option (Mm)} (he114 : ∀ (T : Mm) (x4 : Int32), e114 T x4 = some r → Zj X g 9 (QV X g R r) R T [some (.ref (g.2.2.1 a0)), some (.ref (g.2.2.1 a1)), some (.ref (g.2.2.1 a2)), some (.ref (g.2.2.1 a3)), some (.int x4), none, none, none, none] [] 114) : ∀ (n : Nat) (T : Mm) (x4 : Int32) (x5 : Int32) (x6 : Int32) (x7 : Int32), zl5 (pX4_fill_31 R a0 a1 a2 a3 e114) n T x4 x5 x6 x7 = some r → Zj X g 9 (QV X g R r) R T [some (.ref (g.2.2.1 a0)), some (.ref (g.2.2.1 a1)), some (.ref (g.2.2.1 a2)), some (.ref (g.2.2.1 a3)), some (.int x4), some (.int x5), some (.int x6), some (.int x7), none] [] 31 := by
  intro n
  induction n with
  | zero =>
    intro T x4 x5 x6 x7 h
    exact absurd h (by simp [zl5])
  | succ n hr31 =>
    intro T x4 x5 x6 x7 h
    rw [zl5_s] at h
    unfold pX4_fill_31 at h
    refine z_iload K dX4_fill_31 rfl ?_
    refine z_bipush K 30 dX4_fill_33 rfl ?_
    refine z_icmp_gt K 114 dX4_fill_35 (by decide) (fun c => ?_) (fun c => ?_)
    · have h := ite_t h c
      refine Zj.mask [true, true, true, true, true, false, false, false, false] ?_
      exact he114 _ _ h
    · have h := ite_f h c
      refine z_aload_n K dX4_fill_38 rfl ?_
      refine z_aload_n K dX4_fill_39 rfl ?_
      refine z_iload K dX4_fill_40 rfl ?_
      refine z_iload K dX4_fill_42 rfl ?_
      obtain ⟨u3, hc, h⟩ := bd1_e h
      refine z_callVI K (mX1_holdingAt l hR k2 k1 hc) clX1 k2 ceX1_holdingAt q985 ⟨rfl, rfl, rfl, rfl⟩ rfl rfl rfl dX4_fill_44 ?_
      refine z_istore K dX4_fill_47 rfl rfl ?_
      refine z_iload K dX4_fill_49 rfl ?_
      refine z_iload K dX4_fill_51 rfl ?_
      refine z_icmp_ne K 81 dX4_fill_53 (by decide) (fun c => ?_) (fun c => ?_)
      · have h := ite_f h c
        refine z_aload_n K dX4_fill_81 rfl ?_
        refine z_aload_n K dX4_fill_82 rfl ?_
        refine z_iload K dX4_fill_83 rfl ?_
        obtain ⟨T4, hc, h⟩ := bd1_e h
        refine z_callVV K (mX6_hold l hR k3 k1 hc) clX6 k3 ceX6_hold q986 ⟨rfl, rfl, rfl, rfl⟩ rfl rfl rfl dX4_fill_85 ?_
        refine z_aload_n K dX4_fill_88 rfl ?_
        refine z_getR K clX4 k0 0 rfl rfl q418 dX4_fill_89 ?_
        refine z_iload K dX4_fill_92 rfl ?_
        obtain ⟨hi, h⟩ := ix_e h
        refine z_aald6 K (hR.at (k := 0) (t := 70005) k0 rfl rfl) rfl rfl rfl hi dX4_fill_94 ?_
        refine z_iload K dX4_fill_95 rfl ?_
        refine z_aload_n K dX4_fill_97 rfl ?_
        refine z_iload K dX4_fill_98 rfl ?_
        obtain ⟨u5, hc, h⟩ := bd1_e h
        refine z_callVI K (mX6_number l hR k3 hc) clX6 k3 ceX6_number q987 ⟨rfl, rfl, rfl, rfl⟩ rfl rfl rfl dX4_fill_100 ?_
        obtain ⟨hi, h⟩ := ix_e h
        refine z_iast K (hR.at (t := 20031) (hR.at (k := 0) (t := 70005) k0 rfl rfl) rfl rfl) rfl rfl rfl hi dX4_fill_103 ?_
        refine z_iload K dX4_fill_104 rfl ?_
        refine z_istore K dX4_fill_106 rfl rfl ?_
        refine z_iinc K 1 dX4_fill_108 rfl rfl rfl rfl ?_
        refine z_goto K 31 dX4_fill_111 (by decide) ?_
        refine Zj.mask [true, true, true, true, true, true, true, true, false] ?_
        exact hr31 _ _ _ _ _ h
      · have h := ite_t h c
        refine z_aload_n K dX4_fill_56 rfl ?_
        refine z_getR K clX4 k0 0 rfl rfl q418 dX4_fill_57 ?_
        refine z_iload K dX4_fill_60 rfl ?_
        obtain ⟨hi, h⟩ := ix_e h
        refine z_aald6 K (hR.at (k := 0) (t := 70005) k0 rfl rfl) rfl rfl rfl hi dX4_fill_62 ?_
        refine z_iload K dX4_fill_63 rfl ?_
        refine z_aload_n K dX4_fill_65 rfl ?_
        refine z_getR K clX4 k0 0 rfl rfl q418 dX4_fill_66 ?_
        refine z_iload K dX4_fill_69 rfl ?_
        obtain ⟨hi, h⟩ := ix_e h
        refine z_aald6 K (hR.at (k := 0) (t := 70005) k0 rfl rfl) rfl rfl rfl hi dX4_fill_71 ?_
        refine z_iload K dX4_fill_72 rfl ?_
        refine z_iconst K 1 dX4_fill_74 rfl ?_
        refine z_isub K dX4_fill_75 ?_
        obtain ⟨hi, h⟩ := ix_e h
        refine z_iald K (hR.at (t := 20031) (hR.at (k := 0) (t := 70005) k0 rfl rfl) rfl rfl) rfl rfl rfl hi dX4_fill_76 ?_
        obtain ⟨hi, h⟩ := ix_e h
        refine z_iast K (hR.at (t := 20031) (hR.at (k := 0) (t := 70005) k0 rfl rfl) rfl rfl) rfl rfl rfl hi dX4_fill_77 ?_
        refine z_goto K 108 dX4_fill_78 (by decide) ?_
        refine z_iinc K 1 dX4_fill_108 rfl rfl rfl rfl ?_
        refine z_goto K 31 dX4_fill_111 (by decide) ?_
        refine Zj.mask [true, true, true, true, true, true, true, true, false] ?_
        exact hr31 _ _ _ _ _ h
set_option maxRecDepth 100000 in
set_option maxHeartbeats 4000000 in
theorem wX4_fill_114 {X : Cx} {g : Gl} {l : Launch} {R : Rf} {a0 : Nat} {a1 : Nat} {a2 : Nat} {a3 : Nat} (K : Ok X g l cX4_fill RX4 9 none rmX4_fill) (hR : Ty g R) (k0 : kd g a0 = 4) (k1 : kd g a1 = 3) (k2 : kd g a2 = 1) (k3 : kd g a3 = 6) {r : Mm} {r3 : Mm → Int32 → Option (Mm)} (hr3 : ∀ (T : Mm) (x4 : Int32), r3 T x4 = some r → Zj X g 9 (QV X g R r) R T [some (.ref (g.2.2.1 a0)), some (.ref (g.2.2.1 a1)), some (.ref (g.2.2.1 a2)), some (.ref (g.2.2.1 a3)), some (.int x4), none, none, none, none] [] 3) {e120 : Mm → Option (Mm)} (he120 : ∀ (T : Mm), e120 T = some r → Zj X g 9 (QV X g R r) R T [none, none, none, none, none, none, none, none, none] [] 120) (T : Mm) (x4 : Int32) (h : pX4_fill_114 R a0 a1 a2 a3 r3 e120 T x4 = some r) : Zj X g 9 (QV X g R r) R T [some (.ref (g.2.2.1 a0)), some (.ref (g.2.2.1 a1)), some (.ref (g.2.2.1 a2)), some (.ref (g.2.2.1 a3)), some (.int x4), none, none, none, none] [] 114 := by
  unfold pX4_fill_114 at h
  refine z_iinc K 1 dX4_fill_114 rfl rfl rfl rfl ?_
  refine z_goto K 3 dX4_fill_117 (by decide) ?_
  refine Zj.mask [true, true, true, true, true, false, false, false, false] ?_
  exact hr3 _ _ h
set_option maxRecDepth 100000 in
set_option maxHeartbeats 4000000 in
theorem wX4_fill_3 {X : Cx} {g : Gl} {l : Launch} {R : Rf} {a0 : Nat} {a1 : Nat} {a2 : Nat} {a3 : Nat} (K : Ok X g l cX4_fill RX4 9 none rmX4_fill) (hR : Ty g R) (k0 : kd g a0 = 4) (k1 : kd g a1 = 3) (k2 : kd g a2 = 1) (k3 : kd g a3 = 6) {r : Mm} {e120 : Mm → Option (Mm)} (he120 : ∀ (T : Mm), e120 T = some r → Zj X g 9 (QV X g R r) R T [none, none, none, none, none, none, none, none, none] [] 120) : ∀ (n : Nat) (T : Mm) (x4 : Int32), zl2 (pX4_fill_3 R a0 a1 a2 a3 e120) n T x4 = some r → Zj X g 9 (QV X g R r) R T [some (.ref (g.2.2.1 a0)), some (.ref (g.2.2.1 a1)), some (.ref (g.2.2.1 a2)), some (.ref (g.2.2.1 a3)), some (.int x4), none, none, none, none] [] 3 := by
  intro n
  induction n with
  | zero =>
    intro T x4 h
    exact absurd h (by simp [zl2])
  | succ n hr3 =>
    intro T x4 h
    rw [zl2_s] at h
    unfold pX4_fill_3 at h
    refine z_iload K dX4_fill_3 rfl ?_
    refine z_aload_n K dX4_fill_5 rfl ?_
    refine z_getI K clX3 k1 0 rfl rfl q246 dX4_fill_6 ?_
    refine z_icmp_ge K 120 dX4_fill_9 (by decide) (fun c => ?_) (fun c => ?_)
    · have h := ite_t h c
      refine Zj.mask [false, false, false, false, false, false, false, false, false] ?_
      exact he120 _ h
    · have h := ite_f h c
      refine z_aload_n K dX4_fill_12 rfl ?_
      refine z_getI K clX1 k2 1 rfl rfl q336 dX4_fill_13 ?_
      refine z_aload_n K dX4_fill_16 rfl ?_
      refine z_iload K dX4_fill_17 rfl ?_
      obtain ⟨u1, hc, h⟩ := bd1_e h
      refine z_callVI K (mX3_itemsOf l hR k1 hc) clX3 k1 ceX3_itemsOf q984 ⟨rfl, rfl, rfl, rfl⟩ rfl rfl rfl dX4_fill_19 ?_
      refine z_iand K dX4_fill_22 ?_
      refine z_istore K dX4_fill_23 rfl rfl ?_
      refine z_iconst K (-1) dX4_fill_25 rfl ?_
      refine z_istore K dX4_fill_26 rfl rfl ?_
      refine z_iconst K 1 dX4_fill_28 rfl ?_
      refine z_istore K dX4_fill_29 rfl rfl ?_
      refine Zj.mask [true, true, true, true, true, true, true, true, false] ?_
      exact wX4_fill_31 K hR k0 k1 k2 k3 (wX4_fill_114 K hR k0 k1 k2 k3 hr3 he120) FU _ _ _ _ _ h
set_option maxRecDepth 100000 in
set_option maxHeartbeats 4000000 in
theorem wX4_fill_120 {X : Cx} {g : Gl} {l : Launch} {R : Rf} {a0 : Nat} {a1 : Nat} {a2 : Nat} {a3 : Nat} (K : Ok X g l cX4_fill RX4 9 none rmX4_fill) (hR : Ty g R) (k0 : kd g a0 = 4) (k1 : kd g a1 = 3) (k2 : kd g a2 = 1) (k3 : kd g a3 = 6) {r : Mm} (T : Mm) (h : pX4_fill_120 R a0 a1 a2 a3 T = some r) : Zj X g 9 (QV X g R r) R T [none, none, none, none, none, none, none, none, none] [] 120 := by
  unfold pX4_fill_120 at h
  obtain rfl := Option.some.inj h
  exact z_vret K dX4_fill_120
set_option maxRecDepth 100000 in
set_option maxHeartbeats 4000000 in
theorem mX4_fill {g : Gl} {R : Rf} {T : Mm} {a0 : Nat} {a1 : Nat} {a2 : Nat} {a3 : Nat} (l : Launch) (hR : Ty g R) (k0 : kd g a0 = 4) (k1 : kd g a1 = 3) (k2 : kd g a2 = 1) (k3 : kd g a3 = 6) {r : Mm} (h : pX4_fill R T a0 a1 a2 a3 = some r) : MV l g yX4_fill cX4_fill 9 none rmX4_fill [.ref (g.2.2.1 a0), .ref (g.2.2.1 a1), .ref (g.2.2.1 a2), .ref (g.2.2.1 a3)] R T R r := by
  refine z_metV (own := RX4) (lv := [some (.ref (g.2.2.1 a0)), some (.ref (g.2.2.1 a1)), some (.ref (g.2.2.1 a2)), some (.ref (g.2.2.1 a3)), none, none, none, none, none]) (by decide +kernel) rfl rfl rfl (fun X K => ?_)
  unfold pX4_fill at h
  refine z_iconst K 0 dX4_fill_0 rfl ?_
  refine z_istore K dX4_fill_1 rfl rfl ?_
  refine Zj.mask [true, true, true, true, true, false, false, false, false] ?_
  exact wX4_fill_3 K hR k0 k1 k2 k3 (wX4_fill_120 K hR k0 k1 k2 k3) FU _ _ h
/-! GoingOver$Heights.agreeing ([II)I -/
abbrev rmX4_agreeing : Room := { frames := 0, cells := 0, slots := 0, locals := 0 }
def pX4_agreeing_18 (R : Rf) (T : Mm) (a0 : Nat) (a1 : Nat) (x2 : Int32) (e65 : Int32 → Int32 → Int32 → Option (Int32)) (r18 : Int32 → Int32 → Int32 → Int32 → Option (Int32)) (x3 : Int32) (x4 : Int32) (x5 : Int32) (x6 : Int32) : Option (Int32) :=
  if x2 ≤ (x6 + 1) then e65 x3 x4 x5 else if x5 = 0 then lt (x6 + 2) (fun (v1 : Int32) => r18 x3 x4 0 v1) else ix x6 940 (ix (T.1 a1 x6.toNatClampNeg) 5 (ix x4 31 (ix (x6 + 1) 940 (if (T.1 (R (R a0 0) (T.1 a1 x6.toNatClampNeg).toNatClampNeg) x4.toNatClampNeg) = (T.1 a1 (x6 + 1).toNatClampNeg) then lt (x6 + 2) (fun (v3 : Int32) => r18 x3 x4 1 v3) else lt (x6 + 2) (fun (v2 : Int32) => r18 x3 x4 0 v2)))))
def pX4_agreeing_65 (R : Rf) (T : Mm) (a0 : Nat) (a1 : Nat) (x2 : Int32) (r5 : Int32 → Int32 → Option (Int32)) (e83 : Int32 → Option (Int32)) (x3 : Int32) (x4 : Int32) (x5 : Int32) : Option (Int32) :=
  if x5 = 0 then lt (x4 + 1) (fun (v4 : Int32) => r5 x3 v4) else lt (x3 ||| (1 <<< (x4 &&& 31))) (fun (v5 : Int32) => lt (x4 + 1) (fun (v6 : Int32) => r5 v5 v6))
def pX4_agreeing_5 (R : Rf) (T : Mm) (a0 : Nat) (a1 : Nat) (x2 : Int32) (e83 : Int32 → Option (Int32)) (r5 : Int32 → Int32 → Option (Int32)) (x3 : Int32) (x4 : Int32) : Option (Int32) :=
  if 30 < x4 then e83 x3 else zl4 (pX4_agreeing_18 R T a0 a1 x2 (pX4_agreeing_65 R T a0 a1 x2 r5 e83)) FU x3 x4 1 0
def pX4_agreeing_83 (R : Rf) (T : Mm) (a0 : Nat) (a1 : Nat) (x2 : Int32) (x3 : Int32) : Option (Int32) :=
  some x3
def pX4_agreeing (R : Rf) (T : Mm) (a0 : Nat) (a1 : Nat) (x2 : Int32) : Option (Int32) :=
  zl2 (pX4_agreeing_5 R T a0 a1 x2 (pX4_agreeing_83 R T a0 a1 x2)) FU 0 1
set_option maxRecDepth 100000 in
set_option maxHeartbeats 4000000 in
theorem wX4_agreeing_18 {X : Cx} {g : Gl} {l : Launch} {R : Rf} {T : Mm} {a0 : Nat} {a1 : Nat} {x2 : Int32} (K : Ok X g l cX4_agreeing RX4 7 (some .int) rmX4_agreeing) (hR : Ty g R) (k0 : kd g a0 = 4) (k1 : kd g a1 = 20940) {r : Int32} {e65 : Int32 → Int32 → Int32 → Option (Int32)} (he65 : ∀ (x3 : Int32) (x4 : Int32) (x5 : Int32), e65 x3 x4 x5 = some r → Zj X g 7 (QI X g r R T) R T [some (.ref (g.2.2.1 a0)), some (.ref (g.2.2.1 a1)), some (.int x2), some (.int x3), some (.int x4), some (.int x5), none] [] 65) : ∀ (n : Nat) (x3 : Int32) (x4 : Int32) (x5 : Int32) (x6 : Int32), zl4 (pX4_agreeing_18 R T a0 a1 x2 e65) n x3 x4 x5 x6 = some r → Zj X g 7 (QI X g r R T) R T [some (.ref (g.2.2.1 a0)), some (.ref (g.2.2.1 a1)), some (.int x2), some (.int x3), some (.int x4), some (.int x5), some (.int x6)] [] 18 := by
  intro n
  induction n with
  | zero =>
    intro x3 x4 x5 x6 h
    exact absurd h (by simp [zl4])
  | succ n hr18 =>
    intro x3 x4 x5 x6 h
    rw [zl4_s] at h
    unfold pX4_agreeing_18 at h
    refine z_iload K dX4_agreeing_18 rfl ?_
    refine z_iconst K 1 dX4_agreeing_20 rfl ?_
    refine z_iadd K dX4_agreeing_21 ?_
    refine z_iload_n K dX4_agreeing_22 rfl ?_
    refine z_icmp_ge K 65 dX4_agreeing_23 (by decide) (fun c => ?_) (fun c => ?_)
    · have h := ite_t h c
      refine Zj.mask [true, true, true, true, true, true, false] ?_
      exact he65 _ _ _ h
    · have h := ite_f h c
      refine z_iload K dX4_agreeing_26 rfl ?_
      refine z_if_eq K 56 dX4_agreeing_28 (by decide) (fun c => ?_) (fun c => ?_)
      · have h := ite_t h c
        refine z_iconst K 0 dX4_agreeing_56 rfl ?_
        refine z_istore K dX4_agreeing_57 rfl rfl ?_
        refine z_iinc K 2 dX4_agreeing_59 rfl rfl rfl rfl ?_
        refine z_goto K 18 dX4_agreeing_62 (by decide) ?_
        refine Zj.mask [true, true, true, true, true, true, true] ?_
        exact hr18 _ _ _ _ h
      · have h := ite_f h c
        refine z_aload_n K dX4_agreeing_31 rfl ?_
        refine z_getR K clX4 k0 0 rfl rfl q418 dX4_agreeing_32 ?_
        refine z_aload_n K dX4_agreeing_35 rfl ?_
        refine z_iload K dX4_agreeing_36 rfl ?_
        obtain ⟨hi, h⟩ := ix_e h
        refine z_iald K k1 rfl rfl rfl hi dX4_agreeing_38 ?_
        obtain ⟨hi, h⟩ := ix_e h
        refine z_aald6 K (hR.at (k := 0) (t := 70005) k0 rfl rfl) rfl rfl rfl hi dX4_agreeing_39 ?_
        refine z_iload K dX4_agreeing_40 rfl ?_
        obtain ⟨hi, h⟩ := ix_e h
        refine z_iald K (hR.at (t := 20031) (hR.at (k := 0) (t := 70005) k0 rfl rfl) rfl rfl) rfl rfl rfl hi dX4_agreeing_42 ?_
        refine z_aload_n K dX4_agreeing_43 rfl ?_
        refine z_iload K dX4_agreeing_44 rfl ?_
        refine z_iconst K 1 dX4_agreeing_46 rfl ?_
        refine z_iadd K dX4_agreeing_47 ?_
        obtain ⟨hi, h⟩ := ix_e h
        refine z_iald K k1 rfl rfl rfl hi dX4_agreeing_48 ?_
        refine z_icmp_ne K 56 dX4_agreeing_49 (by decide) (fun c => ?_) (fun c => ?_)
        · have h := ite_f h c
          refine z_iconst K 0 dX4_agreeing_56 rfl ?_
          refine z_istore K dX4_agreeing_57 rfl rfl ?_
          refine z_iinc K 2 dX4_agreeing_59 rfl rfl rfl rfl ?_
          refine z_goto K 18 dX4_agreeing_62 (by decide) ?_
          refine Zj.mask [true, true, true, true, true, true, true] ?_
          exact hr18 _ _ _ _ h
        · have h := ite_t h c
          refine z_iconst K 1 dX4_agreeing_52 rfl ?_
          refine z_goto K 57 dX4_agreeing_53 (by decide) ?_
          refine z_istore K dX4_agreeing_57 rfl rfl ?_
          refine z_iinc K 2 dX4_agreeing_59 rfl rfl rfl rfl ?_
          refine z_goto K 18 dX4_agreeing_62 (by decide) ?_
          refine Zj.mask [true, true, true, true, true, true, true] ?_
          exact hr18 _ _ _ _ h
set_option maxRecDepth 100000 in
set_option maxHeartbeats 4000000 in
theorem wX4_agreeing_65 {X : Cx} {g : Gl} {l : Launch} {R : Rf} {T : Mm} {a0 : Nat} {a1 : Nat} {x2 : Int32} (K : Ok X g l cX4_agreeing RX4 7 (some .int) rmX4_agreeing) (hR : Ty g R) (k0 : kd g a0 = 4) (k1 : kd g a1 = 20940) {r : Int32} {r5 : Int32 → Int32 → Option (Int32)} (hr5 : ∀ (x3 : Int32) (x4 : Int32), r5 x3 x4 = some r → Zj X g 7 (QI X g r R T) R T [some (.ref (g.2.2.1 a0)), some (.ref (g.2.2.1 a1)), some (.int x2), some (.int x3), some (.int x4), none, none] [] 5) {e83 : Int32 → Option (Int32)} (he83 : ∀ (x3 : Int32), e83 x3 = some r → Zj X g 7 (QI X g r R T) R T [none, none, none, some (.int x3), none, none, none] [] 83) (x3 : Int32) (x4 : Int32) (x5 : Int32) (h : pX4_agreeing_65 R T a0 a1 x2 r5 e83 x3 x4 x5 = some r) : Zj X g 7 (QI X g r R T) R T [some (.ref (g.2.2.1 a0)), some (.ref (g.2.2.1 a1)), some (.int x2), some (.int x3), some (.int x4), some (.int x5), none] [] 65 := by
  unfold pX4_agreeing_65 at h
  refine z_iload K dX4_agreeing_65 rfl ?_
  refine z_if_eq K 77 dX4_agreeing_67 (by decide) (fun c => ?_) (fun c => ?_)
  · have h := ite_t h c
    refine z_iinc K 1 dX4_agreeing_77 rfl rfl rfl rfl ?_
    refine z_goto K 5 dX4_agreeing_80 (by decide) ?_
    refine Zj.mask [true, true, true, true, true, false, false] ?_
    exact hr5 _ _ h
  · have h := ite_f h c
    refine z_iload_n K dX4_agreeing_70 rfl ?_
    refine z_iconst K 1 dX4_agreeing_71 rfl ?_
    refine z_iload K dX4_agreeing_72 rfl ?_
    refine z_ishl K dX4_agreeing_74 ?_
    refine z_ior K dX4_agreeing_75 ?_
    refine z_istore_n K dX4_agreeing_76 rfl rfl ?_
    refine z_iinc K 1 dX4_agreeing_77 rfl rfl rfl rfl ?_
    refine z_goto K 5 dX4_agreeing_80 (by decide) ?_
    refine Zj.mask [true, true, true, true, true, false, false] ?_
    exact hr5 _ _ h
set_option maxRecDepth 100000 in
set_option maxHeartbeats 4000000 in
theorem wX4_agreeing_5 {X : Cx} {g : Gl} {l : Launch} {R : Rf} {T : Mm} {a0 : Nat} {a1 : Nat} {x2 : Int32} (K : Ok X g l cX4_agreeing RX4 7 (some .int) rmX4_agreeing) (hR : Ty g R) (k0 : kd g a0 = 4) (k1 : kd g a1 = 20940) {r : Int32} {e83 : Int32 → Option (Int32)} (he83 : ∀ (x3 : Int32), e83 x3 = some r → Zj X g 7 (QI X g r R T) R T [none, none, none, some (.int x3), none, none, none] [] 83) : ∀ (n : Nat) (x3 : Int32) (x4 : Int32), zl2 (pX4_agreeing_5 R T a0 a1 x2 e83) n x3 x4 = some r → Zj X g 7 (QI X g r R T) R T [some (.ref (g.2.2.1 a0)), some (.ref (g.2.2.1 a1)), some (.int x2), some (.int x3), some (.int x4), none, none] [] 5 := by
  intro n
  induction n with
  | zero =>
    intro x3 x4 h
    exact absurd h (by simp [zl2])
  | succ n hr5 =>
    intro x3 x4 h
    rw [zl2_s] at h
    unfold pX4_agreeing_5 at h
    refine z_iload K dX4_agreeing_5 rfl ?_
    refine z_bipush K 30 dX4_agreeing_7 rfl ?_
    refine z_icmp_gt K 83 dX4_agreeing_9 (by decide) (fun c => ?_) (fun c => ?_)
    · have h := ite_t h c
      refine Zj.mask [false, false, false, true, false, false, false] ?_
      exact he83 _ h
    · have h := ite_f h c
      refine z_iconst K 1 dX4_agreeing_12 rfl ?_
      refine z_istore K dX4_agreeing_13 rfl rfl ?_
      refine z_iconst K 0 dX4_agreeing_15 rfl ?_
      refine z_istore K dX4_agreeing_16 rfl rfl ?_
      refine Zj.mask [true, true, true, true, true, true, true] ?_
      exact wX4_agreeing_18 K hR k0 k1 (wX4_agreeing_65 K hR k0 k1 hr5 he83) FU _ _ _ _ h
set_option maxRecDepth 100000 in
set_option maxHeartbeats 4000000 in
theorem wX4_agreeing_83 {X : Cx} {g : Gl} {l : Launch} {R : Rf} {T : Mm} {a0 : Nat} {a1 : Nat} {x2 : Int32} (K : Ok X g l cX4_agreeing RX4 7 (some .int) rmX4_agreeing) (hR : Ty g R) (k0 : kd g a0 = 4) (k1 : kd g a1 = 20940) {r : Int32} (x3 : Int32) (h : pX4_agreeing_83 R T a0 a1 x2 x3 = some r) : Zj X g 7 (QI X g r R T) R T [none, none, none, some (.int x3), none, none, none] [] 83 := by
  unfold pX4_agreeing_83 at h
  refine z_iload_n K dX4_agreeing_83 rfl ?_
  obtain rfl := Option.some.inj h
  exact z_iret K dX4_agreeing_84
set_option maxRecDepth 100000 in
set_option maxHeartbeats 4000000 in
theorem mX4_agreeing {g : Gl} {R : Rf} {T : Mm} {a0 : Nat} {a1 : Nat} {x2 : Int32} (l : Launch) (hR : Ty g R) (k0 : kd g a0 = 4) (k1 : kd g a1 = 20940) {r : Int32} (h : pX4_agreeing R T a0 a1 x2 = some r) : MI l g yX4_agreeing cX4_agreeing 7 (some .int) rmX4_agreeing [.ref (g.2.2.1 a0), .ref (g.2.2.1 a1), .int x2] R T r R T := by
  refine z_metI (own := RX4) (lv := [some (.ref (g.2.2.1 a0)), some (.ref (g.2.2.1 a1)), some (.int x2), none, none, none, none]) (by decide +kernel) rfl rfl rfl (fun X K => ?_)
  unfold pX4_agreeing at h
  refine z_iconst K 0 dX4_agreeing_0 rfl ?_
  refine z_istore_n K dX4_agreeing_1 rfl rfl ?_
  refine z_iconst K 1 dX4_agreeing_2 rfl ?_
  refine z_istore K dX4_agreeing_3 rfl rfl ?_
  refine Zj.mask [true, true, true, true, true, false, false] ?_
  exact wX4_agreeing_5 K hR k0 k1 (wX4_agreeing_83 K hR k0 k1) FU _ _ h
/-! GoingOver$Heights.leastOf (I)I -/
abbrev rmX4_leastOf : Room := { frames := 0, cells := 0, slots := 0, locals := 0 }
def pX4_leastOf_2 (R : Rf) (T : Mm) (x0 : Int32) (e16 : Int32 → Option (Int32)) (e24 : Option (Int32)) (r2 : Int32 → Option (Int32)) (x1 : Int32) : Option (Int32) :=
  if 30 < x1 then e24 else if ((x0 >>> (x1 &&& 31)) &&& 1) = 0 then lt (x1 + 1) (fun (v1 : Int32) => r2 v1) else e16 x1
def pX4_leastOf_16 (R : Rf) (T : Mm) (x0 : Int32) (x1 : Int32) : Option (Int32) :=
  some x1
def pX4_leastOf_24 (R : Rf) (T : Mm) (x0 : Int32) : Option (Int32) :=
  some (-1)
def pX4_leastOf (R : Rf) (T : Mm) (x0 : Int32) : Option (Int32) :=
  zl1 (pX4_leastOf_2 R T x0 (pX4_leastOf_16 R T x0) (pX4_leastOf_24 R T x0)) FU 1
set_option maxRecDepth 100000 in
set_option maxHeartbeats 4000000 in
theorem wX4_leastOf_2 {X : Cx} {g : Gl} {l : Launch} {R : Rf} {T : Mm} {x0 : Int32} (K : Ok X g l cX4_leastOf RX4 2 (some .int) rmX4_leastOf) (hR : Ty g R) {r : Int32} {e16 : Int32 → Option (Int32)} (he16 : ∀ (x1 : Int32), e16 x1 = some r → Zj X g 2 (QI X g r R T) R T [none, some (.int x1)] [] 16) {e24 : Option (Int32)} (he24 : e24 = some r → Zj X g 2 (QI X g r R T) R T [none, none] [] 24) : ∀ (n : Nat) (x1 : Int32), zl1 (pX4_leastOf_2 R T x0 e16 e24) n x1 = some r → Zj X g 2 (QI X g r R T) R T [some (.int x0), some (.int x1)] [] 2 := by
  intro n
  induction n with
  | zero =>
    intro x1 h
    exact absurd h (by simp [zl1])
  | succ n hr2 =>
    intro x1 h
    rw [zl1_s] at h
    unfold pX4_leastOf_2 at h
    refine z_iload_n K dX4_leastOf_2 rfl ?_
    refine z_bipush K 30 dX4_leastOf_3 rfl ?_
    refine z_icmp_gt K 24 dX4_leastOf_5 (by decide) (fun c => ?_) (fun c => ?_)
    · have h := ite_t h c
      refine Zj.mask [false, false] ?_
      exact he24 h
    · have h := ite_f h c
      refine z_iload_n K dX4_leastOf_8 rfl ?_
      refine z_iload_n K dX4_leastOf_9 rfl ?_
      refine z_ishr K dX4_leastOf_10 ?_
      refine z_iconst K 1 dX4_leastOf_11 rfl ?_
      refine z_iand K dX4_leastOf_12 ?_
      refine z_if_eq K 18 dX4_leastOf_13 (by decide) (fun c => ?_) (fun c => ?_)
      · have h := ite_t h c
        refine z_iinc K 1 dX4_leastOf_18 rfl rfl rfl rfl ?_
        refine z_goto K 2 dX4_leastOf_21 (by decide) ?_
        refine Zj.mask [true, true] ?_
        exact hr2 _ h
      · have h := ite_f h c
        refine Zj.mask [false, true] ?_
        exact he16 _ h
set_option maxRecDepth 100000 in
set_option maxHeartbeats 4000000 in
theorem wX4_leastOf_16 {X : Cx} {g : Gl} {l : Launch} {R : Rf} {T : Mm} {x0 : Int32} (K : Ok X g l cX4_leastOf RX4 2 (some .int) rmX4_leastOf) (hR : Ty g R) {r : Int32} (x1 : Int32) (h : pX4_leastOf_16 R T x0 x1 = some r) : Zj X g 2 (QI X g r R T) R T [none, some (.int x1)] [] 16 := by
  unfold pX4_leastOf_16 at h
  refine z_iload_n K dX4_leastOf_16 rfl ?_
  obtain rfl := Option.some.inj h
  exact z_iret K dX4_leastOf_17
set_option maxRecDepth 100000 in
set_option maxHeartbeats 4000000 in
theorem wX4_leastOf_24 {X : Cx} {g : Gl} {l : Launch} {R : Rf} {T : Mm} {x0 : Int32} (K : Ok X g l cX4_leastOf RX4 2 (some .int) rmX4_leastOf) (hR : Ty g R) {r : Int32} (h : pX4_leastOf_24 R T x0 = some r) : Zj X g 2 (QI X g r R T) R T [none, none] [] 24 := by
  unfold pX4_leastOf_24 at h
  refine z_iconst K (-1) dX4_leastOf_24 rfl ?_
  obtain rfl := Option.some.inj h
  exact z_iret K dX4_leastOf_25
set_option maxRecDepth 100000 in
set_option maxHeartbeats 4000000 in
theorem mX4_leastOf {g : Gl} {R : Rf} {T : Mm} {x0 : Int32} (l : Launch) (hR : Ty g R) {r : Int32} (h : pX4_leastOf R T x0 = some r) : MI l g yX4_leastOf cX4_leastOf 2 (some .int) rmX4_leastOf [.int x0] R T r R T := by
  refine z_metI (own := RX4) (lv := [some (.int x0), none]) (by decide +kernel) rfl rfl rfl (fun X K => ?_)
  unfold pX4_leastOf at h
  refine z_iconst K 1 dX4_leastOf_0 rfl ?_
  refine z_istore_n K dX4_leastOf_1 rfl rfl ?_
  refine Zj.mask [true, true] ?_
  exact wX4_leastOf_2 K hR (wX4_leastOf_16 K hR) (wX4_leastOf_24 K hR) FU _ h
/-! GoingOver$Heights.mostLeft (II)I -/
abbrev rmX4_mostLeft : Room := { frames := 0, cells := 0, slots := 0, locals := 0 }
def pX4_mostLeft_18 (R : Rf) (T : Mm) (a0 : Nat) (x1 : Int32) (x2 : Int32) (e57 : Int32 → Int32 → Int32 → Option (Int32)) (r18 : Int32 → Int32 → Int32 → Int32 → Option (Int32)) (x3 : Int32) (x4 : Int32) (x5 : Int32) (x6 : Int32) : Option (Int32) :=
  if 30 < x6 then e57 x3 x4 x5 else if ((x1 >>> (x6 &&& 31)) &&& 1) = 0 then lt (x6 + 1) (fun (v1 : Int32) => r18 x3 x4 x5 v1) else ix x2 5 (ix x6 31 (if (T.1 (R (R a0 0) x2.toNatClampNeg) x6.toNatClampNeg) = x4 then lt (x5 + 1) (fun (v3 : Int32) => lt (x6 + 1) (fun (v4 : Int32) => r18 x3 x4 v3 v4)) else lt (x6 + 1) (fun (v2 : Int32) => r18 x3 x4 x5 v2)))
def pX4_mostLeft_57 (R : Rf) (T : Mm) (a0 : Nat) (x1 : Int32) (x2 : Int32) (r5 : Int32 → Int32 → Option (Int32)) (e76 : Int32 → Option (Int32)) (x3 : Int32) (x4 : Int32) (x5 : Int32) : Option (Int32) :=
  if x5 ≤ x3 then lt (x4 + 1) (fun (v5 : Int32) => r5 x3 v5) else lt (x4 + 1) (fun (v6 : Int32) => r5 x5 v6)
def pX4_mostLeft_5 (R : Rf) (T : Mm) (a0 : Nat) (x1 : Int32) (x2 : Int32) (e76 : Int32 → Option (Int32)) (r5 : Int32 → Int32 → Option (Int32)) (x3 : Int32) (x4 : Int32) : Option (Int32) :=
  if 10 < x4 then e76 x3 else zl4 (pX4_mostLeft_18 R T a0 x1 x2 (pX4_mostLeft_57 R T a0 x1 x2 r5 e76)) FU x3 x4 0 1
def pX4_mostLeft_76 (R : Rf) (T : Mm) (a0 : Nat) (x1 : Int32) (x2 : Int32) (x3 : Int32) : Option (Int32) :=
  some x3
def pX4_mostLeft (R : Rf) (T : Mm) (a0 : Nat) (x1 : Int32) (x2 : Int32) : Option (Int32) :=
  zl2 (pX4_mostLeft_5 R T a0 x1 x2 (pX4_mostLeft_76 R T a0 x1 x2)) FU 0 0
set_option maxRecDepth 100000 in
set_option maxHeartbeats 4000000 in
theorem wX4_mostLeft_18 {X : Cx} {g : Gl} {l : Launch} {R : Rf} {T : Mm} {a0 : Nat} {x1 : Int32} {x2 : Int32} (K : Ok X g l cX4_mostLeft RX4 7 (some .int) rmX4_mostLeft) (hR : Ty g R) (k0 : kd g a0 = 4) {r : Int32} {e57 : Int32 → Int32 → Int32 → Option (Int32)} (he57 : ∀ (x3 : Int32) (x4 : Int32) (x5 : Int32), e57 x3 x4 x5 = some r → Zj X g 7 (QI X g r R T) R T [some (.ref (g.2.2.1 a0)), some (.int x1), some (.int x2), some (.int x3), some (.int x4), some (.int x5), none] [] 57) : ∀ (n : Nat) (x3 : Int32) (x4 : Int32) (x5 : Int32) (x6 : Int32), zl4 (pX4_mostLeft_18 R T a0 x1 x2 e57) n x3 x4 x5 x6 = some r → Zj X g 7 (QI X g r R T) R T [some (.ref (g.2.2.1 a0)), some (.int x1), some (.int x2), some (.int x3), some (.int x4), some (.int x5), some (.int x6)] [] 18 := by
  intro n
  induction n with
  | zero =>
    intro x3 x4 x5 x6 h
    exact absurd h (by simp [zl4])
  | succ n hr18 =>
    intro x3 x4 x5 x6 h
    rw [zl4_s] at h
    unfold pX4_mostLeft_18 at h
    refine z_iload K dX4_mostLeft_18 rfl ?_
    refine z_bipush K 30 dX4_mostLeft_20 rfl ?_
    refine z_icmp_gt K 57 dX4_mostLeft_22 (by decide) (fun c => ?_) (fun c => ?_)
    · have h := ite_t h c
      refine Zj.mask [true, true, true, true, true, true, false] ?_
      exact he57 _ _ _ h
    · have h := ite_f h c
      refine z_iload_n K dX4_mostLeft_25 rfl ?_
      refine z_iload K dX4_mostLeft_26 rfl ?_
      refine z_ishr K dX4_mostLeft_28 ?_
      refine z_iconst K 1 dX4_mostLeft_29 rfl ?_
      refine z_iand K dX4_mostLeft_30 ?_
      refine z_if_eq K 51 dX4_mostLeft_31 (by decide) (fun c => ?_) (fun c => ?_)
      · have h := ite_t h c
        refine z_iinc K 1 dX4_mostLeft_51 rfl rfl rfl rfl ?_
        refine z_goto K 18 dX4_mostLeft_54 (by decide) ?_
        refine Zj.mask [true, true, true, true, true, true, true] ?_
        exact hr18 _ _ _ _ h
      · have h := ite_f h c
        refine z_aload_n K dX4_mostLeft_34 rfl ?_
        refine z_getR K clX4 k0 0 rfl rfl q418 dX4_mostLeft_35 ?_
        refine z_iload_n K dX4_mostLeft_38 rfl ?_
        obtain ⟨hi, h⟩ := ix_e h
        refine z_aald6 K (hR.at (k := 0) (t := 70005) k0 rfl rfl) rfl rfl rfl hi dX4_mostLeft_39 ?_
        refine z_iload K dX4_mostLeft_40 rfl ?_
        obtain ⟨hi, h⟩ := ix_e h
        refine z_iald K (hR.at (t := 20031) (hR.at (k := 0) (t := 70005) k0 rfl rfl) rfl rfl) rfl rfl rfl hi dX4_mostLeft_42 ?_
        refine z_iload K dX4_mostLeft_43 rfl ?_
        refine z_icmp_ne K 51 dX4_mostLeft_45 (by decide) (fun c => ?_) (fun c => ?_)
        · have h := ite_f h c
          refine z_iinc K 1 dX4_mostLeft_51 rfl rfl rfl rfl ?_
          refine z_goto K 18 dX4_mostLeft_54 (by decide) ?_
          refine Zj.mask [true, true, true, true, true, true, true] ?_
          exact hr18 _ _ _ _ h
        · have h := ite_t h c
          refine z_iinc K 1 dX4_mostLeft_48 rfl rfl rfl rfl ?_
          refine z_iinc K 1 dX4_mostLeft_51 rfl rfl rfl rfl ?_
          refine z_goto K 18 dX4_mostLeft_54 (by decide) ?_
          refine Zj.mask [true, true, true, true, true, true, true] ?_
          exact hr18 _ _ _ _ h
set_option maxRecDepth 100000 in
set_option maxHeartbeats 4000000 in
theorem wX4_mostLeft_57 {X : Cx} {g : Gl} {l : Launch} {R : Rf} {T : Mm} {a0 : Nat} {x1 : Int32} {x2 : Int32} (K : Ok X g l cX4_mostLeft RX4 7 (some .int) rmX4_mostLeft) (hR : Ty g R) (k0 : kd g a0 = 4) {r : Int32} {r5 : Int32 → Int32 → Option (Int32)} (hr5 : ∀ (x3 : Int32) (x4 : Int32), r5 x3 x4 = some r → Zj X g 7 (QI X g r R T) R T [some (.ref (g.2.2.1 a0)), some (.int x1), some (.int x2), some (.int x3), some (.int x4), none, none] [] 5) {e76 : Int32 → Option (Int32)} (he76 : ∀ (x3 : Int32), e76 x3 = some r → Zj X g 7 (QI X g r R T) R T [none, none, none, some (.int x3), none, none, none] [] 76) (x3 : Int32) (x4 : Int32) (x5 : Int32) (h : pX4_mostLeft_57 R T a0 x1 x2 r5 e76 x3 x4 x5 = some r) : Zj X g 7 (QI X g r R T) R T [some (.ref (g.2.2.1 a0)), some (.int x1), some (.int x2), some (.int x3), some (.int x4), some (.int x5), none] [] 57 := by
  unfold pX4_mostLeft_57 at h
  refine z_iload K dX4_mostLeft_57 rfl ?_
  refine z_iload_n K dX4_mostLeft_59 rfl ?_
  refine z_icmp_le K 68 dX4_mostLeft_60 (by decide) (fun c => ?_) (fun c => ?_)
  · have h := ite_t h c
    refine z_iload_n K dX4_mostLeft_68 rfl ?_
    refine z_istore_n K dX4_mostLeft_69 rfl rfl ?_
    refine z_iinc K 1 dX4_mostLeft_70 rfl rfl rfl rfl ?_
    refine z_goto K 5 dX4_mostLeft_73 (by decide) ?_
    refine Zj.mask [true, true, true, true, true, false, false] ?_
    exact hr5 _ _ h
  · have h := ite_f h c
    refine z_iload K dX4_mostLeft_63 rfl ?_
    refine z_goto K 69 dX4_mostLeft_65 (by decide) ?_
    refine z_istore_n K dX4_mostLeft_69 rfl rfl ?_
    refine z_iinc K 1 dX4_mostLeft_70 rfl rfl rfl rfl ?_
    refine z_goto K 5 dX4_mostLeft_73 (by decide) ?_
    refine Zj.mask [true, true, true, true, true, false, false] ?_
    exact hr5 _ _ h
set_option maxRecDepth 100000 in
set_option maxHeartbeats 4000000 in
theorem wX4_mostLeft_5 {X : Cx} {g : Gl} {l : Launch} {R : Rf} {T : Mm} {a0 : Nat} {x1 : Int32} {x2 : Int32} (K : Ok X g l cX4_mostLeft RX4 7 (some .int) rmX4_mostLeft) (hR : Ty g R) (k0 : kd g a0 = 4) {r : Int32} {e76 : Int32 → Option (Int32)} (he76 : ∀ (x3 : Int32), e76 x3 = some r → Zj X g 7 (QI X g r R T) R T [none, none, none, some (.int x3), none, none, none] [] 76) : ∀ (n : Nat) (x3 : Int32) (x4 : Int32), zl2 (pX4_mostLeft_5 R T a0 x1 x2 e76) n x3 x4 = some r → Zj X g 7 (QI X g r R T) R T [some (.ref (g.2.2.1 a0)), some (.int x1), some (.int x2), some (.int x3), some (.int x4), none, none] [] 5 := by
  intro n
  induction n with
  | zero =>
    intro x3 x4 h
    exact absurd h (by simp [zl2])
  | succ n hr5 =>
    intro x3 x4 h
    rw [zl2_s] at h
    unfold pX4_mostLeft_5 at h
    refine z_iload K dX4_mostLeft_5 rfl ?_
    refine z_bipush K 10 dX4_mostLeft_7 rfl ?_
    refine z_icmp_gt K 76 dX4_mostLeft_9 (by decide) (fun c => ?_) (fun c => ?_)
    · have h := ite_t h c
      refine Zj.mask [false, false, false, true, false, false, false] ?_
      exact he76 _ h
    · have h := ite_f h c
      refine z_iconst K 0 dX4_mostLeft_12 rfl ?_
      refine z_istore K dX4_mostLeft_13 rfl rfl ?_
      refine z_iconst K 1 dX4_mostLeft_15 rfl ?_
      refine z_istore K dX4_mostLeft_16 rfl rfl ?_
      refine Zj.mask [true, true, true, true, true, true, true] ?_
      exact wX4_mostLeft_18 K hR k0 (wX4_mostLeft_57 K hR k0 hr5 he76) FU _ _ _ _ h
set_option maxRecDepth 100000 in
set_option maxHeartbeats 4000000 in
theorem wX4_mostLeft_76 {X : Cx} {g : Gl} {l : Launch} {R : Rf} {T : Mm} {a0 : Nat} {x1 : Int32} {x2 : Int32} (K : Ok X g l cX4_mostLeft RX4 7 (some .int) rmX4_mostLeft) (hR : Ty g R) (k0 : kd g a0 = 4) {r : Int32} (x3 : Int32) (h : pX4_mostLeft_76 R T a0 x1 x2 x3 = some r) : Zj X g 7 (QI X g r R T) R T [none, none, none, some (.int x3), none, none, none] [] 76 := by
  unfold pX4_mostLeft_76 at h
  refine z_iload_n K dX4_mostLeft_76 rfl ?_
  obtain rfl := Option.some.inj h
  exact z_iret K dX4_mostLeft_77
set_option maxRecDepth 100000 in
set_option maxHeartbeats 4000000 in
theorem mX4_mostLeft {g : Gl} {R : Rf} {T : Mm} {a0 : Nat} {x1 : Int32} {x2 : Int32} (l : Launch) (hR : Ty g R) (k0 : kd g a0 = 4) {r : Int32} (h : pX4_mostLeft R T a0 x1 x2 = some r) : MI l g yX4_mostLeft cX4_mostLeft 7 (some .int) rmX4_mostLeft [.ref (g.2.2.1 a0), .int x1, .int x2] R T r R T := by
  refine z_metI (own := RX4) (lv := [some (.ref (g.2.2.1 a0)), some (.int x1), some (.int x2), none, none, none, none]) (by decide +kernel) rfl rfl rfl (fun X K => ?_)
  unfold pX4_mostLeft at h
  refine z_iconst K 0 dX4_mostLeft_0 rfl ?_
  refine z_istore_n K dX4_mostLeft_1 rfl rfl ?_
  refine z_iconst K 0 dX4_mostLeft_2 rfl ?_
  refine z_istore K dX4_mostLeft_3 rfl rfl ?_
  refine Zj.mask [true, true, true, true, true, false, false] ?_
  exact wX4_mostLeft_5 K hR k0 (wX4_mostLeft_76 K hR k0) FU _ _ h
