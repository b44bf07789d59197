/-! GoingOver$Heights.bestWatched (II)I -/
abbrev rmX4_bestWatched : Room := { frames := 1, cells := 0, slots := 0, locals := 26 }
def pX4_bestWatched_9 (R : Rf) (T : Mm) (a0 : Nat) (x1 : Int32) (x2 : Int32) (e44 : Int32 → Option (Int32)) (r9 : Int32 → Int32 → Int32 → Option (Int32)) (x3 : Int32) (x4 : Int32) (x5 : Int32) : Option (Int32) :=
  if x2 ≤ x5 then e44 x3 else bd1 (pX4_mostLeft R T a0 x1 x5) (fun (u1 : Int32) => if x4 ≤ u1 then lt (x5 + 1) (fun (v2 : Int32) => r9 x3 x4 v2) else lt (x5 + 1) (fun (v3 : Int32) => r9 x5 u1 v3))
def pX4_bestWatched_44 (R : Rf) (T : Mm) (a0 : Nat) (x1 : Int32) (x2 : Int32) (x3 : Int32) : Option (Int32) :=
  some x3
def pX4_bestWatched (R : Rf) (T : Mm) (a0 : Nat) (x1 : Int32) (x2 : Int32) : Option (Int32) :=
  zl3 (pX4_bestWatched_9 R T a0 x1 x2 (pX4_bestWatched_44 R T a0 x1 x2)) FU (-1) 31 0
set_option maxRecDepth 100000 in
set_option maxHeartbeats 4000000 in
theorem wX4_bestWatched_9 {X : Cx} {g : Gl} {l : Launch} {R : Rf} {T : Mm} {a0 : Nat} {x1 : Int32} {x2 : Int32} (K : Ok X g l cX4_bestWatched RX4 7 (some .int) rmX4_bestWatched) (hR : Ty g R) (k0 : kd g a0 = 4) {r : Int32} {e44 : Int32 → Option (Int32)} (he44 : ∀ (x3 : Int32), e44 x3 = some r → Zj X g 7 (QI X g r R T) R T [none, none, none, some (.int x3), none, none, none] [] 44) : ∀ (n : Nat) (x3 : Int32) (x4 : Int32) (x5 : Int32), zl3 (pX4_bestWatched_9 R T a0 x1 x2 e44) n x3 x4 x5 = some r → Zj X g 7 (QI X g r R T) R T [some (.ref (g.2.2.1 a0)), some (.int x1), some (.int x2), some (.int x3), some (.int x4), some (.int x5), none] [] 9 := by
  intro n
  induction n with
  | zero =>
    intro x3 x4 x5 h
    exact absurd h (by simp [zl3])
  | succ n hr9 =>
    intro x3 x4 x5 h
    rw [zl3_s] at h
    unfold pX4_bestWatched_9 at h
    refine z_iload K dX4_bestWatched_9 rfl ?_
    refine z_iload_n K dX4_bestWatched_11 rfl ?_
    refine z_icmp_ge K 44 dX4_bestWatched_12 (by decide) (fun c => ?_) (fun c => ?_)
    · have h := ite_t h c
      refine Zj.mask [false, false, false, true, false, false, false] ?_
      exact he44 _ h
    · have h := ite_f h c
      refine z_aload_n K dX4_bestWatched_15 rfl ?_
      refine z_iload_n K dX4_bestWatched_16 rfl ?_
      refine z_iload K dX4_bestWatched_17 rfl ?_
      obtain ⟨u1, hc, h⟩ := bd1_e h
      refine z_callVI K (mX4_mostLeft l hR k0 hc) clX4 k0 ceX4_mostLeft q999 ⟨rfl, rfl, rfl, rfl⟩ rfl rfl rfl dX4_bestWatched_19 ?_
      refine z_istore K dX4_bestWatched_22 rfl rfl ?_
      refine z_iload K dX4_bestWatched_24 rfl ?_
      refine z_iload K dX4_bestWatched_26 rfl ?_
      refine z_icmp_ge K 38 dX4_bestWatched_28 (by decide) (fun c => ?_) (fun c => ?_)
      · have h := ite_t h c
        refine z_iinc K 1 dX4_bestWatched_38 rfl rfl rfl rfl ?_
        refine z_goto K 9 dX4_bestWatched_41 (by decide) ?_
        refine Zj.mask [true, true, true, true, true, true, false] ?_
        exact hr9 _ _ _ h
      · have h := ite_f h c
        refine z_iload K dX4_bestWatched_31 rfl ?_
        refine z_istore K dX4_bestWatched_33 rfl rfl ?_
        refine z_iload K dX4_bestWatched_35 rfl ?_
        refine z_istore_n K dX4_bestWatched_37 rfl rfl ?_
        refine z_iinc K 1 dX4_bestWatched_38 rfl rfl rfl rfl ?_
        refine z_goto K 9 dX4_bestWatched_41 (by decide) ?_
        refine Zj.mask [true, true, true, true, true, true, false] ?_
        exact hr9 _ _ _ h
set_option maxRecDepth 100000 in
set_option maxHeartbeats 4000000 in
theorem wX4_bestWatched_44 {X : Cx} {g : Gl} {l : Launch} {R : Rf} {T : Mm} {a0 : Nat} {x1 : Int32} {x2 : Int32} (K : Ok X g l cX4_bestWatched RX4 7 (some .int) rmX4_bestWatched) (hR : Ty g R) (k0 : kd g a0 = 4) {r : Int32} (x3 : Int32) (h : pX4_bestWatched_44 R T a0 x1 x2 x3 = some r) : Zj X g 7 (QI X g r R T) R T [none, none, none, some (.int x3), none, none, none] [] 44 := by
  unfold pX4_bestWatched_44 at h
  refine z_iload_n K dX4_bestWatched_44 rfl ?_
  obtain rfl := Option.some.inj h
  exact z_iret K dX4_bestWatched_45
set_option maxRecDepth 100000 in
set_option maxHeartbeats 4000000 in
theorem mX4_bestWatched {g : Gl} {R : Rf} {T : Mm} {a0 : Nat} {x1 : Int32} {x2 : Int32} (l : Launch) (hR : Ty g R) (k0 : kd g a0 = 4) {r : Int32} (h : pX4_bestWatched R T a0 x1 x2 = some r) : MI l g yX4_bestWatched cX4_bestWatched 7 (some .int) rmX4_bestWatched [.ref (g.2.2.1 a0), .int x1, .int x2] R T r R T := by
  refine z_metI (own := RX4) (lv := [some (.ref (g.2.2.1 a0)), some (.int x1), some (.int x2), none, none, none, none]) (by decide +kernel) rfl rfl rfl (fun X K => ?_)
  unfold pX4_bestWatched at h
  refine z_iconst K (-1) dX4_bestWatched_0 rfl ?_
  refine z_istore_n K dX4_bestWatched_1 rfl rfl ?_
  refine z_bipush K 31 dX4_bestWatched_2 rfl ?_
  refine z_istore K dX4_bestWatched_4 rfl rfl ?_
  refine z_iconst K 0 dX4_bestWatched_6 rfl ?_
  refine z_istore K dX4_bestWatched_7 rfl rfl ?_
  refine Zj.mask [true, true, true, true, true, true, false] ?_
  exact wX4_bestWatched_9 K hR k0 (wX4_bestWatched_44 K hR k0) FU _ _ _ h
/-! GoingOver$Parts.holdByFate (LGoingOver$Falls;LGoingOver$Course;I)V -/
abbrev rmX6_holdByFate : Room := { frames := 3, cells := 0, slots := 0, locals := 69 }
def pX6_holdByFate (R : Rf) (T : Mm) (a0 : Nat) (a1 : Nat) (a2 : Nat) (x3 : Int32) : Option (Mm) :=
  bd1 (pX1_holdingAt R T a2 a1 x3 (T.1 a1 3)) (fun (u1 : Int32) => bd1 (pX6_hold R T a0 a1 u1) (fun (T2 : Mm) => some T2))
set_option maxRecDepth 100000 in
set_option maxHeartbeats 4000000 in
theorem mX6_holdByFate {g : Gl} {R : Rf} {T : Mm} {a0 : Nat} {a1 : Nat} {a2 : Nat} {x3 : Int32} (l : Launch) (hR : Ty g R) (k0 : kd g a0 = 6) (k1 : kd g a1 = 3) (k2 : kd g a2 = 1) {r : Mm} (h : pX6_holdByFate R T a0 a1 a2 x3 = some r) : MV l g yX6_holdByFate cX6_holdByFate 4 none rmX6_holdByFate [.ref (g.2.2.1 a0), .ref (g.2.2.1 a1), .ref (g.2.2.1 a2), .int x3] R T R r := by
  refine z_metV (own := RX6) (lv := [some (.ref (g.2.2.1 a0)), some (.ref (g.2.2.1 a1)), some (.ref (g.2.2.1 a2)), some (.int x3)]) (by decide +kernel) rfl rfl rfl (fun X K => ?_)
  unfold pX6_holdByFate at h
  refine z_aload_n K dX6_holdByFate_0 rfl ?_
  refine z_aload_n K dX6_holdByFate_1 rfl ?_
  refine z_aload_n K dX6_holdByFate_2 rfl ?_
  refine z_aload_n K dX6_holdByFate_3 rfl ?_
  refine z_iload_n K dX6_holdByFate_4 rfl ?_
  refine z_aload_n K dX6_holdByFate_5 rfl ?_
  refine z_getI K clX3 k1 3 rfl rfl q261 dX6_holdByFate_6 ?_
  obtain ⟨u1, hc, h⟩ := bd1_e h
  refine z_callVI K (mX1_holdingAt l hR k2 k1 hc) clX1 k2 ceX1_holdingAt q887 ⟨rfl, rfl, rfl, rfl⟩ rfl rfl rfl dX6_holdByFate_9 ?_
  obtain ⟨T2, hc, h⟩ := bd1_e h
  refine z_callVV K (mX6_hold l hR k0 k1 hc) clX6 k0 ceX6_hold q892 ⟨rfl, rfl, rfl, rfl⟩ rfl rfl rfl dX6_holdByFate_12 ?_
  obtain rfl := Option.some.inj h
  exact z_vret K dX6_holdByFate_15
/-! GoingOver$Parts.byFate (LGoingOver$Falls;LGoingOver$Course;I)I -/
abbrev rmX6_byFate : Room := { frames := 4, cells := 0, slots := 0, locals := 92 }
def pX6_byFate (R : Rf) (T : Mm) (a0 : Nat) (a1 : Nat) (a2 : Nat) (x3 : Int32) : Option (Int32 × Mm) :=
  bd1 (pX6_holdByFate R T a0 a1 a2 x3) (fun (T1 : Mm) => bd1 (pX3_itemsOf R T1 a1 x3) (fun (u2 : Int32) => bd1 (pX6_number R T1 a0 ((T1.1 a2 1) &&& u2)) (fun (u3 : Int32) => some (u3, T1))))
set_option maxRecDepth 100000 in
set_option maxHeartbeats 4000000 in
theorem mX6_byFate {g : Gl} {R : Rf} {T : Mm} {a0 : Nat} {a1 : Nat} {a2 : Nat} {x3 : Int32} (l : Launch) (hR : Ty g R) (k0 : kd g a0 = 6) (k1 : kd g a1 = 3) (k2 : kd g a2 = 1) {r : Int32 × Mm} (h : pX6_byFate R T a0 a1 a2 x3 = some r) : MI l g yX6_byFate cX6_byFate 4 (some .int) rmX6_byFate [.ref (g.2.2.1 a0), .ref (g.2.2.1 a1), .ref (g.2.2.1 a2), .int x3] R T r.1 R r.2 := by
  refine z_metI (own := RX6) (lv := [some (.ref (g.2.2.1 a0)), some (.ref (g.2.2.1 a1)), some (.ref (g.2.2.1 a2)), some (.int x3)]) (by decide +kernel) rfl rfl rfl (fun X K => ?_)
  unfold pX6_byFate at h
  refine z_aload_n K dX6_byFate_0 rfl ?_
  refine z_aload_n K dX6_byFate_1 rfl ?_
  refine z_aload_n K dX6_byFate_2 rfl ?_
  refine z_iload_n K dX6_byFate_3 rfl ?_
  obtain ⟨T1, hc, h⟩ := bd1_e h
  refine z_callVV K (mX6_holdByFate l hR k0 k1 k2 hc) clX6 k0 ceX6_holdByFate q883 ⟨rfl, rfl, rfl, rfl⟩ rfl rfl rfl dX6_byFate_4 ?_
  refine z_aload_n K dX6_byFate_7 rfl ?_
  refine z_aload_n K dX6_byFate_8 rfl ?_
  refine z_getI K clX1 k2 1 rfl rfl q338 dX6_byFate_9 ?_
  refine z_aload_n K dX6_byFate_12 rfl ?_
  refine z_iload_n K dX6_byFate_13 rfl ?_
  obtain ⟨u2, hc, h⟩ := bd1_e h
  refine z_callVI K (mX3_itemsOf l hR k1 hc) clX3 k1 ceX3_itemsOf q893 ⟨rfl, rfl, rfl, rfl⟩ rfl rfl rfl dX6_byFate_14 ?_
  refine z_iand K dX6_byFate_17 ?_
  obtain ⟨u3, hc, h⟩ := bd1_e h
  refine z_callVI K (mX6_number l hR k0 hc) clX6 k0 ceX6_number q897 ⟨rfl, rfl, rfl, rfl⟩ rfl rfl rfl dX6_byFate_18 ?_
  obtain rfl := Option.some.inj h
  exact z_iret K dX6_byFate_21
/-! GoingOver$Parts.asTheyAre (LGoingOver$Falls;LGoingOver$Course;I)I -/
abbrev rmX6_asTheyAre : Room := { frames := 2, cells := 0, slots := 0, locals := 50 }
def pX6_asTheyAre (R : Rf) (T : Mm) (a0 : Nat) (a1 : Nat) (a2 : Nat) (x3 : Int32) : Option (Int32 × Mm) :=
  bd1 (pX3_joinsHolding R T a1 x3 (T.1 a2 2) 0) (fun (u1 : Int32) => bd1 (pX6_hold R T a0 a1 u1) (fun (T2 : Mm) => bd1 (pX3_itemsOf R T2 a1 x3) (fun (u3 : Int32) => bd1 (pX6_number R T2 a0 ((T2.1 a2 1) &&& u3)) (fun (u4 : Int32) => some (u4, T2)))))
set_option maxRecDepth 100000 in
set_option maxHeartbeats 4000000 in
theorem mX6_asTheyAre {g : Gl} {R : Rf} {T : Mm} {a0 : Nat} {a1 : Nat} {a2 : Nat} {x3 : Int32} (l : Launch) (hR : Ty g R) (k0 : kd g a0 = 6) (k1 : kd g a1 = 3) (k2 : kd g a2 = 1) {r : Int32 × Mm} (h : pX6_asTheyAre R T a0 a1 a2 x3 = some r) : MI l g yX6_asTheyAre cX6_asTheyAre 4 (some .int) rmX6_asTheyAre [.ref (g.2.2.1 a0), .ref (g.2.2.1 a1), .ref (g.2.2.1 a2), .int x3] R T r.1 R r.2 := by
  refine z_metI (own := RX6) (lv := [some (.ref (g.2.2.1 a0)), some (.ref (g.2.2.1 a1)), some (.ref (g.2.2.1 a2)), some (.int x3)]) (by decide +kernel) rfl rfl rfl (fun X K => ?_)
  unfold pX6_asTheyAre at h
  refine z_aload_n K dX6_asTheyAre_0 rfl ?_
  refine z_aload_n K dX6_asTheyAre_1 rfl ?_
  refine z_aload_n K dX6_asTheyAre_2 rfl ?_
  refine z_iload_n K dX6_asTheyAre_3 rfl ?_
  refine z_aload_n K dX6_asTheyAre_4 rfl ?_
  refine z_getI K clX1 k2 2 rfl rfl q342 dX6_asTheyAre_5 ?_
  refine z_iconst K 0 dX6_asTheyAre_8 rfl ?_
  obtain ⟨u1, hc, h⟩ := bd1_e h
  refine z_callVI K (mX3_joinsHolding l hR k1 hc) clX3 k1 ceX3_joinsHolding q1023 ⟨rfl, rfl, rfl, rfl⟩ rfl rfl rfl dX6_asTheyAre_9 ?_
  obtain ⟨T2, hc, h⟩ := bd1_e h
  refine z_callVV K (mX6_hold l hR k0 k1 hc) clX6 k0 ceX6_hold q892 ⟨rfl, rfl, rfl, rfl⟩ rfl rfl rfl dX6_asTheyAre_12 ?_
  refine z_aload_n K dX6_asTheyAre_15 rfl ?_
  refine z_aload_n K dX6_asTheyAre_16 rfl ?_
  refine z_getI K clX1 k2 1 rfl rfl q338 dX6_asTheyAre_17 ?_
  refine z_aload_n K dX6_asTheyAre_20 rfl ?_
  refine z_iload_n K dX6_asTheyAre_21 rfl ?_
  obtain ⟨u3, hc, h⟩ := bd1_e h
  refine z_callVI K (mX3_itemsOf l hR k1 hc) clX3 k1 ceX3_itemsOf q893 ⟨rfl, rfl, rfl, rfl⟩ rfl rfl rfl dX6_asTheyAre_22 ?_
  refine z_iand K dX6_asTheyAre_25 ?_
  obtain ⟨u4, hc, h⟩ := bd1_e h
  refine z_callVI K (mX6_number l hR k0 hc) clX6 k0 ceX6_number q897 ⟨rfl, rfl, rfl, rfl⟩ rfl rfl rfl dX6_asTheyAre_26 ?_
  obtain rfl := Option.some.inj h
  exact z_iret K dX6_asTheyAre_29
/-! GoingOver$Parts.leastOf (I)I -/
abbrev rmX6_leastOf : Room := { frames := 0, cells := 0, slots := 0, locals := 0 }
def pX6_leastOf_2 (R : Rf) (T : Mm) (x0 : Int32) (e16 : Int32 → Option (Int32)) (e24 : Option (Int32)) (r2 : Int32 → Option (Int32)) (x1 : Int32) : Option (Int32) :=
  if 10 ≤ x1 then e24 else if ((x0 >>> (x1 &&& 31)) &&& 1) = 0 then lt (x1 + 1) (fun (v1 : Int32) => r2 v1) else e16 x1
def pX6_leastOf_16 (R : Rf) (T : Mm) (x0 : Int32) (x1 : Int32) : Option (Int32) :=
  some x1
def pX6_leastOf_24 (R : Rf) (T : Mm) (x0 : Int32) : Option (Int32) :=
  some (-1)
def pX6_leastOf (R : Rf) (T : Mm) (x0 : Int32) : Option (Int32) :=
  zl1 (pX6_leastOf_2 R T x0 (pX6_leastOf_16 R T x0) (pX6_leastOf_24 R T x0)) FU 0
set_option maxRecDepth 100000 in
set_option maxHeartbeats 4000000 in
theorem wX6_leastOf_2 {X : Cx} {g : Gl} {l : Launch} {R : Rf} {T : Mm} {x0 : Int32} (K : Ok X g l cX6_leastOf RX6 2 (some .int) rmX6_leastOf) (hR : Ty g R) {r : Int32} {e16 : Int32 → Option (Int32)} (he16 : ∀ (x1 : Int32), e16 x1 = some r → Zj X g 2 (QI X g r R T) R T [none, some (.int x1)] [] 16) {e24 : Option (Int32)} (he24 : e24 = some r → Zj X g 2 (QI X g r R T) R T [none, none] [] 24) : ∀ (n : Nat) (x1 : Int32), zl1 (pX6_leastOf_2 R T x0 e16 e24) n x1 = some r → Zj X g 2 (QI X g r R T) R T [some (.int x0), some (.int x1)] [] 2 := by
  intro n
  induction n with
  | zero =>
    intro x1 h
    exact absurd h (by simp [zl1])
  | succ n hr2 =>
    intro x1 h
    rw [zl1_s] at h
    unfold pX6_leastOf_2 at h
    refine z_iload_n K dX6_leastOf_2 rfl ?_
    refine z_bipush K 10 dX6_leastOf_3 rfl ?_
    refine z_icmp_ge K 24 dX6_leastOf_5 (by decide) (fun c => ?_) (fun c => ?_)
    · have h := ite_t h c
      refine Zj.mask [false, false] ?_
      exact he24 h
    · have h := ite_f h c
      refine z_iload_n K dX6_leastOf_8 rfl ?_
      refine z_iload_n K dX6_leastOf_9 rfl ?_
      refine z_ishr K dX6_leastOf_10 ?_
      refine z_iconst K 1 dX6_leastOf_11 rfl ?_
      refine z_iand K dX6_leastOf_12 ?_
      refine z_if_eq K 18 dX6_leastOf_13 (by decide) (fun c => ?_) (fun c => ?_)
      · have h := ite_t h c
        refine z_iinc K 1 dX6_leastOf_18 rfl rfl rfl rfl ?_
        refine z_goto K 2 dX6_leastOf_21 (by decide) ?_
        refine Zj.mask [true, true] ?_
        exact hr2 _ h
      · have h := ite_f h c
        refine Zj.mask [false, true] ?_
        exact he16 _ h
set_option maxRecDepth 100000 in
set_option maxHeartbeats 4000000 in
theorem wX6_leastOf_16 {X : Cx} {g : Gl} {l : Launch} {R : Rf} {T : Mm} {x0 : Int32} (K : Ok X g l cX6_leastOf RX6 2 (some .int) rmX6_leastOf) (hR : Ty g R) {r : Int32} (x1 : Int32) (h : pX6_leastOf_16 R T x0 x1 = some r) : Zj X g 2 (QI X g r R T) R T [none, some (.int x1)] [] 16 := by
  unfold pX6_leastOf_16 at h
  refine z_iload_n K dX6_leastOf_16 rfl ?_
  obtain rfl := Option.some.inj h
  exact z_iret K dX6_leastOf_17
set_option maxRecDepth 100000 in
set_option maxHeartbeats 4000000 in
theorem wX6_leastOf_24 {X : Cx} {g : Gl} {l : Launch} {R : Rf} {T : Mm} {x0 : Int32} (K : Ok X g l cX6_leastOf RX6 2 (some .int) rmX6_leastOf) (hR : Ty g R) {r : Int32} (h : pX6_leastOf_24 R T x0 = some r) : Zj X g 2 (QI X g r R T) R T [none, none] [] 24 := by
  unfold pX6_leastOf_24 at h
  refine z_iconst K (-1) dX6_leastOf_24 rfl ?_
  obtain rfl := Option.some.inj h
  exact z_iret K dX6_leastOf_25
set_option maxRecDepth 100000 in
set_option maxHeartbeats 4000000 in
theorem mX6_leastOf {g : Gl} {R : Rf} {T : Mm} {x0 : Int32} (l : Launch) (hR : Ty g R) {r : Int32} (h : pX6_leastOf R T x0 = some r) : MI l g yX6_leastOf cX6_leastOf 2 (some .int) rmX6_leastOf [.int x0] R T r R T := by
  refine z_metI (own := RX6) (lv := [some (.int x0), none]) (by decide +kernel) rfl rfl rfl (fun X K => ?_)
  unfold pX6_leastOf at h
  refine z_iconst K 0 dX6_leastOf_0 rfl ?_
  refine z_istore_n K dX6_leastOf_1 rfl rfl ?_
  refine Zj.mask [true, true] ?_
  exact wX6_leastOf_2 K hR (wX6_leastOf_16 K hR) (wX6_leastOf_24 K hR) FU _ h
/-! GoingOver$Parts.heaviestWhole (LGoingOver$Falls;II)I -/
abbrev rmX6_heaviestWhole : Room := { frames := 1, cells := 0, slots := 0, locals := 26 }
def pX6_heaviestWhole_9 (R : Rf) (T : Mm) (a0 : Nat) (a1 : Nat) (x2 : Int32) (x3 : Int32) (e83 : Int32 → Option (Int32)) (r9 : Int32 → Int32 → Int32 → Option (Int32)) (x4 : Int32) (x5 : Int32) (x6 : Int32) : Option (Int32) :=
  if (1 <<< ((T.1 a1 1) &&& 31)) ≤ x6 then e83 x4 else if (x6 &&& (x2 ^^^ (-1))) = 0 then bd1 (pX3_weightOf R T a1 x6) (fun (u1 : Int32) => if u1 ≤ x5 then lt (x6 + 1) (fun (v2 : Int32) => r9 x4 x5 v2) else if x3 < u1 then lt (x6 + 1) (fun (v3 : Int32) => r9 x4 x5 v3) else bd1 (pX6_leastOf R T x6) (fun (u4 : Int32) => bd1 (pX6_around R T a0 u4 x6) (fun (u5 : Int32) => if u5 = x6 then lt (x6 + 1) (fun (v7 : Int32) => r9 x6 u1 v7) else lt (x6 + 1) (fun (v6 : Int32) => r9 x4 x5 v6)))) else lt (x6 + 1) (fun (v8 : Int32) => r9 x4 x5 v8)
def pX6_heaviestWhole_83 (R : Rf) (T : Mm) (a0 : Nat) (a1 : Nat) (x2 : Int32) (x3 : Int32) (x4 : Int32) : Option (Int32) :=
  some x4
def pX6_heaviestWhole (R : Rf) (T : Mm) (a0 : Nat) (a1 : Nat) (x2 : Int32) (x3 : Int32) : Option (Int32) :=
  zl3 (pX6_heaviestWhole_9 R T a0 a1 x2 x3 (pX6_heaviestWhole_83 R T a0 a1 x2 x3)) FU 0 0 1
set_option maxRecDepth 100000 in
set_option maxHeartbeats 4000000 in
theorem wX6_heaviestWhole_9 {X : Cx} {g : Gl} {l : Launch} {R : Rf} {T : Mm} {a0 : Nat} {a1 : Nat} {x2 : Int32} {x3 : Int32} (K : Ok X g l cX6_heaviestWhole RX6 8 (some .int) rmX6_heaviestWhole) (hR : Ty g R) (k0 : kd g a0 = 6) (k1 : kd g a1 = 3) {r : Int32} {e83 : Int32 → Option (Int32)} (he83 : ∀ (x4 : Int32), e83 x4 = some r → Zj X g 8 (QI X g r R T) R T [none, none, none, none, some (.int x4), none, none, none] [] 83) : ∀ (n : Nat) (x4 : Int32) (x5 : Int32) (x6 : Int32), zl3 (pX6_heaviestWhole_9 R T a0 a1 x2 x3 e83) n x4 x5 x6 = some r → Zj X g 8 (QI X g r R T) R T [some (.ref (g.2.2.1 a0)), some (.ref (g.2.2.1 a1)), some (.int x2), some (.int x3), some (.int x4), some (.int x5), some (.int x6), none] [] 9 := by
  intro n
  induction n with
  | zero =>
    intro x4 x5 x6 h
    exact absurd h (by simp [zl3])
  | succ n hr9 =>
    intro x4 x5 x6 h
    rw [zl3_s] at h
    unfold pX6_heaviestWhole_9 at h
    refine z_iload K dX6_heaviestWhole_9 rfl ?_
    refine z_iconst K 1 dX6_heaviestWhole_11 rfl ?_
    refine z_aload_n K dX6_heaviestWhole_12 rfl ?_
    refine z_getI K clX3 k1 1 rfl rfl q253 dX6_heaviestWhole_13 ?_
    refine z_ishl K dX6_heaviestWhole_16 ?_
    refine z_icmp_ge K 83 dX6_heaviestWhole_17 (by decide) (fun c => ?_) (fun c => ?_)
    · have h := ite_t h c
      refine Zj.mask [false, false, false, false, true, false, false, false] ?_
      exact he83 _ h
    · have h := ite_f h c
      refine z_iload K dX6_heaviestWhole_20 rfl ?_
      refine z_iload_n K dX6_heaviestWhole_22 rfl ?_
      refine z_iconst K (-1) dX6_heaviestWhole_23 rfl ?_
      refine z_ixor K dX6_heaviestWhole_24 ?_
      refine z_iand K dX6_heaviestWhole_25 ?_
      refine z_if_eq K 32 dX6_heaviestWhole_26 (by decide) (fun c => ?_) (fun c => ?_)
      · have h := ite_t h c
        refine z_aload_n K dX6_heaviestWhole_32 rfl ?_
        refine z_iload K dX6_heaviestWhole_33 rfl ?_
        obtain ⟨u1, hc, h⟩ := bd1_e h
        refine z_callVI K (mX3_weightOf l hR k1 hc) clX3 k1 ceX3_weightOf q944 ⟨rfl, rfl, rfl, rfl⟩ rfl rfl rfl dX6_heaviestWhole_35 ?_
        refine z_istore K dX6_heaviestWhole_38 rfl rfl ?_
        refine z_iload K dX6_heaviestWhole_40 rfl ?_
        refine z_iload K dX6_heaviestWhole_42 rfl ?_
        refine z_icmp_le K 77 dX6_heaviestWhole_44 (by decide) (fun c => ?_) (fun c => ?_)
        · have h := ite_t h c
          refine z_iinc K 1 dX6_heaviestWhole_77 rfl rfl rfl rfl ?_
          refine z_goto K 9 dX6_heaviestWhole_80 (by decide) ?_
          refine Zj.mask [true, true, true, true, true, true, true, false] ?_
          exact hr9 _ _ _ h
        · have h := ite_f h c
          refine z_iload K dX6_heaviestWhole_47 rfl ?_
          refine z_iload_n K dX6_heaviestWhole_49 rfl ?_
          refine z_icmp_gt K 77 dX6_heaviestWhole_50 (by decide) (fun c => ?_) (fun c => ?_)
          · have h := ite_t h c
            refine z_iinc K 1 dX6_heaviestWhole_77 rfl rfl rfl rfl ?_
            refine z_goto K 9 dX6_heaviestWhole_80 (by decide) ?_
            refine Zj.mask [true, true, true, true, true, true, true, false] ?_
            exact hr9 _ _ _ h
          · have h := ite_f h c
            refine z_aload_n K dX6_heaviestWhole_53 rfl ?_
            refine z_iload K dX6_heaviestWhole_54 rfl ?_
            obtain ⟨u4, hc, h⟩ := bd1_e h
            refine z_callSI K (mX6_leastOf l hR hc) ceX6_leastOf q945 ⟨rfl, rfl, rfl, rfl⟩ rfl rfl rfl dX6_heaviestWhole_56 ?_
            refine z_iload K dX6_heaviestWhole_59 rfl ?_
            obtain ⟨u5, hc, h⟩ := bd1_e h
            refine z_callVI K (mX6_around l hR k0 hc) clX6 k0 ceX6_around q901 ⟨rfl, rfl, rfl, rfl⟩ rfl rfl rfl dX6_heaviestWhole_61 ?_
            refine z_iload K dX6_heaviestWhole_64 rfl ?_
            refine z_icmp_ne K 77 dX6_heaviestWhole_66 (by decide) (fun c => ?_) (fun c => ?_)
            · have h := ite_f h c
              refine z_iinc K 1 dX6_heaviestWhole_77 rfl rfl rfl rfl ?_
              refine z_goto K 9 dX6_heaviestWhole_80 (by decide) ?_
              refine Zj.mask [true, true, true, true, true, true, true, false] ?_
              exact hr9 _ _ _ h
            · have h := ite_t h c
              refine z_iload K dX6_heaviestWhole_69 rfl ?_
              refine z_istore K dX6_heaviestWhole_71 rfl rfl ?_
              refine z_iload K dX6_heaviestWhole_73 rfl ?_
              refine z_istore K dX6_heaviestWhole_75 rfl rfl ?_
              refine z_iinc K 1 dX6_heaviestWhole_77 rfl rfl rfl rfl ?_
              refine z_goto K 9 dX6_heaviestWhole_80 (by decide) ?_
              refine Zj.mask [true, true, true, true, true, true, true, false] ?_
              exact hr9 _ _ _ h
      · have h := ite_f h c
        refine z_goto K 77 dX6_heaviestWhole_29 (by decide) ?_
        refine z_iinc K 1 dX6_heaviestWhole_77 rfl rfl rfl rfl ?_
        refine z_goto K 9 dX6_heaviestWhole_80 (by decide) ?_
        refine Zj.mask [true, true, true, true, true, true, true, false] ?_
        exact hr9 _ _ _ h
set_option maxRecDepth 100000 in
set_option maxHeartbeats 4000000 in
theorem wX6_heaviestWhole_83 {X : Cx} {g : Gl} {l : Launch} {R : Rf} {T : Mm} {a0 : Nat} {a1 : Nat} {x2 : Int32} {x3 : Int32} (K : Ok X g l cX6_heaviestWhole RX6 8 (some .int) rmX6_heaviestWhole) (hR : Ty g R) (k0 : kd g a0 = 6) (k1 : kd g a1 = 3) {r : Int32} (x4 : Int32) (h : pX6_heaviestWhole_83 R T a0 a1 x2 x3 x4 = some r) : Zj X g 8 (QI X g r R T) R T [none, none, none, none, some (.int x4), none, none, none] [] 83 := by
  unfold pX6_heaviestWhole_83 at h
  refine z_iload K dX6_heaviestWhole_83 rfl ?_
  obtain rfl := Option.some.inj h
  exact z_iret K dX6_heaviestWhole_85
set_option maxRecDepth 100000 in
set_option maxHeartbeats 4000000 in
theorem mX6_heaviestWhole {g : Gl} {R : Rf} {T : Mm} {a0 : Nat} {a1 : Nat} {x2 : Int32} {x3 : Int32} (l : Launch) (hR : Ty g R) (k0 : kd g a0 = 6) (k1 : kd g a1 = 3) {r : Int32} (h : pX6_heaviestWhole R T a0 a1 x2 x3 = some r) : MI l g yX6_heaviestWhole cX6_heaviestWhole 8 (some .int) rmX6_heaviestWhole [.ref (g.2.2.1 a0), .ref (g.2.2.1 a1), .int x2, .int x3] R T r R T := by
  refine z_metI (own := RX6) (lv := [some (.ref (g.2.2.1 a0)), some (.ref (g.2.2.1 a1)), some (.int x2), some (.int x3), none, none, none, none]) (by decide +kernel) rfl rfl rfl (fun X K => ?_)
  unfold pX6_heaviestWhole at h
  refine z_iconst K 0 dX6_heaviestWhole_0 rfl ?_
  refine z_istore K dX6_heaviestWhole_1 rfl rfl ?_
  refine z_iconst K 0 dX6_heaviestWhole_3 rfl ?_
  refine z_istore K dX6_heaviestWhole_4 rfl rfl ?_
  refine z_iconst K 1 dX6_heaviestWhole_6 rfl ?_
  refine z_istore K dX6_heaviestWhole_7 rfl rfl ?_
  refine Zj.mask [true, true, true, true, true, true, true, false] ?_
  exact wX6_heaviestWhole_9 K hR k0 k1 (wX6_heaviestWhole_83 K hR k0 k1) FU _ _ _ h
/-! GoingOver$Parts.unusedPlace ([IIII)I -/
abbrev rmX6_unusedPlace : Room := { frames := 0, cells := 0, slots := 0, locals := 0 }
def pX6_unusedPlace_3 (R : Rf) (T : Mm) (a0 : Nat) (x1 : Int32) (x2 : Int32) (x3 : Int32) (e26 : Int32 → Option (Int32)) (e35 : Option (Int32)) (r3 : Int32 → Option (Int32)) (x4 : Int32) : Option (Int32) :=
  if x1 ≤ x4 then e35 else if ((x2 >>> (x4 &&& 31)) &&& 1) = 0 then ix x4 940 (if (T.1 a0 x4.toNatClampNeg) = x3 then e26 x4 else lt (x4 + 1) (fun (v2 : Int32) => r3 v2)) else lt (x4 + 1) (fun (v1 : Int32) => r3 v1)
def pX6_unusedPlace_26 (R : Rf) (T : Mm) (a0 : Nat) (x1 : Int32) (x2 : Int32) (x3 : Int32) (x4 : Int32) : Option (Int32) :=
  some x4
def pX6_unusedPlace_35 (R : Rf) (T : Mm) (a0 : Nat) (x1 : Int32) (x2 : Int32) (x3 : Int32) : Option (Int32) :=
  some (-1)
def pX6_unusedPlace (R : Rf) (T : Mm) (a0 : Nat) (x1 : Int32) (x2 : Int32) (x3 : Int32) : Option (Int32) :=
  zl1 (pX6_unusedPlace_3 R T a0 x1 x2 x3 (pX6_unusedPlace_26 R T a0 x1 x2 x3) (pX6_unusedPlace_35 R T a0 x1 x2 x3)) FU 0
set_option maxRecDepth 100000 in
set_option maxHeartbeats 4000000 in
theorem wX6_unusedPlace_3 {X : Cx} {g : Gl} {l : Launch} {R : Rf} {T : Mm} {a0 : Nat} {x1 : Int32} {x2 : Int32} {x3 : Int32} (K : Ok X g l cX6_unusedPlace RX6 5 (some .int) rmX6_unusedPlace) (hR : Ty g R) (k0 : kd g a0 = 20940) {r : Int32} {e26 : Int32 → Option (Int32)} (he26 : ∀ (x4 : Int32), e26 x4 = some r → Zj X g 5 (QI X g r R T) R T [none, none, none, none, some (.int x4)] [] 26) {e35 : Option (Int32)} (he35 : e35 = some r → Zj X g 5 (QI X g r R T) R T [none, none, none, none, none] [] 35) : ∀ (n : Nat) (x4 : Int32), zl1 (pX6_unusedPlace_3 R T a0 x1 x2 x3 e26 e35) n x4 = some r → Zj X g 5 (QI X g r R T) R T [some (.ref (g.2.2.1 a0)), some (.int x1), some (.int x2), some (.int x3), some (.int x4)] [] 3 := by
  intro n
  induction n with
  | zero =>
    intro x4 h
    exact absurd h (by simp [zl1])
  | succ n hr3 =>
    intro x4 h
    rw [zl1_s] at h
    unfold pX6_unusedPlace_3 at h
    refine z_iload K dX6_unusedPlace_3 rfl ?_
    refine z_iload_n K dX6_unusedPlace_5 rfl ?_
    refine z_icmp_ge K 35 dX6_unusedPlace_6 (by decide) (fun c => ?_) (fun c => ?_)
    · have h := ite_t h c
      refine Zj.mask [false, false, false, false, false] ?_
      exact he35 h
    · have h := ite_f h c
      refine z_iload_n K dX6_unusedPlace_9 rfl ?_
      refine z_iload K dX6_unusedPlace_10 rfl ?_
      refine z_ishr K dX6_unusedPlace_12 ?_
      refine z_iconst K 1 dX6_unusedPlace_13 rfl ?_
      refine z_iand K dX6_unusedPlace_14 ?_
      refine z_if_ne K 29 dX6_unusedPlace_15 (by decide) (fun c => ?_) (fun c => ?_)
      · have h := ite_f h c
        refine z_iinc K 1 dX6_unusedPlace_29 rfl rfl rfl rfl ?_
        refine z_goto K 3 dX6_unusedPlace_32 (by decide) ?_
        refine Zj.mask [true, true, true, true, true] ?_
        exact hr3 _ h
      · have h := ite_t h c
        refine z_aload_n K dX6_unusedPlace_18 rfl ?_
        refine z_iload K dX6_unusedPlace_19 rfl ?_
        obtain ⟨hi, h⟩ := ix_e h
        refine z_iald K k0 rfl rfl rfl hi dX6_unusedPlace_21 ?_
        refine z_iload_n K dX6_unusedPlace_22 rfl ?_
        refine z_icmp_ne K 29 dX6_unusedPlace_23 (by decide) (fun c => ?_) (fun c => ?_)
        · have h := ite_f h c
          refine z_iinc K 1 dX6_unusedPlace_29 rfl rfl rfl rfl ?_
          refine z_goto K 3 dX6_unusedPlace_32 (by decide) ?_
          refine Zj.mask [true, true, true, true, true] ?_
          exact hr3 _ h
        · have h := ite_t h c
          refine Zj.mask [false, false, false, false, true] ?_
          exact he26 _ h
set_option maxRecDepth 100000 in
set_option maxHeartbeats 4000000 in
theorem wX6_unusedPlace_26 {X : Cx} {g : Gl} {l : Launch} {R : Rf} {T : Mm} {a0 : Nat} {x1 : Int32} {x2 : Int32} {x3 : Int32} (K : Ok X g l cX6_unusedPlace RX6 5 (some .int) rmX6_unusedPlace) (hR : Ty g R) (k0 : kd g a0 = 20940) {r : Int32} (x4 : Int32) (h : pX6_unusedPlace_26 R T a0 x1 x2 x3 x4 = some r) : Zj X g 5 (QI X g r R T) R T [none, none, none, none, some (.int x4)] [] 26 := by
  unfold pX6_unusedPlace_26 at h
  refine z_iload K dX6_unusedPlace_26 rfl ?_
  obtain rfl := Option.some.inj h
  exact z_iret K dX6_unusedPlace_28
set_option maxRecDepth 100000 in
set_option maxHeartbeats 4000000 in
theorem wX6_unusedPlace_35 {X : Cx} {g : Gl} {l : Launch} {R : Rf} {T : Mm} {a0 : Nat} {x1 : Int32} {x2 : Int32} {x3 : Int32} (K : Ok X g l cX6_unusedPlace RX6 5 (some .int) rmX6_unusedPlace) (hR : Ty g R) (k0 : kd g a0 = 20940) {r : Int32} (h : pX6_unusedPlace_35 R T a0 x1 x2 x3 = some r) : Zj X g 5 (QI X g r R T) R T [none, none, none, none, none] [] 35 := by
  unfold pX6_unusedPlace_35 at h
  refine z_iconst K (-1) dX6_unusedPlace_35 rfl ?_
  obtain rfl := Option.some.inj h
  exact z_iret K dX6_unusedPlace_36
set_option maxRecDepth 100000 in
set_option maxHeartbeats 4000000 in
theorem mX6_unusedPlace {g : Gl} {R : Rf} {T : Mm} {a0 : Nat} {x1 : Int32} {x2 : Int32} {x3 : Int32} (l : Launch) (hR : Ty g R) (k0 : kd g a0 = 20940) {r : Int32} (h : pX6_unusedPlace R T a0 x1 x2 x3 = some r) : MI l g yX6_unusedPlace cX6_unusedPlace 5 (some .int) rmX6_unusedPlace [.ref (g.2.2.1 a0), .int x1, .int x2, .int x3] R T r R T := by
  refine z_metI (own := RX6) (lv := [some (.ref (g.2.2.1 a0)), some (.int x1), some (.int x2), some (.int x3), none]) (by decide +kernel) rfl rfl rfl (fun X K => ?_)
  unfold pX6_unusedPlace at h
  refine z_iconst K 0 dX6_unusedPlace_0 rfl ?_
  refine z_istore K dX6_unusedPlace_1 rfl rfl ?_
  refine Zj.mask [true, true, true, true, true] ?_
  exact wX6_unusedPlace_3 K hR k0 (wX6_unusedPlace_26 K hR k0) (wX6_unusedPlace_35 K hR k0) FU _ h
/-! GoingOver$Parts.weighJustSo (LGoingOver$Falls;I[II)Z -/
abbrev rmX6_weighJustSo : Room := { frames := 1, cells := 0, slots := 0, locals := 26 }
def pX6_weighJustSo_9 (R : Rf) (T : Mm) (a0 : Nat) (a1 : Nat) (x2 : Int32) (a3 : Nat) (x4 : Int32) (e66 : Option (Int32)) (e83 : Int32 → Option (Int32)) (r9 : Int32 → Int32 → Int32 → Option (Int32)) (x5 : Int32) (x6 : Int32) (x7 : Int32) : Option (Int32) :=
  if 10 ≤ x7 then e83 x6 else if ((x5 >>> (x7 &&& 31)) &&& 1) = 0 then lt (x7 + 1) (fun (v1 : Int32) => r9 x5 x6 v1) else bd1 (pX6_around R T a0 x7 x2) (fun (u2 : Int32) => lt (x5 &&& (u2 ^^^ (-1))) (fun (v3 : Int32) => bd1 (pX3_weightOf R T a1 u2) (fun (u4 : Int32) => bd1 (pX6_unusedPlace R T a3 x4 x6 u4) (fun (u5 : Int32) => if u5 = (-1) then e66 else lt (x6 ||| (1 <<< (u5 &&& 31))) (fun (v6 : Int32) => lt (x7 + 1) (fun (v7 : Int32) => r9 v3 v6 v7))))))
def pX6_weighJustSo_66 (R : Rf) (T : Mm) (a0 : Nat) (a1 : Nat) (x2 : Int32) (a3 : Nat) (x4 : Int32) : Option (Int32) :=
  some 0
def pX6_weighJustSo_83 (R : Rf) (T : Mm) (a0 : Nat) (a1 : Nat) (x2 : Int32) (a3 : Nat) (x4 : Int32) (x6 : Int32) : Option (Int32) :=
  if x6 = ((1 <<< (x4 &&& 31)) - 1) then some 1 else some 0
def pX6_weighJustSo (R : Rf) (T : Mm) (a0 : Nat) (a1 : Nat) (x2 : Int32) (a3 : Nat) (x4 : Int32) : Option (Int32) :=
  zl3 (pX6_weighJustSo_9 R T a0 a1 x2 a3 x4 (pX6_weighJustSo_66 R T a0 a1 x2 a3 x4) (pX6_weighJustSo_83 R T a0 a1 x2 a3 x4)) FU x2 0 0
set_option maxRecDepth 100000 in
set_option maxHeartbeats 4000000 in
theorem wX6_weighJustSo_9 {X : Cx} {g : Gl} {l : Launch} {R : Rf} {T : Mm} {a0 : Nat} {a1 : Nat} {x2 : Int32} {a3 : Nat} {x4 : Int32} (K : Ok X g l cX6_weighJustSo RX6 10 (some .boolean) rmX6_weighJustSo) (hR : Ty g R) (k0 : kd g a0 = 6) (k1 : kd g a1 = 3) (k3 : kd g a3 = 20940) {r : Int32} {e66 : Option (Int32)} (he66 : e66 = some r → Zj X g 10 (QI X g r R T) R T [none, none, none, none, none, none, none, none, none, none] [] 66) {e83 : Int32 → Option (Int32)} (he83 : ∀ (x6 : Int32), e83 x6 = some r → Zj X g 10 (QI X g r R T) R T [none, none, none, none, some (.int x4), none, some (.int x6), none, none, none] [] 83) : ∀ (n : Nat) (x5 : Int32) (x6 : Int32) (x7 : Int32), zl3 (pX6_weighJustSo_9 R T a0 a1 x2 a3 x4 e66 e83) n x5 x6 x7 = some r → Zj X g 10 (QI X g r R T) R T [some (.ref (g.2.2.1 a0)), some (.ref (g.2.2.1 a1)), some (.int x2), some (.ref (g.2.2.1 a3)), some (.int x4), some (.int x5), some (.int x6), some (.int x7), none, none] [] 9 := by
  intro n
  induction n with
  | zero =>
    intro x5 x6 x7 h
    exact absurd h (by simp [zl3])
  | succ n hr9 =>
    intro x5 x6 x7 h
    rw [zl3_s] at h
    unfold pX6_weighJustSo_9 at h
    refine z_iload K dX6_weighJustSo_9 rfl ?_
    refine z_bipush K 10 dX6_weighJustSo_11 rfl ?_
    refine z_icmp_ge K 83 dX6_weighJustSo_13 (by decide) (fun c => ?_) (fun c => ?_)
    · have h := ite_t h c
      refine Zj.mask [false, false, false, false, true, false, true, false, false, false] ?_
      exact he83 _ h
    · have h := ite_f h c
      refine z_iload K dX6_weighJustSo_16 rfl ?_
      refine z_iload K dX6_weighJustSo_18 rfl ?_
      refine z_ishr K dX6_weighJustSo_20 ?_
      refine z_iconst K 1 dX6_weighJustSo_21 rfl ?_
      refine z_iand K dX6_weighJustSo_22 ?_
      refine z_if_eq K 77 dX6_weighJustSo_23 (by decide) (fun c => ?_) (fun c => ?_)
      · have h := ite_t h c
        refine z_iinc K 1 dX6_weighJustSo_77 rfl rfl rfl rfl ?_
        refine z_goto K 9 dX6_weighJustSo_80 (by decide) ?_
        refine Zj.mask [true, true, true, true, true, true, true, true, false, false] ?_
        exact hr9 _ _ _ h
      · have h := ite_f h c
        refine z_aload_n K dX6_weighJustSo_26 rfl ?_
        refine z_iload K dX6_weighJustSo_27 rfl ?_
        refine z_iload_n K dX6_weighJustSo_29 rfl ?_
        obtain ⟨u2, hc, h⟩ := bd1_e h
        refine z_callVI K (mX6_around l hR k0 hc) clX6 k0 ceX6_around q901 ⟨rfl, rfl, rfl, rfl⟩ rfl rfl rfl dX6_weighJustSo_30 ?_
        refine z_istore K dX6_weighJustSo_33 rfl rfl ?_
        refine z_iload K dX6_weighJustSo_35 rfl ?_
        refine z_iload K dX6_weighJustSo_37 rfl ?_
        refine z_iconst K (-1) dX6_weighJustSo_39 rfl ?_
        refine z_ixor K dX6_weighJustSo_40 ?_
        refine z_iand K dX6_weighJustSo_41 ?_
        refine z_istore K dX6_weighJustSo_42 rfl rfl ?_
        refine z_aload_n K dX6_weighJustSo_44 rfl ?_
        refine z_iload K dX6_weighJustSo_45 rfl ?_
        refine z_iload K dX6_weighJustSo_47 rfl ?_
        refine z_aload_n K dX6_weighJustSo_49 rfl ?_
        refine z_iload K dX6_weighJustSo_50 rfl ?_
        obtain ⟨u4, hc, h⟩ := bd1_e h
        refine z_callVI K (mX3_weightOf l hR k1 hc) clX3 k1 ceX3_weightOf q944 ⟨rfl, rfl, rfl, rfl⟩ rfl rfl rfl dX6_weighJustSo_52 ?_
        obtain ⟨u5, hc, h⟩ := bd1_e h
        refine z_callSI K (mX6_unusedPlace l hR k3 hc) ceX6_unusedPlace q973 ⟨rfl, rfl, rfl, rfl⟩ rfl rfl rfl dX6_weighJustSo_55 ?_
        refine z_istore K dX6_weighJustSo_58 rfl rfl ?_
        refine z_iload K dX6_weighJustSo_60 rfl ?_
        refine z_iconst K (-1) dX6_weighJustSo_62 rfl ?_
        refine z_icmp_ne K 68 dX6_weighJustSo_63 (by decide) (fun c => ?_) (fun c => ?_)
        · have h := ite_f h c
          refine z_iload K dX6_weighJustSo_68 rfl ?_
          refine z_iconst K 1 dX6_weighJustSo_70 rfl ?_
          refine z_iload K dX6_weighJustSo_71 rfl ?_
          refine z_ishl K dX6_weighJustSo_73 ?_
          refine z_ior K dX6_weighJustSo_74 ?_
          refine z_istore K dX6_weighJustSo_75 rfl rfl ?_
          refine z_iinc K 1 dX6_weighJustSo_77 rfl rfl rfl rfl ?_
          refine z_goto K 9 dX6_weighJustSo_80 (by decide) ?_
          refine Zj.mask [true, true, true, true, true, true, true, true, false, false] ?_
          exact hr9 _ _ _ h
        · have h := ite_t h c
          refine Zj.mask [false, false, false, false, false, false, false, false, false, false] ?_
          exact he66 h
set_option maxRecDepth 100000 in
set_option maxHeartbeats 4000000 in
theorem wX6_weighJustSo_66 {X : Cx} {g : Gl} {l : Launch} {R : Rf} {T : Mm} {a0 : Nat} {a1 : Nat} {x2 : Int32} {a3 : Nat} {x4 : Int32} (K : Ok X g l cX6_weighJustSo RX6 10 (some .boolean) rmX6_weighJustSo) (hR : Ty g R) (k0 : kd g a0 = 6) (k1 : kd g a1 = 3) (k3 : kd g a3 = 20940) {r : Int32} (h : pX6_weighJustSo_66 R T a0 a1 x2 a3 x4 = some r) : Zj X g 10 (QI X g r R T) R T [none, none, none, none, none, none, none, none, none, none] [] 66 := by
  unfold pX6_weighJustSo_66 at h
  refine z_iconst K 0 dX6_weighJustSo_66 rfl ?_
  obtain rfl := Option.some.inj h
  exact z_zret (v := 0) K rfl dX6_weighJustSo_67
set_option maxRecDepth 100000 in
set_option maxHeartbeats 4000000 in
theorem wX6_weighJustSo_83 {X : Cx} {g : Gl} {l : Launch} {R : Rf} {T : Mm} {a0 : Nat} {a1 : Nat} {x2 : Int32} {a3 : Nat} {x4 : Int32} (K : Ok X g l cX6_weighJustSo RX6 10 (some .boolean) rmX6_weighJustSo) (hR : Ty g R) (k0 : kd g a0 = 6) (k1 : kd g a1 = 3) (k3 : kd g a3 = 20940) {r : Int32} (x6 : Int32) (h : pX6_weighJustSo_83 R T a0 a1 x2 a3 x4 x6 = some r) : Zj X g 10 (QI X g r R T) R T [none, none, none, none, some (.int x4), none, some (.int x6), none, none, none] [] 83 := by
  unfold pX6_weighJustSo_83 at h
  refine z_iload K dX6_weighJustSo_83 rfl ?_
  refine z_iconst K 1 dX6_weighJustSo_85 rfl ?_
  refine z_iload K dX6_weighJustSo_86 rfl ?_
  refine z_ishl K dX6_weighJustSo_88 ?_
  refine z_iconst K 1 dX6_weighJustSo_89 rfl ?_
  refine z_isub K dX6_weighJustSo_90 ?_
  refine z_icmp_ne K 98 dX6_weighJustSo_91 (by decide) (fun c => ?_) (fun c => ?_)
  · have h := ite_f h c
    refine z_iconst K 0 dX6_weighJustSo_98 rfl ?_
    obtain rfl := Option.some.inj h
    exact z_zret (v := 0) K rfl dX6_weighJustSo_99
  · have h := ite_t h c
    refine z_iconst K 1 dX6_weighJustSo_94 rfl ?_
    refine z_goto K 99 dX6_weighJustSo_95 (by decide) ?_
    obtain rfl := Option.some.inj h
    exact z_zret (v := 1) K rfl dX6_weighJustSo_99
set_option maxRecDepth 100000 in
set_option maxHeartbeats 4000000 in
theorem mX6_weighJustSo {g : Gl} {R : Rf} {T : Mm} {a0 : Nat} {a1 : Nat} {x2 : Int32} {a3 : Nat} {x4 : Int32} (l : Launch) (hR : Ty g R) (k0 : kd g a0 = 6) (k1 : kd g a1 = 3) (k3 : kd g a3 = 20940) {r : Int32} (h : pX6_weighJustSo R T a0 a1 x2 a3 x4 = some r) : MI l g yX6_weighJustSo cX6_weighJustSo 10 (some .boolean) rmX6_weighJustSo [.ref (g.2.2.1 a0), .ref (g.2.2.1 a1), .int x2, .ref (g.2.2.1 a3), .int x4] R T r R T := by
  refine z_metI (own := RX6) (lv := [some (.ref (g.2.2.1 a0)), some (.ref (g.2.2.1 a1)), some (.int x2), some (.ref (g.2.2.1 a3)), some (.int x4), none, none, none, none, none]) (by decide +kernel) rfl rfl rfl (fun X K => ?_)
  unfold pX6_weighJustSo at h
  refine z_iload_n K dX6_weighJustSo_0 rfl ?_
  refine z_istore K dX6_weighJustSo_1 rfl rfl ?_
  refine z_iconst K 0 dX6_weighJustSo_3 rfl ?_
  refine z_istore K dX6_weighJustSo_4 rfl rfl ?_
  refine z_iconst K 0 dX6_weighJustSo_6 rfl ?_
  refine z_istore K dX6_weighJustSo_7 rfl rfl ?_
  refine Zj.mask [true, true, true, true, true, true, true, true, false, false] ?_
  exact wX6_weighJustSo_9 K hR k0 k1 k3 (wX6_weighJustSo_66 K hR k0 k1 k3) (wX6_weighJustSo_83 K hR k0 k1 k3) FU _ _ _ h
/-! GoingOver$Past.push (LGoingOver$Course;)V -/
abbrev rmX7_push : Room := { frames := 2, cells := 0, slots := 0, locals := 81 }
def pX7_push (R : Rf) (T : Mm) (a0 : Nat) (a1 : Nat) : Option (Mm) :=
  ix (((T.1 a0 1) + (T.1 a0 0)) - ((T.1 a0 1) + (T.1 a0 0)) / 8 * 8) 8 (bd1 (pX1_copy R T (R (R a0 2) (((T.1 a0 1) + (T.1 a0 0)) - ((T.1 a0 1) + (T.1 a0 0)) / 8 * 8).toNatClampNeg) a1) (fun (T1 : Mm) => if 8 ≤ (T1.1 a0 0) then lt (wI T1 a0 1 (((T1.1 a0 1) + 1) - ((T1.1 a0 1) + 1) / 8 * 8)) (fun (T2 : Mm) => some T2) else lt (wI T1 a0 0 ((T1.1 a0 0) + 1)) (fun (T3 : Mm) => some T3)))
set_option maxRecDepth 100000 in
set_option maxHeartbeats 4000000 in
theorem mX7_push {g : Gl} {R : Rf} {T : Mm} {a0 : Nat} {a1 : Nat} (l : Launch) (hR : Ty g R) (k0 : kd g a0 = 7) (k1 : kd g a1 = 1) {r : Mm} (h : pX7_push R T a0 a1 = some r) : MV l g yX7_push cX7_push 2 none rmX7_push [.ref (g.2.2.1 a0), .ref (g.2.2.1 a1)] R T R r := by
  refine z_metV (own := RX7) (lv := [some (.ref (g.2.2.1 a0)), some (.ref (g.2.2.1 a1))]) (by decide +kernel) rfl rfl rfl (fun X K => ?_)
  unfold pX7_push at h
  refine z_aload_n K dX7_push_0 rfl ?_
  refine z_getR K clX7 k0 2 rfl rfl q372 dX7_push_1 ?_
  refine z_aload_n K dX7_push_4 rfl ?_
  refine z_getI K clX7 k0 1 rfl rfl q371 dX7_push_5 ?_
  refine z_aload_n K dX7_push_8 rfl ?_
  refine z_getI K clX7 k0 0 rfl rfl q369 dX7_push_9 ?_
  refine z_iadd K dX7_push_12 ?_
  refine z_bipush K 8 dX7_push_13 rfl ?_
  refine z_irem K dX7_push_15 (by decide) ?_
  obtain ⟨hi, h⟩ := ix_e h
  refine z_aald4 K (hR.at (k := 2) (t := 50008) k0 rfl rfl) rfl rfl rfl hi dX7_push_16 ?_
  refine z_aload_n K dX7_push_17 rfl ?_
  obtain ⟨T1, hc, h⟩ := bd1_e h
  refine z_callVV K (mX1_copy l hR (hR.at (t := 1) (hR.at (k := 2) (t := 50008) k0 rfl rfl) rfl rfl) k1 hc) clX1 (hR.at (t := 1) (hR.at (k := 2) (t := 50008) k0 rfl rfl) rfl rfl) ceX1_copy q842 ⟨rfl, rfl, rfl, rfl⟩ rfl rfl rfl dX7_push_18 ?_
  refine z_aload_n K dX7_push_21 rfl ?_
  refine z_getI K clX7 k0 0 rfl rfl q369 dX7_push_22 ?_
  refine z_bipush K 8 dX7_push_25 rfl ?_
  refine z_icmp_ge K 43 dX7_push_27 (by decide) (fun c => ?_) (fun c => ?_)
  · have h := ite_t h c
    refine z_aload_n K dX7_push_43 rfl ?_
    refine z_aload_n K dX7_push_44 rfl ?_
    refine z_getI K clX7 k0 1 rfl rfl q371 dX7_push_45 ?_
    refine z_iconst K 1 dX7_push_48 rfl ?_
    refine z_iadd K dX7_push_49 ?_
    refine z_bipush K 8 dX7_push_50 rfl ?_
    refine z_irem K dX7_push_52 (by decide) ?_
    refine z_putI K clX7 tyX7_ok nmX7 k0 1 rfl rfl q371 rfl rfl rfl dX7_push_53 ?_
    obtain rfl := Option.some.inj h
    exact z_vret K dX7_push_56
  · have h := ite_f h c
    refine z_aload_n K dX7_push_30 rfl ?_
    refine z_dup K dX7_push_31 rfl ?_
    refine z_getI K clX7 k0 0 rfl rfl q369 dX7_push_32 ?_
    refine z_iconst K 1 dX7_push_35 rfl ?_
    refine z_iadd K dX7_push_36 ?_
    refine z_putI K clX7 tyX7_ok nmX7 k0 0 rfl rfl q369 rfl rfl rfl dX7_push_37 ?_
    refine z_goto K 56 dX7_push_40 (by decide) ?_
    obtain rfl := Option.some.inj h
    exact z_vret K dX7_push_56
/-! GoingOver$Past.pop (LGoingOver$Course;)I -/
abbrev rmX7_pop : Room := { frames := 2, cells := 0, slots := 0, locals := 81 }
def pX7_pop (R : Rf) (T : Mm) (a0 : Nat) (a1 : Nat) : Option (Int32 × Mm) :=
  if (T.1 a0 0) = 0 then some ((-1), T) else lt (wI T a0 0 ((T.1 a0 0) - 1)) (fun (T1 : Mm) => ix (((T1.1 a0 1) + (T1.1 a0 0)) - ((T1.1 a0 1) + (T1.1 a0 0)) / 8 * 8) 8 (bd1 (pX1_copy R T1 a1 (R (R a0 2) (((T1.1 a0 1) + (T1.1 a0 0)) - ((T1.1 a0 1) + (T1.1 a0 0)) / 8 * 8).toNatClampNeg)) (fun (T2 : Mm) => some (T2.1 a0 0, T2))))
set_option maxRecDepth 100000 in
set_option maxHeartbeats 4000000 in
theorem mX7_pop {g : Gl} {R : Rf} {T : Mm} {a0 : Nat} {a1 : Nat} (l : Launch) (hR : Ty g R) (k0 : kd g a0 = 7) (k1 : kd g a1 = 1) {r : Int32 × Mm} (h : pX7_pop R T a0 a1 = some r) : MI l g yX7_pop cX7_pop 2 (some .int) rmX7_pop [.ref (g.2.2.1 a0), .ref (g.2.2.1 a1)] R T r.1 R r.2 := by
  refine z_metI (own := RX7) (lv := [some (.ref (g.2.2.1 a0)), some (.ref (g.2.2.1 a1))]) (by decide +kernel) rfl rfl rfl (fun X K => ?_)
  unfold pX7_pop at h
  refine z_aload_n K dX7_pop_0 rfl ?_
  refine z_getI K clX7 k0 0 rfl rfl q369 dX7_pop_1 ?_
  refine z_if_ne K 9 dX7_pop_4 (by decide) (fun c => ?_) (fun c => ?_)
  · have h := ite_f h c
    refine z_aload_n K dX7_pop_9 rfl ?_
    refine z_dup K dX7_pop_10 rfl ?_
    refine z_getI K clX7 k0 0 rfl rfl q369 dX7_pop_11 ?_
    refine z_iconst K 1 dX7_pop_14 rfl ?_
    refine z_isub K dX7_pop_15 ?_
    refine z_putI K clX7 tyX7_ok nmX7 k0 0 rfl rfl q369 rfl rfl rfl dX7_pop_16 ?_
    refine z_aload_n K dX7_pop_19 rfl ?_
    refine z_aload_n K dX7_pop_20 rfl ?_
    refine z_getR K clX7 k0 2 rfl rfl q372 dX7_pop_21 ?_
    refine z_aload_n K dX7_pop_24 rfl ?_
    refine z_getI K clX7 k0 1 rfl rfl q371 dX7_pop_25 ?_
    refine z_aload_n K dX7_pop_28 rfl ?_
    refine z_getI K clX7 k0 0 rfl rfl q369 dX7_pop_29 ?_
    refine z_iadd K dX7_pop_32 ?_
    refine z_bipush K 8 dX7_pop_33 rfl ?_
    refine z_irem K dX7_pop_35 (by decide) ?_
    obtain ⟨hi, h⟩ := ix_e h
    refine z_aald4 K (hR.at (k := 2) (t := 50008) k0 rfl rfl) rfl rfl rfl hi dX7_pop_36 ?_
    obtain ⟨T2, hc, h⟩ := bd1_e h
    refine z_callVV K (mX1_copy l hR k1 (hR.at (t := 1) (hR.at (k := 2) (t := 50008) k0 rfl rfl) rfl rfl) hc) clX1 k1 ceX1_copy q842 ⟨rfl, rfl, rfl, rfl⟩ rfl rfl rfl dX7_pop_37 ?_
    refine z_aload_n K dX7_pop_40 rfl ?_
    refine z_getI K clX7 k0 0 rfl rfl q369 dX7_pop_41 ?_
    obtain rfl := Option.some.inj h
    exact z_iret K dX7_pop_44
  · have h := ite_t h c
    refine z_iconst K (-1) dX7_pop_7 rfl ?_
    obtain rfl := Option.some.inj h
    exact z_iret K dX7_pop_8
/-! GoingOver$Sentence.copy (LGoingOver$Sentence;)V -/
abbrev rmX8_copy : Room := { frames := 1, cells := 0, slots := 0, locals := 60 }
def pX8_copy (R : Rf) (T : Mm) (a0 : Nat) (a1 : Nat) : Option (Mm) :=
  lt (wI T a0 0 (T.1 a1 0)) (fun (T1 : Mm) => lt (wI T1 a0 1 (T1.1 a1 1)) (fun (T2 : Mm) => lt (cpI T2 (R a1 2) (R a0 2) 40) (fun (T3 : Mm) => lt (cpI T3 (R a1 3) (R a0 3) 40) (fun (T4 : Mm) => lt (cpI T4 (R a1 4) (R a0 4) 40) (fun (T5 : Mm) => some T5)))))
set_option maxRecDepth 100000 in
set_option maxHeartbeats 4000000 in
theorem mX8_copy {g : Gl} {R : Rf} {T : Mm} {a0 : Nat} {a1 : Nat} (l : Launch) (hR : Ty g R) (k0 : kd g a0 = 8) (k1 : kd g a1 = 8) {r : Mm} (h : pX8_copy R T a0 a1 = some r) : MV l g yX8_copy cX8_copy 2 none rmX8_copy [.ref (g.2.2.1 a0), .ref (g.2.2.1 a1)] R T R r := by
  refine z_metV (own := RX8) (lv := [some (.ref (g.2.2.1 a0)), some (.ref (g.2.2.1 a1))]) (by decide +kernel) rfl rfl rfl (fun X K => ?_)
  unfold pX8_copy at h
  refine z_aload_n K dX8_copy_0 rfl ?_
  refine z_aload_n K dX8_copy_1 rfl ?_
  refine z_getI K clX8 k1 0 rfl rfl q453 dX8_copy_2 ?_
  refine z_putI K clX8 tyX8_ok nmX8 k0 0 rfl rfl q453 rfl rfl rfl dX8_copy_5 ?_
  refine z_aload_n K dX8_copy_8 rfl ?_
  refine z_aload_n K dX8_copy_9 rfl ?_
  refine z_getI K clX8 k1 1 rfl rfl q455 dX8_copy_10 ?_
  refine z_putI K clX8 tyX8_ok nmX8 k0 1 rfl rfl q455 rfl rfl rfl dX8_copy_13 ?_
  refine z_aload_n K dX8_copy_16 rfl ?_
  refine z_getR K clX8 k1 2 rfl rfl q457 dX8_copy_17 ?_
  refine z_iconst K 0 dX8_copy_20 rfl ?_
  refine z_aload_n K dX8_copy_21 rfl ?_
  refine z_getR K clX8 k0 2 rfl rfl q457 dX8_copy_22 ?_
  refine z_iconst K 0 dX8_copy_25 rfl ?_
  refine z_bipush K 40 dX8_copy_26 rfl ?_
  refine z_cpI K q1193 q800 q799 q127 (hR.at (k := 2) (t := 20040) k1 rfl rfl) (hR.at (k := 2) (t := 20040) k0 rfl rfl) rfl rfl rfl rfl (by decide) (Nat.le_of_ble_eq_true rfl) (Nat.le_of_ble_eq_true rfl) dX8_copy_28 ?_
  refine z_aload_n K dX8_copy_31 rfl ?_
  refine z_getR K clX8 k1 3 rfl rfl q458 dX8_copy_32 ?_
  refine z_iconst K 0 dX8_copy_35 rfl ?_
  refine z_aload_n K dX8_copy_36 rfl ?_
  refine z_getR K clX8 k0 3 rfl rfl q458 dX8_copy_37 ?_
  refine z_iconst K 0 dX8_copy_40 rfl ?_
  refine z_bipush K 40 dX8_copy_41 rfl ?_
  refine z_cpI K q1193 q800 q799 q127 (hR.at (k := 3) (t := 20040) k1 rfl rfl) (hR.at (k := 3) (t := 20040) k0 rfl rfl) rfl rfl rfl rfl (by decide) (Nat.le_of_ble_eq_true rfl) (Nat.le_of_ble_eq_true rfl) dX8_copy_43 ?_
  refine z_aload_n K dX8_copy_46 rfl ?_
  refine z_getR K clX8 k1 4 rfl rfl q459 dX8_copy_47 ?_
  refine z_iconst K 0 dX8_copy_50 rfl ?_
  refine z_aload_n K dX8_copy_51 rfl ?_
  refine z_getR K clX8 k0 4 rfl rfl q459 dX8_copy_52 ?_
  refine z_iconst K 0 dX8_copy_55 rfl ?_
  refine z_bipush K 40 dX8_copy_56 rfl ?_
  refine z_cpI K q1193 q800 q799 q127 (hR.at (k := 4) (t := 20040) k1 rfl rfl) (hR.at (k := 4) (t := 20040) k0 rfl rfl) rfl rfl rfl rfl (by decide) (Nat.le_of_ble_eq_true rfl) (Nat.le_of_ble_eq_true rfl) dX8_copy_58 ?_
  obtain rfl := Option.some.inj h
  exact z_vret K dX8_copy_61
/-! GoingOver$Sentence.step (III)Z -/
abbrev rmX8_step : Room := { frames := 0, cells := 0, slots := 0, locals := 0 }
def pX8_step (R : Rf) (T : Mm) (a0 : Nat) (x1 : Int32) (x2 : Int32) (x3 : Int32) : Option (Int32 × Mm) :=
  if 40 ≤ (T.1 a0 1) then some (1, T) else ix (T.1 a0 1) 40 (lt (wI T (R a0 2) (T.1 a0 1).toNatClampNeg x1) (fun (T1 : Mm) => ix (T1.1 a0 1) 40 (lt (wI T1 (R a0 3) (T1.1 a0 1).toNatClampNeg x2) (fun (T2 : Mm) => ix (T2.1 a0 1) 40 (lt (wI T2 (R a0 4) (T2.1 a0 1).toNatClampNeg x3) (fun (T3 : Mm) => lt (wI T3 a0 1 ((T3.1 a0 1) + 1)) (fun (T4 : Mm) => some (1, T4))))))))
set_option maxRecDepth 100000 in
set_option maxHeartbeats 4000000 in
theorem mX8_step {g : Gl} {R : Rf} {T : Mm} {a0 : Nat} {x1 : Int32} {x2 : Int32} {x3 : Int32} (l : Launch) (hR : Ty g R) (k0 : kd g a0 = 8) {r : Int32 × Mm} (h : pX8_step R T a0 x1 x2 x3 = some r) : MI l g yX8_step cX8_step 4 (some .boolean) rmX8_step [.ref (g.2.2.1 a0), .int x1, .int x2, .int x3] R T r.1 R r.2 := by
  refine z_metI (own := RX8) (lv := [some (.ref (g.2.2.1 a0)), some (.int x1), some (.int x2), some (.int x3)]) (by decide +kernel) rfl rfl rfl (fun X K => ?_)
  unfold pX8_step at h
  refine z_aload_n K dX8_step_0 rfl ?_
  refine z_getI K clX8 k0 1 rfl rfl q455 dX8_step_1 ?_
  refine z_bipush K 40 dX8_step_4 rfl ?_
  refine z_icmp_ge K 49 dX8_step_6 (by decide) (fun c => ?_) (fun c => ?_)
  · have h := ite_t h c
    refine z_iconst K 1 dX8_step_49 rfl ?_
    obtain rfl := Option.some.inj h
    exact z_zret (v := 1) K rfl dX8_step_50
  · have h := ite_f h c
    refine z_aload_n K dX8_step_9 rfl ?_
    refine z_getR K clX8 k0 2 rfl rfl q457 dX8_step_10 ?_
    refine z_aload_n K dX8_step_13 rfl ?_
    refine z_getI K clX8 k0 1 rfl rfl q455 dX8_step_14 ?_
    refine z_iload_n K dX8_step_17 rfl ?_
    obtain ⟨hi, h⟩ := ix_e h
    refine z_iast K (hR.at (k := 2) (t := 20040) k0 rfl rfl) rfl rfl rfl hi dX8_step_18 ?_
    refine z_aload_n K dX8_step_19 rfl ?_
    refine z_getR K clX8 k0 3 rfl rfl q458 dX8_step_20 ?_
    refine z_aload_n K dX8_step_23 rfl ?_
    refine z_getI K clX8 k0 1 rfl rfl q455 dX8_step_24 ?_
    refine z_iload_n K dX8_step_27 rfl ?_
    obtain ⟨hi, h⟩ := ix_e h
    refine z_iast K (hR.at (k := 3) (t := 20040) k0 rfl rfl) rfl rfl rfl hi dX8_step_28 ?_
    refine z_aload_n K dX8_step_29 rfl ?_
    refine z_getR K clX8 k0 4 rfl rfl q459 dX8_step_30 ?_
    refine z_aload_n K dX8_step_33 rfl ?_
    refine z_getI K clX8 k0 1 rfl rfl q455 dX8_step_34 ?_
    refine z_iload_n K dX8_step_37 rfl ?_
    obtain ⟨hi, h⟩ := ix_e h
    refine z_iast K (hR.at (k := 4) (t := 20040) k0 rfl rfl) rfl rfl rfl hi dX8_step_38 ?_
    refine z_aload_n K dX8_step_39 rfl ?_
    refine z_dup K dX8_step_40 rfl ?_
    refine z_getI K clX8 k0 1 rfl rfl q455 dX8_step_41 ?_
    refine z_iconst K 1 dX8_step_44 rfl ?_
    refine z_iadd K dX8_step_45 ?_
    refine z_putI K clX8 tyX8_ok nmX8 k0 1 rfl rfl q455 rfl rfl rfl dX8_step_46 ?_
    refine z_iconst K 1 dX8_step_49 rfl ?_
    obtain rfl := Option.some.inj h
    exact z_zret (v := 1) K rfl dX8_step_50
/-! GoingOver$Tape.takeSign ()I -/
abbrev rmX10_takeSign : Room := { frames := 1, cells := 0, slots := 0, locals := 21 }
def pX10_takeSign_30 (R : Rf) (a0 : Nat) (T : Mm) : Option (Int32 × Mm) :=
  bd2 (pX10_fail R T a0 1) (fun (u2 : Int32) (T2 : Mm) => some ((-1), T2))
def pX10_takeSign (R : Rf) (T : Mm) (a0 : Nat) : Option (Int32 × Mm) :=
  ix (T.1 a0 6) 941 (lt (T.1 (R a0 9) (T.1 a0 6).toNatClampNeg) (fun (v1 : Int32) => ix (T.1 a0 6) 941 (if (T.1 (R a0 7) (T.1 a0 6).toNatClampNeg) = 5 then bd1 (pX10_isSign R T v1) (fun (u3 : Int32) => if u3 = 0 then pX10_takeSign_30 R a0 T else bd1 (pX10_advance R T a0) (fun (T4 : Mm) => some (v1, T4))) else pX10_takeSign_30 R a0 T)))
set_option maxRecDepth 100000 in
set_option maxHeartbeats 4000000 in
theorem wX10_takeSign_30 {X : Cx} {g : Gl} {l : Launch} {R : Rf} {a0 : Nat} (K : Ok X g l cX10_takeSign RX10 2 (some .int) rmX10_takeSign) (hR : Ty g R) (k0 : kd g a0 = 10) {r : Int32 × Mm} (T : Mm) (h : pX10_takeSign_30 R a0 T = some r) : Zj X g 2 (QI X g r.1 R r.2) R T [some (.ref (g.2.2.1 a0)), none] [] 30 := by
  unfold pX10_takeSign_30 at h
  refine z_aload_n K dX10_takeSign_30 rfl ?_
  refine z_iconst K 1 dX10_takeSign_31 rfl ?_
  obtain ⟨u2, T2, hc, h⟩ := bd2_e h
  refine z_callVI K (mX10_fail l hR k0 hc) clX10 k0 ceX10_fail q648 ⟨rfl, rfl, rfl, rfl⟩ rfl rfl rfl dX10_takeSign_32 ?_
  refine z_pop K dX10_takeSign_35 rfl ?_
  refine z_iconst K (-1) dX10_takeSign_36 rfl ?_
  obtain rfl := Option.some.inj h
  exact z_iret K dX10_takeSign_37
set_option maxRecDepth 100000 in
set_option maxHeartbeats 4000000 in
theorem mX10_takeSign {g : Gl} {R : Rf} {T : Mm} {a0 : Nat} (l : Launch) (hR : Ty g R) (k0 : kd g a0 = 10) {r : Int32 × Mm} (h : pX10_takeSign R T a0 = some r) : MI l g yX10_takeSign cX10_takeSign 2 (some .int) rmX10_takeSign [.ref (g.2.2.1 a0)] R T r.1 R r.2 := by
  refine z_metI (own := RX10) (lv := [some (.ref (g.2.2.1 a0)), none]) (by decide +kernel) rfl rfl rfl (fun X K => ?_)
  unfold pX10_takeSign at h
  refine z_aload_n K dX10_takeSign_0 rfl ?_
  refine z_getR K clX10 k0 9 rfl rfl q208 dX10_takeSign_1 ?_
  refine z_aload_n K dX10_takeSign_4 rfl ?_
  refine z_getI K clX10 k0 6 rfl rfl q205 dX10_takeSign_5 ?_
  obtain ⟨hi, h⟩ := ix_e h
  refine z_iald K (hR.at (k := 9) (t := 20941) k0 rfl rfl) rfl rfl rfl hi dX10_takeSign_8 ?_
  refine z_istore_n K dX10_takeSign_9 rfl rfl ?_
  refine z_aload_n K dX10_takeSign_10 rfl ?_
  refine z_getR K clX10 k0 7 rfl rfl q206 dX10_takeSign_11 ?_
  refine z_aload_n K dX10_takeSign_14 rfl ?_
  refine z_getI K clX10 k0 6 rfl rfl q205 dX10_takeSign_15 ?_
  obtain ⟨hi, h⟩ := ix_e h
  refine z_iald K (hR.at (k := 7) (t := 20941) k0 rfl rfl) rfl rfl rfl hi dX10_takeSign_18 ?_
  refine z_iconst K 5 dX10_takeSign_19 rfl ?_
  refine z_icmp_ne K 30 dX10_takeSign_20 (by decide) (fun c => ?_) (fun c => ?_)
  · have h := ite_f h c
    refine Zj.mask [true, false] ?_
    exact wX10_takeSign_30 K hR k0 _ h
  · have h := ite_t h c
    refine z_iload_n K dX10_takeSign_23 rfl ?_
    obtain ⟨u3, hc, h⟩ := bd1_e h
    refine z_callSI K (mX10_isSign l hR hc) ceX10_isSign q614 ⟨rfl, rfl, rfl, rfl⟩ rfl rfl rfl dX10_takeSign_24 ?_
    refine z_if_ne K 38 dX10_takeSign_27 (by decide) (fun c => ?_) (fun c => ?_)
    · have h := ite_f h c
      refine z_aload_n K dX10_takeSign_38 rfl ?_
      obtain ⟨T4, hc, h⟩ := bd1_e h
      refine z_callVV K (mX10_advance l hR k0 hc) clX10 k0 ceX10_advance q649 ⟨rfl, rfl, rfl, rfl⟩ rfl rfl rfl dX10_takeSign_39 ?_
      refine z_iload_n K dX10_takeSign_42 rfl ?_
      obtain rfl := Option.some.inj h
      exact z_iret K dX10_takeSign_43
    · have h := ite_t h c
      refine Zj.mask [true, false] ?_
      exact wX10_takeSign_30 K hR k0 _ h
/-! GoingOver$Sentence.readComparison (LGoingOver$Tape;I)Z -/
abbrev rmX8_readComparison : Room := { frames := 2, cells := 0, slots := 0, locals := 44 }
def pX8_readComparison (R : Rf) (T : Mm) (a0 : Nat) (a1 : Nat) (x2 : Int32) : Option (Int32 × Mm) :=
  bd2 (pX10_takeSign R T a1) (fun (u1 : Int32) (T1 : Mm) => if u1 = (-1) then some (0, T1) else bd2 (pX10_takeNumber R T1 a1 0 999) (fun (u2 : Int32) (T2 : Mm) => if u2 = (-1) then some (0, T2) else bd2 (pX8_step R T2 a0 x2 u1 u2) (fun (u3 : Int32) (T3 : Mm) => if u3 = 0 then some (0, T3) else some (1, T3))))
set_option maxRecDepth 100000 in
set_option maxHeartbeats 4000000 in
theorem mX8_readComparison {g : Gl} {R : Rf} {T : Mm} {a0 : Nat} {a1 : Nat} {x2 : Int32} (l : Launch) (hR : Ty g R) (k0 : kd g a0 = 8) (k1 : kd g a1 = 10) {r : Int32 × Mm} (h : pX8_readComparison R T a0 a1 x2 = some r) : MI l g yX8_readComparison cX8_readComparison 5 (some .boolean) rmX8_readComparison [.ref (g.2.2.1 a0), .ref (g.2.2.1 a1), .int x2] R T r.1 R r.2 := by
  refine z_metI (own := RX8) (lv := [some (.ref (g.2.2.1 a0)), some (.ref (g.2.2.1 a1)), some (.int x2), none, none]) (by decide +kernel) rfl rfl rfl (fun X K => ?_)
  unfold pX8_readComparison at h
  refine z_aload_n K dX8_readComparison_0 rfl ?_
  obtain ⟨u1, T1, hc, h⟩ := bd2_e h
  refine z_callVI K (mX10_takeSign l hR k1 hc) clX10 k1 ceX10_takeSign q1155 ⟨rfl, rfl, rfl, rfl⟩ rfl rfl rfl dX8_readComparison_1 ?_
  refine z_istore_n K dX8_readComparison_4 rfl rfl ?_
  refine z_iload_n K dX8_readComparison_5 rfl ?_
  refine z_iconst K (-1) dX8_readComparison_6 rfl ?_
  refine z_icmp_ne K 12 dX8_readComparison_7 (by decide) (fun c => ?_) (fun c => ?_)
  · have h := ite_f h c
    refine z_aload_n K dX8_readComparison_12 rfl ?_
    refine z_iconst K 0 dX8_readComparison_13 rfl ?_
    refine z_sipush K 999 dX8_readComparison_14 rfl ?_
    obtain ⟨u2, T2, hc, h⟩ := bd2_e h
    refine z_callVI K (mX10_takeNumber l hR k1 hc) clX10 k1 ceX10_takeNumber q1159 ⟨rfl, rfl, rfl, rfl⟩ rfl rfl rfl dX8_readComparison_17 ?_
    refine z_istore K dX8_readComparison_20 rfl rfl ?_
    refine z_iload K dX8_readComparison_22 rfl ?_
    refine z_iconst K (-1) dX8_readComparison_24 rfl ?_
    refine z_icmp_eq K 43 dX8_readComparison_25 (by decide) (fun c => ?_) (fun c => ?_)
    · have h := ite_t h c
      refine z_iconst K 0 dX8_readComparison_43 rfl ?_
      obtain rfl := Option.some.inj h
      exact z_zret (v := 0) K rfl dX8_readComparison_44
    · have h := ite_f h c
      refine z_aload_n K dX8_readComparison_28 rfl ?_
      refine z_iload_n K dX8_readComparison_29 rfl ?_
      refine z_iload_n K dX8_readComparison_30 rfl ?_
      refine z_iload K dX8_readComparison_31 rfl ?_
      obtain ⟨u3, T3, hc, h⟩ := bd2_e h
      refine z_callVI K (mX8_step l hR k0 hc) clX8 k0 ceX8_step q1146 ⟨rfl, rfl, rfl, rfl⟩ rfl rfl rfl dX8_readComparison_33 ?_
      refine z_if_eq K 43 dX8_readComparison_36 (by decide) (fun c => ?_) (fun c => ?_)
      · have h := ite_t h c
        refine z_iconst K 0 dX8_readComparison_43 rfl ?_
        obtain rfl := Option.some.inj h
        exact z_zret (v := 0) K rfl dX8_readComparison_44
      · have h := ite_f h c
        refine z_iconst K 1 dX8_readComparison_39 rfl ?_
        refine z_goto K 44 dX8_readComparison_40 (by decide) ?_
        obtain rfl := Option.some.inj h
        exact z_zret (v := 1) K rfl dX8_readComparison_44
  · have h := ite_t h c
    refine z_iconst K 0 dX8_readComparison_10 rfl ?_
    obtain rfl := Option.some.inj h
    exact z_zret (v := 0) K rfl dX8_readComparison_11
/-! the two methods that call one another: over functions for what they call; the room grows with the depth e -/
abbrev RecF : Type := Rf → Mm → Nat → Nat → Nat → Int32 → Option (Int32 × Mm)
abbrev rmO (e : Nat) : Room := { frames := 20 + 2 * e, cells := 0, slots := 0, locals := 500 + 60 * e }
abbrev rmC (e : Nat) : Room := { frames := 21 + 2 * e, cells := 0, slots := 0, locals := 530 + 60 * e }
def RecM (l : Launch) (g : Gl) (y : MethodName) (cc : ByteArray) (nL : Nat) (rm : Room) (R : Rf) (F : RecF) : Prop := ∀ {T : Mm} {a0 a1 a2 : Nat} {x3 : Int32} {r : Int32 × Mm}, Ty g R → kd g a0 = 8 → kd g a1 = 10 → kd g a2 = 3 → F R T a0 a1 a2 x3 = some r → MI l g y cc nL (some .boolean) rm [.ref (g.2.2.1 a0), .ref (g.2.2.1 a1), .ref (g.2.2.1 a2), .int x3] R T r.1 R r.2
theorem fitO {rm' : Room} {nL' : Nat} (e : Nat) (h : fitR rm' (rmO 0) nL') : fitR rm' (rmO (e + 1)) nL' := ⟨h.1, h.2.1, Nat.ble_eq.mpr (Nat.le_trans (Nat.le_of_ble_eq_true h.2.2.1) (by show 20 + 2 * 0 ≤ 20 + 2 * (e + 1); omega)), Nat.ble_eq.mpr (Nat.le_trans (Nat.le_of_ble_eq_true h.2.2.2) (by show 500 + 60 * 0 ≤ 500 + 60 * (e + 1); omega))⟩
theorem fitC {rm' : Room} {nL' : Nat} (e : Nat) (h : fitR rm' (rmO 0) nL') : fitR rm' (rmC e) nL' := ⟨h.1, h.2.1, Nat.ble_eq.mpr (Nat.le_trans (Nat.le_of_ble_eq_true h.2.2.1) (by show 20 + 2 * 0 ≤ 21 + 2 * e; omega)), Nat.ble_eq.mpr (Nat.le_trans (Nat.le_of_ble_eq_true h.2.2.2) (by show 500 + 60 * 0 ≤ 530 + 60 * e; omega))⟩
theorem fitOO (e : Nat) : fitR (rmO e) (rmO (e + 1)) 7 := ⟨rfl, rfl, Nat.ble_eq.mpr (by show 20 + 2 * e + 1 ≤ 20 + 2 * (e + 1); omega), Nat.ble_eq.mpr (by show 8 + (7 + 11) + (500 + 60 * e) ≤ 500 + 60 * (e + 1); omega)⟩
theorem fitCO (e : Nat) : fitR (rmC e) (rmO (e + 1)) 6 := ⟨rfl, rfl, Nat.ble_eq.mpr (by show 21 + 2 * e + 1 ≤ 20 + 2 * (e + 1); omega), Nat.ble_eq.mpr (by show 8 + (6 + 11) + (530 + 60 * e) ≤ 500 + 60 * (e + 1); omega)⟩
theorem fitOC (e : Nat) : fitR (rmO e) (rmC e) 7 := ⟨rfl, rfl, Nat.ble_eq.mpr (by show 20 + 2 * e + 1 ≤ 21 + 2 * e; omega), Nat.ble_eq.mpr (by show 8 + (7 + 11) + (500 + 60 * e) ≤ 530 + 60 * e; omega)⟩
def pX8_readOne_47 (FO FC : RecF) (R : Rf) (a0 : Nat) (a1 : Nat) (a2 : Nat) (x3 : Int32) (T : Mm) : Option (Int32 × Mm) :=
  bd2 (pX10_fail R T a1 4) (fun (u3 : Int32) (T3 : Mm) => bz u3 (some (u3, T3)))
def pX8_readOne_32 (FO FC : RecF) (R : Rf) (a0 : Nat) (a1 : Nat) (a2 : Nat) (x3 : Int32) (T : Mm) (x4 : Int32) (x5 : Int32) : Option (Int32 × Mm) :=
  if 20 ≤ (T.1 a0 0) then pX8_readOne_47 FO FC R a0 a1 a2 x3 T else if x3 ≤ 8 then lt (wI T a0 0 ((T.1 a0 0) + 1)) (fun (T4 : Mm) => bd1 (pX10_advance R T4 a1) (fun (T5 : Mm) => if x5 = 0 then if x4 = 13 then bd2 (FO R T5 a0 a1 a2 (x3 + 1)) (fun (u10 : Int32) (T10 : Mm) => if u10 = 0 then some (0, T10) else bd2 (pX8_step R T10 a0 13 0 0) (fun (u11 : Int32) (T11 : Mm) => if u11 = 0 then some (0, T11) else some (1, T11))) else if x4 = 19 then bd2 (pX3_takeItem R T5 a2 a1) (fun (u8 : Int32) (T8 : Mm) => if u8 = (-1) then some (0, T8) else bd2 (pX8_step R T8 a0 19 0 u8) (fun (u9 : Int32) (T9 : Mm) => if u9 = 0 then some (0, T9) else some (1, T9))) else if x4 < 20 then bd2 (pX8_step R T5 a0 x4 0 0) (fun (u6 : Int32) (T6 : Mm) => bz u6 (some (u6, T6))) else bd2 (pX8_readComparison R T5 a0 a1 x4) (fun (u7 : Int32) (T7 : Mm) => bz u7 (some (u7, T7))) else bd2 (FC R T5 a0 a1 a2 (x3 + 1)) (fun (u12 : Int32) (T12 : Mm) => if u12 = 0 then some (0, T12) else bd2 (pX10_takeMark R T12 a1 41) (fun (u13 : Int32) (T13 : Mm) => if u13 = 0 then some (0, T13) else some (1, T13))))) else pX8_readOne_47 FO FC R a0 a1 a2 x3 T
def pX8_readOne_F (FO FC : RecF) (R : Rf) (T : Mm) (a0 : Nat) (a1 : Nat) (a2 : Nat) (x3 : Int32) : Option (Int32 × Mm) :=
  bd1 (pX10_keyword R T a1) (fun (u1 : Int32) => bd1 (pX10_atMark R T a1 40) (fun (u2 : Int32) => if u2 = 0 then if 13 ≤ u1 then pX8_readOne_32 FO FC R a0 a1 a2 x3 T u1 u2 else bd2 (pX10_fail R T a1 1) (fun (u14 : Int32) (T14 : Mm) => bz u14 (some (u14, T14))) else pX8_readOne_32 FO FC R a0 a1 a2 x3 T u1 u2))
set_option maxRecDepth 100000 in
set_option maxHeartbeats 4000000 in
theorem wX8_readOne_47 {X : Cx} {g : Gl} {l : Launch} {e : Nat} {FO FC : RecF} {R : Rf} {a0 : Nat} {a1 : Nat} {a2 : Nat} {x3 : Int32} (K : Ok X g l cX8_readOne RX8 7 (some .boolean) (rmO (e + 1))) (hR : Ty g R) (hFO : RecM l g yX8_readOne cX8_readOne 7 (rmO e) R FO) (hFC : RecM l g yX8_readCondition cX8_readCondition 6 (rmC e) R FC) (k0 : kd g a0 = 8) (k1 : kd g a1 = 10) (k2 : kd g a2 = 3) {r : Int32 × Mm} (T : Mm) (h : pX8_readOne_47 FO FC R a0 a1 a2 x3 T = some r) : Zj X g 7 (QI X g r.1 R r.2) R T [none, some (.ref (g.2.2.1 a1)), none, none, none, none, none] [] 47 := by
  unfold pX8_readOne_47 at h
  refine z_aload_n K dX8_readOne_47 rfl ?_
  refine z_iconst K 4 dX8_readOne_48 rfl ?_
  obtain ⟨u3, T3, hc, h⟩ := bd2_e h
  refine z_callVI K (mX10_fail l hR k1 hc) clX10 k1 ceX10_fail q1143 (fitO e ⟨rfl, rfl, rfl, rfl⟩) rfl rfl rfl dX8_readOne_49 ?_
  obtain ⟨hz, hf, h⟩ := bz_e h
  obtain rfl := Option.some.inj h
  exact z_zret K hz dX8_readOne_52
set_option maxRecDepth 100000 in
set_option maxHeartbeats 4000000 in
theorem wX8_readOne_32 {X : Cx} {g : Gl} {l : Launch} {e : Nat} {FO FC : RecF} {R : Rf} {a0 : Nat} {a1 : Nat} {a2 : Nat} {x3 : Int32} (K : Ok X g l cX8_readOne RX8 7 (some .boolean) (rmO (e + 1))) (hR : Ty g R) (hFO : RecM l g yX8_readOne cX8_readOne 7 (rmO e) R FO) (hFC : RecM l g yX8_readCondition cX8_readCondition 6 (rmC e) R FC) (k0 : kd g a0 = 8) (k1 : kd g a1 = 10) (k2 : kd g a2 = 3) {r : Int32 × Mm} (T : Mm) (x4 : Int32) (x5 : Int32) (h : pX8_readOne_32 FO FC R a0 a1 a2 x3 T x4 x5 = some r) : Zj X g 7 (QI X g r.1 R r.2) R T [some (.ref (g.2.2.1 a0)), some (.ref (g.2.2.1 a1)), some (.ref (g.2.2.1 a2)), some (.int x3), some (.int x4), some (.int x5), none] [] 32 := by
  unfold pX8_readOne_32 at h
  refine z_aload_n K dX8_readOne_32 rfl ?_
  refine z_getI K clX8 k0 0 rfl rfl q453 dX8_readOne_33 ?_
  refine z_bipush K 20 dX8_readOne_36 rfl ?_
  refine z_icmp_ge K 47 dX8_readOne_38 (by decide) (fun c => ?_) (fun c => ?_)
  · have h := ite_t h c
    refine Zj.mask [false, true, false, false, false, false, false] ?_
    exact wX8_readOne_47 K hR hFO hFC k0 k1 k2 _ h
  · have h := ite_f h c
    refine z_iload_n K dX8_readOne_41 rfl ?_
    refine z_bipush K 8 dX8_readOne_42 rfl ?_
    refine z_icmp_le K 53 dX8_readOne_44 (by decide) (fun c => ?_) (fun c => ?_)
    · have h := ite_t h c
      refine z_aload_n K dX8_readOne_53 rfl ?_
      refine z_dup K dX8_readOne_54 rfl ?_
      refine z_getI K clX8 k0 0 rfl rfl q453 dX8_readOne_55 ?_
      refine z_iconst K 1 dX8_readOne_58 rfl ?_
      refine z_iadd K dX8_readOne_59 ?_
      refine z_putI K clX8 tyX8_ok nmX8 k0 0 rfl rfl q453 rfl rfl rfl dX8_readOne_60 ?_
      refine z_aload_n K dX8_readOne_63 rfl ?_
      obtain ⟨T5, hc, h⟩ := bd1_e h
      refine z_callVV K (mX10_advance l hR k1 hc) clX10 k1 ceX10_advance q1144 (fitO e ⟨rfl, rfl, rfl, rfl⟩) rfl rfl rfl dX8_readOne_64 ?_
      refine z_iload K dX8_readOne_67 rfl ?_
      refine z_if_eq K 99 dX8_readOne_69 (by decide) (fun c => ?_) (fun c => ?_)
      · have h := ite_t h c
        refine z_iload K dX8_readOne_99 rfl ?_
        refine z_bipush K 13 dX8_readOne_101 rfl ?_
        refine z_icmp_ne K 135 dX8_readOne_103 (by decide) (fun c => ?_) (fun c => ?_)
        · have h := ite_f h c
          refine z_iload K dX8_readOne_135 rfl ?_
          refine z_bipush K 19 dX8_readOne_137 rfl ?_
          refine z_icmp_ne K 173 dX8_readOne_139 (by decide) (fun c => ?_) (fun c => ?_)
          · have h := ite_f h c
            refine z_iload K dX8_readOne_173 rfl ?_
            refine z_bipush K 20 dX8_readOne_175 rfl ?_
            refine z_icmp_lt K 190 dX8_readOne_177 (by decide) (fun c => ?_) (fun c => ?_)
            · have h := ite_t h c
              refine z_aload_n K dX8_readOne_190 rfl ?_
              refine z_iload K dX8_readOne_191 rfl ?_
              refine z_iconst K 0 dX8_readOne_193 rfl ?_
              refine z_iconst K 0 dX8_readOne_194 rfl ?_
              obtain ⟨u6, T6, hc, h⟩ := bd2_e h
              refine z_callVI K (mX8_step l hR k0 hc) clX8 k0 ceX8_step q1146 (fitO e ⟨rfl, rfl, rfl, rfl⟩) rfl rfl rfl dX8_readOne_195 ?_
              obtain ⟨hz, hf, h⟩ := bz_e h
              obtain rfl := Option.some.inj h
              exact z_zret K hz dX8_readOne_198
            · have h := ite_f h c
              refine z_aload_n K dX8_readOne_180 rfl ?_
              refine z_aload_n K dX8_readOne_181 rfl ?_
              refine z_iload K dX8_readOne_182 rfl ?_
              obtain ⟨u7, T7, hc, h⟩ := bd2_e h
              refine z_callVI K (mX8_readComparison l hR k0 k1 hc) clX8 k0 ceX8_readComparison q1151 (fitO e ⟨rfl, rfl, rfl, rfl⟩) rfl rfl rfl dX8_readOne_184 ?_
              refine z_goto K 198 dX8_readOne_187 (by decide) ?_
              obtain ⟨hz, hf, h⟩ := bz_e h
              obtain rfl := Option.some.inj h
              exact z_zret K hz dX8_readOne_198
          · have h := ite_t h c
            refine z_aload_n K dX8_readOne_142 rfl ?_
            refine z_aload_n K dX8_readOne_143 rfl ?_
            obtain ⟨u8, T8, hc, h⟩ := bd2_e h
            refine z_callVI K (mX3_takeItem l hR k2 k1 hc) clX3 k2 ceX3_takeItem q1150 (fitO e ⟨rfl, rfl, rfl, rfl⟩) rfl rfl rfl dX8_readOne_144 ?_
            refine z_istore K dX8_readOne_147 rfl rfl ?_
            refine z_iload K dX8_readOne_149 rfl ?_
            refine z_iconst K (-1) dX8_readOne_151 rfl ?_
            refine z_icmp_eq K 171 dX8_readOne_152 (by decide) (fun c => ?_) (fun c => ?_)
            · have h := ite_t h c
              refine z_iconst K 0 dX8_readOne_171 rfl ?_
              obtain rfl := Option.some.inj h
              exact z_zret (v := 0) K rfl dX8_readOne_172
            · have h := ite_f h c
              refine z_aload_n K dX8_readOne_155 rfl ?_
              refine z_bipush K 19 dX8_readOne_156 rfl ?_
              refine z_iconst K 0 dX8_readOne_158 rfl ?_
              refine z_iload K dX8_readOne_159 rfl ?_
              obtain ⟨u9, T9, hc, h⟩ := bd2_e h
              refine z_callVI K (mX8_step l hR k0 hc) clX8 k0 ceX8_step q1146 (fitO e ⟨rfl, rfl, rfl, rfl⟩) rfl rfl rfl dX8_readOne_161 ?_
              refine z_if_eq K 171 dX8_readOne_164 (by decide) (fun c => ?_) (fun c => ?_)
              · have h := ite_t h c
                refine z_iconst K 0 dX8_readOne_171 rfl ?_
                obtain rfl := Option.some.inj h
                exact z_zret (v := 0) K rfl dX8_readOne_172
              · have h := ite_f h c
                refine z_iconst K 1 dX8_readOne_167 rfl ?_
                refine z_goto K 172 dX8_readOne_168 (by decide) ?_
                obtain rfl := Option.some.inj h
                exact z_zret (v := 1) K rfl dX8_readOne_172
        · have h := ite_t h c
          refine z_aload_n K dX8_readOne_106 rfl ?_
          refine z_aload_n K dX8_readOne_107 rfl ?_
          refine z_aload_n K dX8_readOne_108 rfl ?_
          refine z_iload_n K dX8_readOne_109 rfl ?_
          refine z_iconst K 1 dX8_readOne_110 rfl ?_
          refine z_iadd K dX8_readOne_111 ?_
          obtain ⟨u10, T10, hc, h⟩ := bd2_e h
          refine z_callVI K (hFO hR k0 k1 k2 hc) clX8 k0 ceX8_readOne q1137 (fitOO e) rfl rfl rfl dX8_readOne_112 ?_
          refine z_if_eq K 133 dX8_readOne_115 (by decide) (fun c => ?_) (fun c => ?_)
          · have h := ite_t h c
            refine z_iconst K 0 dX8_readOne_133 rfl ?_
            obtain rfl := Option.some.inj h
            exact z_zret (v := 0) K rfl dX8_readOne_134
          · have h := ite_f h c
            refine z_aload_n K dX8_readOne_118 rfl ?_
            refine z_bipush K 13 dX8_readOne_119 rfl ?_
            refine z_iconst K 0 dX8_readOne_121 rfl ?_
            refine z_iconst K 0 dX8_readOne_122 rfl ?_
            obtain ⟨u11, T11, hc, h⟩ := bd2_e h
            refine z_callVI K (mX8_step l hR k0 hc) clX8 k0 ceX8_step q1146 (fitO e ⟨rfl, rfl, rfl, rfl⟩) rfl rfl rfl dX8_readOne_123 ?_
            refine z_if_eq K 133 dX8_readOne_126 (by decide) (fun c => ?_) (fun c => ?_)
            · have h := ite_t h c
              refine z_iconst K 0 dX8_readOne_133 rfl ?_
              obtain rfl := Option.some.inj h
              exact z_zret (v := 0) K rfl dX8_readOne_134
            · have h := ite_f h c
              refine z_iconst K 1 dX8_readOne_129 rfl ?_
              refine z_goto K 134 dX8_readOne_130 (by decide) ?_
              obtain rfl := Option.some.inj h
              exact z_zret (v := 1) K rfl dX8_readOne_134
      · have h := ite_f h c
        refine z_aload_n K dX8_readOne_72 rfl ?_
        refine z_aload_n K dX8_readOne_73 rfl ?_
        refine z_aload_n K dX8_readOne_74 rfl ?_
        refine z_iload_n K dX8_readOne_75 rfl ?_
        refine z_iconst K 1 dX8_readOne_76 rfl ?_
        refine z_iadd K dX8_readOne_77 ?_
        obtain ⟨u12, T12, hc, h⟩ := bd2_e h
        refine z_callVI K (hFC hR k0 k1 k2 hc) clX8 k0 ceX8_readCondition q1133 (fitCO e) rfl rfl rfl dX8_readOne_78 ?_
        refine z_if_eq K 97 dX8_readOne_81 (by decide) (fun c => ?_) (fun c => ?_)
        · have h := ite_t h c
          refine z_iconst K 0 dX8_readOne_97 rfl ?_
          obtain rfl := Option.some.inj h
          exact z_zret (v := 0) K rfl dX8_readOne_98
        · have h := ite_f h c
          refine z_aload_n K dX8_readOne_84 rfl ?_
          refine z_bipush K 41 dX8_readOne_85 rfl ?_
          obtain ⟨u13, T13, hc, h⟩ := bd2_e h
          refine z_callVI K (mX10_takeMark l hR k1 hc) clX10 k1 ceX10_takeMark q1145 (fitO e ⟨rfl, rfl, rfl, rfl⟩) rfl rfl rfl dX8_readOne_87 ?_
          refine z_if_eq K 97 dX8_readOne_90 (by decide) (fun c => ?_) (fun c => ?_)
          · have h := ite_t h c
            refine z_iconst K 0 dX8_readOne_97 rfl ?_
            obtain rfl := Option.some.inj h
            exact z_zret (v := 0) K rfl dX8_readOne_98
          · have h := ite_f h c
            refine z_iconst K 1 dX8_readOne_93 rfl ?_
            refine z_goto K 98 dX8_readOne_94 (by decide) ?_
            obtain rfl := Option.some.inj h
            exact z_zret (v := 1) K rfl dX8_readOne_98
    · have h := ite_f h c
      refine Zj.mask [false, true, false, false, false, false, false] ?_
      exact wX8_readOne_47 K hR hFO hFC k0 k1 k2 _ h
set_option maxRecDepth 100000 in
set_option maxHeartbeats 4000000 in
theorem mX8_readOne_F {g : Gl} {R : Rf} {T : Mm} {a0 : Nat} {a1 : Nat} {a2 : Nat} {x3 : Int32} (l : Launch) (hR : Ty g R) {e : Nat} {FO FC : RecF} (hFO : RecM l g yX8_readOne cX8_readOne 7 (rmO e) R FO) (hFC : RecM l g yX8_readCondition cX8_readCondition 6 (rmC e) R FC) (k0 : kd g a0 = 8) (k1 : kd g a1 = 10) (k2 : kd g a2 = 3) {r : Int32 × Mm} (h : pX8_readOne_F FO FC R T a0 a1 a2 x3 = some r) : MI l g yX8_readOne cX8_readOne 7 (some .boolean) (rmO (e + 1)) [.ref (g.2.2.1 a0), .ref (g.2.2.1 a1), .ref (g.2.2.1 a2), .int x3] R T r.1 R r.2 := by
  refine z_metI (own := RX8) (lv := [some (.ref (g.2.2.1 a0)), some (.ref (g.2.2.1 a1)), some (.ref (g.2.2.1 a2)), some (.int x3), none, none, none]) (by decide +kernel) rfl rfl rfl (fun X K => ?_)
  unfold pX8_readOne_F at h
  refine z_aload_n K dX8_readOne_0 rfl ?_
  obtain ⟨u1, hc, h⟩ := bd1_e h
  refine z_callVI K (mX10_keyword l hR k1 hc) clX10 k1 ceX10_keyword q1141 (fitO e ⟨rfl, rfl, rfl, rfl⟩) rfl rfl rfl dX8_readOne_1 ?_
  refine z_istore K dX8_readOne_4 rfl rfl ?_
  refine z_aload_n K dX8_readOne_6 rfl ?_
  refine z_bipush K 40 dX8_readOne_7 rfl ?_
  obtain ⟨u2, hc, h⟩ := bd1_e h
  refine z_callVI K (mX10_atMark l hR k1 hc) clX10 k1 ceX10_atMark q1142 (fitO e ⟨rfl, rfl, rfl, rfl⟩) rfl rfl rfl dX8_readOne_9 ?_
  refine z_istore K dX8_readOne_12 rfl rfl ?_
  refine z_iload K dX8_readOne_14 rfl ?_
  refine z_if_ne K 32 dX8_readOne_16 (by decide) (fun c => ?_) (fun c => ?_)
  · have h := ite_f h c
    refine Zj.mask [true, true, true, true, true, true, false] ?_
    exact wX8_readOne_32 K hR hFO hFC k0 k1 k2 _ _ _ h
  · have h := ite_t h c
    refine z_iload K dX8_readOne_19 rfl ?_
    refine z_bipush K 13 dX8_readOne_21 rfl ?_
    refine z_icmp_ge K 32 dX8_readOne_23 (by decide) (fun c => ?_) (fun c => ?_)
    · have h := ite_t h c
      refine Zj.mask [true, true, true, true, true, true, false] ?_
      exact wX8_readOne_32 K hR hFO hFC k0 k1 k2 _ _ _ h
    · have h := ite_f h c
      refine z_aload_n K dX8_readOne_26 rfl ?_
      refine z_iconst K 1 dX8_readOne_27 rfl ?_
      obtain ⟨u14, T14, hc, h⟩ := bd2_e h
      refine z_callVI K (mX10_fail l hR k1 hc) clX10 k1 ceX10_fail q1143 (fitO e ⟨rfl, rfl, rfl, rfl⟩) rfl rfl rfl dX8_readOne_28 ?_
      obtain ⟨hz, hf, h⟩ := bz_e h
      obtain rfl := Option.some.inj h
      exact z_zret K hz dX8_readOne_31
def pX8_readCondition_46 (FO FC : RecF) (R : Rf) (a0 : Nat) (a1 : Nat) (a2 : Nat) (x3 : Int32) (r13 : Mm → Int32 → Int32 → Option (Int32 × Mm)) (e30 : Mm → Option (Int32 × Mm)) (e55 : Mm → Int32 → Option (Int32 × Mm)) (e68 : Mm → Int32 → Option (Int32 × Mm)) (T : Mm) (x4 : Int32) (x5 : Int32) : Option (Int32 × Mm) :=
  bd1 (pX10_keyword R T a1) (fun (u2 : Int32) => if u2 = 12 then bd1 (pX10_advance R T a1) (fun (T3 : Mm) => lt (x5 + 1) (fun (v4 : Int32) => r13 T3 x4 v4)) else e55 T x4)
def pX8_readCondition_13 (FO FC : RecF) (R : Rf) (a0 : Nat) (a1 : Nat) (a2 : Nat) (x3 : Int32) (e30 : Mm → Option (Int32 × Mm)) (e55 : Mm → Int32 → Option (Int32 × Mm)) (e68 : Mm → Int32 → Option (Int32 × Mm)) (r13 : Mm → Int32 → Int32 → Option (Int32 × Mm)) (T : Mm) (x4 : Int32) (x5 : Int32) : Option (Int32 × Mm) :=
  if 20 < x5 then e68 T x4 else bd2 (FO R T a0 a1 a2 x3) (fun (u1 : Int32) (T1 : Mm) => if u1 = 0 then e30 T1 else if x5 ≤ 0 then pX8_readCondition_46 FO FC R a0 a1 a2 x3 r13 e30 e55 e68 T1 x4 x5 else bd2 (pX8_step R T1 a0 12 0 0) (fun (u5 : Int32) (T5 : Mm) => pX8_readCondition_46 FO FC R a0 a1 a2 x3 r13 e30 e55 e68 T5 x4 x5))
def pX8_readCondition_82 (FO FC : RecF) (R : Rf) (a0 : Nat) (a1 : Nat) (a2 : Nat) (x3 : Int32) (r3 : Mm → Int32 → Option (Int32 × Mm)) (e30 : Mm → Option (Int32 × Mm)) (e91 : Mm → Option (Int32 × Mm)) (e103 : Mm → Option (Int32 × Mm)) (T : Mm) (x4 : Int32) : Option (Int32 × Mm) :=
  bd1 (pX10_keyword R T a1) (fun (u6 : Int32) => if u6 = 11 then bd1 (pX10_advance R T a1) (fun (T7 : Mm) => lt (x4 + 1) (fun (v8 : Int32) => r3 T7 v8)) else e91 T)
def pX8_readCondition_68 (FO FC : RecF) (R : Rf) (a0 : Nat) (a1 : Nat) (a2 : Nat) (x3 : Int32) (r3 : Mm → Int32 → Option (Int32 × Mm)) (e30 : Mm → Option (Int32 × Mm)) (e91 : Mm → Option (Int32 × Mm)) (e103 : Mm → Option (Int32 × Mm)) (T : Mm) (x4 : Int32) : Option (Int32 × Mm) :=
  if x4 ≤ 0 then pX8_readCondition_82 FO FC R a0 a1 a2 x3 r3 e30 e91 e103 T x4 else bd2 (pX8_step R T a0 11 0 0) (fun (u9 : Int32) (T9 : Mm) => pX8_readCondition_82 FO FC R a0 a1 a2 x3 r3 e30 e91 e103 T9 x4)
def pX8_readCondition_55 (FO FC : RecF) (R : Rf) (a0 : Nat) (a1 : Nat) (a2 : Nat) (x3 : Int32) (r3 : Mm → Int32 → Option (Int32 × Mm)) (e30 : Mm → Option (Int32 × Mm)) (e91 : Mm → Option (Int32 × Mm)) (e103 : Mm → Option (Int32 × Mm)) (T : Mm) (x4 : Int32) : Option (Int32 × Mm) :=
  pX8_readCondition_68 FO FC R a0 a1 a2 x3 r3 e30 e91 e103 T x4
def pX8_readCondition_3 (FO FC : RecF) (R : Rf) (a0 : Nat) (a1 : Nat) (a2 : Nat) (x3 : Int32) (e30 : Mm → Option (Int32 × Mm)) (e91 : Mm → Option (Int32 × Mm)) (e103 : Mm → Option (Int32 × Mm)) (r3 : Mm → Int32 → Option (Int32 × Mm)) (T : Mm) (x4 : Int32) : Option (Int32 × Mm) :=
  if 20 < x4 then e103 T else zl3 (pX8_readCondition_13 FO FC R a0 a1 a2 x3 e30 (pX8_readCondition_55 FO FC R a0 a1 a2 x3 r3 e30 e91 e103) (pX8_readCondition_68 FO FC R a0 a1 a2 x3 r3 e30 e91 e103)) FU T x4 0
def pX8_readCondition_30 (FO FC : RecF) (R : Rf) (a0 : Nat) (a1 : Nat) (a2 : Nat) (x3 : Int32) (T : Mm) : Option (Int32 × Mm) :=
  some (0, T)
def pX8_readCondition_91 (FO FC : RecF) (R : Rf) (a0 : Nat) (a1 : Nat) (a2 : Nat) (x3 : Int32) (T : Mm) : Option (Int32 × Mm) :=
  some (1, T)
def pX8_readCondition_103 (FO FC : RecF) (R : Rf) (a0 : Nat) (a1 : Nat) (a2 : Nat) (x3 : Int32) (T : Mm) : Option (Int32 × Mm) :=
  bd2 (pX10_fail R T a1 4) (fun (u10 : Int32) (T10 : Mm) => bz u10 (some (u10, T10)))
def pX8_readCondition_F (FO FC : RecF) (R : Rf) (T : Mm) (a0 : Nat) (a1 : Nat) (a2 : Nat) (x3 : Int32) : Option (Int32 × Mm) :=
  zl2 (pX8_readCondition_3 FO FC R a0 a1 a2 x3 (pX8_readCondition_30 FO FC R a0 a1 a2 x3) (pX8_readCondition_91 FO FC R a0 a1 a2 x3) (pX8_readCondition_103 FO FC R a0 a1 a2 x3)) FU T 0
set_option maxRecDepth 100000 in
set_option maxHeartbeats 4000000 in
theorem wX8_readCondition_46 {X : Cx} {g : Gl} {l : Launch} {e : Nat} {FO FC : RecF} {R : Rf} {a0 : Nat} {a1 : Nat} {a2 : Nat} {x3 : Int32} (K : Ok X g l cX8_readCondition RX8 6 (some .boolean) (rmC e)) (hR : Ty g R) (hFO : RecM l g yX8_readOne cX8_readOne 7 (rmO e) R FO) (hFC : RecM l g yX8_readCondition cX8_readCondition 6 (rmC e) R FC) (k0 : kd g a0 = 8) (k1 : kd g a1 = 10) (k2 : kd g a2 = 3) {r : Int32 × Mm} {r13 : Mm → Int32 → Int32 → Option (Int32 × Mm)} (hr13 : ∀ (T : Mm) (x4 : Int32) (x5 : Int32), r13 T x4 x5 = some r → Zj X g 6 (QI X g r.1 R r.2) R T [some (.ref (g.2.2.1 a0)), some (.ref (g.2.2.1 a1)), some (.ref (g.2.2.1 a2)), some (.int x3), some (.int x4), some (.int x5)] [] 13) {e30 : Mm → Option (Int32 × Mm)} (he30 : ∀ (T : Mm), e30 T = some r → Zj X g 6 (QI X g r.1 R r.2) R T [none, none, none, none, none, none] [] 30) {e55 : Mm → Int32 → Option (Int32 × Mm)} (he55 : ∀ (T : Mm) (x4 : Int32), e55 T x4 = some r → Zj X g 6 (QI X g r.1 R r.2) R T [some (.ref (g.2.2.1 a0)), some (.ref (g.2.2.1 a1)), some (.ref (g.2.2.1 a2)), some (.int x3), some (.int x4), none] [] 55) {e68 : Mm → Int32 → Option (Int32 × Mm)} (he68 : ∀ (T : Mm) (x4 : Int32), e68 T x4 = some r → Zj X g 6 (QI X g r.1 R r.2) R T [some (.ref (g.2.2.1 a0)), some (.ref (g.2.2.1 a1)), some (.ref (g.2.2.1 a2)), some (.int x3), some (.int x4), none] [] 68) (T : Mm) (x4 : Int32) (x5 : Int32) (h : pX8_readCondition_46 FO FC R a0 a1 a2 x3 r13 e30 e55 e68 T x4 x5 = some r) : Zj X g 6 (QI X g r.1 R r.2) R T [some (.ref (g.2.2.1 a0)), some (.ref (g.2.2.1 a1)), some (.ref (g.2.2.1 a2)), some (.int x3), some (.int x4), some (.int x5)] [] 46 := by
  unfold pX8_readCondition_46 at h
  refine z_aload_n K dX8_readCondition_46 rfl ?_
  obtain ⟨u2, hc, h⟩ := bd1_e h
  refine z_callVI K (mX10_keyword l hR k1 hc) clX10 k1 ceX10_keyword q1141 (fitC e ⟨rfl, rfl, rfl, rfl⟩) rfl rfl rfl dX8_readCondition_47 ?_
  refine z_bipush K 12 dX8_readCondition_50 rfl ?_
  refine z_icmp_eq K 58 dX8_readCondition_52 (by decide) (fun c => ?_) (fun c => ?_)
  · have h := ite_t h c
    refine z_aload_n K dX8_readCondition_58 rfl ?_
    obtain ⟨T3, hc, h⟩ := bd1_e h
    refine z_callVV K (mX10_advance l hR k1 hc) clX10 k1 ceX10_advance q1144 (fitC e ⟨rfl, rfl, rfl, rfl⟩) rfl rfl rfl dX8_readCondition_59 ?_
    refine z_iinc K 1 dX8_readCondition_62 rfl rfl rfl rfl ?_
    refine z_goto K 13 dX8_readCondition_65 (by decide) ?_
    refine Zj.mask [true, true, true, true, true, true] ?_
    exact hr13 _ _ _ h
  · have h := ite_f h c
    refine Zj.mask [true, true, true, true, true, false] ?_
    exact he55 _ _ h
set_option maxRecDepth 100000 in
set_option maxHeartbeats 4000000 in
theorem wX8_readCondition_13 {X : Cx} {g : Gl} {l : Launch} {e : Nat} {FO FC : RecF} {R : Rf} {a0 : Nat} {a1 : Nat} {a2 : Nat} {x3 : Int32} (K : Ok X g l cX8_readCondition RX8 6 (some .boolean) (rmC e)) (hR : Ty g R) (hFO : RecM l g yX8_readOne cX8_readOne 7 (rmO e) R FO) (hFC : RecM l g yX8_readCondition cX8_readCondition 6 (rmC e) R FC) (k0 : kd g a0 = 8) (k1 : kd g a1 = 10) (k2 : kd g a2 = 3) {r : Int32 × Mm} {e30 : Mm → Option (Int32 × Mm)} (he30 : ∀ (T : Mm), e30 T = some r → Zj X g 6 (QI X g r.1 R r.2) R T [none, none, none, none, none, none] [] 30) {e55 : Mm → Int32 → Option (Int32 × Mm)} (he55 : ∀ (T : Mm) (x4 : Int32), e55 T x4 = some r → Zj X g 6 (QI X g r.1 R r.2) R T [some (.ref (g.2.2.1 a0)), some (.ref (g.2.2.1 a1)), some (.ref (g.2.2.1 a2)), some (.int x3), some (.int x4), none] [] 55) {e68 : Mm → Int32 → Option (Int32 × Mm)} (he68 : ∀ (T : Mm) (x4 : Int32), e68 T x4 = some r → Zj X g 6 (QI X g r.1 R r.2) R T [some (.ref (g.2.2.1 a0)), some (.ref (g.2.2.1 a1)), some (.ref (g.2.2.1 a2)), some (.int x3), some (.int x4), none] [] 68) : ∀ (n : Nat) (T : Mm) (x4 : Int32) (x5 : Int32), zl3 (pX8_readCondition_13 FO FC R a0 a1 a2 x3 e30 e55 e68) n T x4 x5 = some r → Zj X g 6 (QI X g r.1 R r.2) R T [some (.ref (g.2.2.1 a0)), some (.ref (g.2.2.1 a1)), some (.ref (g.2.2.1 a2)), some (.int x3), some (.int x4), some (.int x5)] [] 13 := by
  intro n
  induction n with
  | zero =>
    intro T x4 x5 h
    exact absurd h (by simp [zl3])
  | succ n hr13 =>
    intro T x4 x5 h
    rw [zl3_s] at h
    unfold pX8_readCondition_13 at h
    refine z_iload K dX8_readCondition_13 rfl ?_
    refine z_bipush K 20 dX8_readCondition_15 rfl ?_
    refine z_icmp_gt K 68 dX8_readCondition_17 (by decide) (fun c => ?_) (fun c => ?_)
    · have h := ite_t h c
      refine Zj.mask [true, true, true, true, true, false] ?_
      exact he68 _ _ h
    · have h := ite_f h c
      refine z_aload_n K dX8_readCondition_20 rfl ?_
      refine z_aload_n K dX8_readCondition_21 rfl ?_
      refine z_aload_n K dX8_readCondition_22 rfl ?_
      refine z_iload_n K dX8_readCondition_23 rfl ?_
      obtain ⟨u1, T1, hc, h⟩ := bd2_e h
      refine z_callVI K (hFO hR k0 k1 k2 hc) clX8 k0 ceX8_readOne q1137 (fitOC e) rfl rfl rfl dX8_readCondition_24 ?_
      refine z_if_ne K 32 dX8_readCondition_27 (by decide) (fun c => ?_) (fun c => ?_)
      · have h := ite_f h c
        refine z_iload K dX8_readCondition_32 rfl ?_
        refine z_if_le K 46 dX8_readCondition_34 (by decide) (fun c => ?_) (fun c => ?_)
        · have h := ite_t h c
          refine Zj.mask [true, true, true, true, true, true] ?_
          exact wX8_readCondition_46 K hR hFO hFC k0 k1 k2 hr13 he30 he55 he68 _ _ _ h
        · have h := ite_f h c
          refine z_aload_n K dX8_readCondition_37 rfl ?_
          refine z_bipush K 12 dX8_readCondition_38 rfl ?_
          refine z_iconst K 0 dX8_readCondition_40 rfl ?_
          refine z_iconst K 0 dX8_readCondition_41 rfl ?_
          obtain ⟨u5, T5, hc, h⟩ := bd2_e h
          refine z_callVI K (mX8_step l hR k0 hc) clX8 k0 ceX8_step q1146 (fitC e ⟨rfl, rfl, rfl, rfl⟩) rfl rfl rfl dX8_readCondition_42 ?_
          refine z_pop K dX8_readCondition_45 rfl ?_
          refine Zj.mask [true, true, true, true, true, true] ?_
          exact wX8_readCondition_46 K hR hFO hFC k0 k1 k2 hr13 he30 he55 he68 _ _ _ h
      · have h := ite_t h c
        refine Zj.mask [false, false, false, false, false, false] ?_
        exact he30 _ h
set_option maxRecDepth 100000 in
set_option maxHeartbeats 4000000 in
theorem wX8_readCondition_82 {X : Cx} {g : Gl} {l : Launch} {e : Nat} {FO FC : RecF} {R : Rf} {a0 : Nat} {a1 : Nat} {a2 : Nat} {x3 : Int32} (K : Ok X g l cX8_readCondition RX8 6 (some .boolean) (rmC e)) (hR : Ty g R) (hFO : RecM l g yX8_readOne cX8_readOne 7 (rmO e) R FO) (hFC : RecM l g yX8_readCondition cX8_readCondition 6 (rmC e) R FC) (k0 : kd g a0 = 8) (k1 : kd g a1 = 10) (k2 : kd g a2 = 3) {r : Int32 × Mm} {r3 : Mm → Int32 → Option (Int32 × Mm)} (hr3 : ∀ (T : Mm) (x4 : Int32), r3 T x4 = some r → Zj X g 6 (QI X g r.1 R r.2) R T [some (.ref (g.2.2.1 a0)), some (.ref (g.2.2.1 a1)), some (.ref (g.2.2.1 a2)), some (.int x3), some (.int x4), none] [] 3) {e30 : Mm → Option (Int32 × Mm)} (he30 : ∀ (T : Mm), e30 T = some r → Zj X g 6 (QI X g r.1 R r.2) R T [none, none, none, none, none, none] [] 30) {e91 : Mm → Option (Int32 × Mm)} (he91 : ∀ (T : Mm), e91 T = some r → Zj X g 6 (QI X g r.1 R r.2) R T [none, none, none, none, none, none] [] 91) {e103 : Mm → Option (Int32 × Mm)} (he103 : ∀ (T : Mm), e103 T = some r → Zj X g 6 (QI X g r.1 R r.2) R T [none, some (.ref (g.2.2.1 a1)), none, none, none, none] [] 103) (T : Mm) (x4 : Int32) (h : pX8_readCondition_82 FO FC R a0 a1 a2 x3 r3 e30 e91 e103 T x4 = some r) : Zj X g 6 (QI X g r.1 R r.2) R T [some (.ref (g.2.2.1 a0)), some (.ref (g.2.2.1 a1)), some (.ref (g.2.2.1 a2)), some (.int x3), some (.int x4), none] [] 82 := by
  unfold pX8_readCondition_82 at h
  refine z_aload_n K dX8_readCondition_82 rfl ?_
  obtain ⟨u6, hc, h⟩ := bd1_e h
  refine z_callVI K (mX10_keyword l hR k1 hc) clX10 k1 ceX10_keyword q1141 (fitC e ⟨rfl, rfl, rfl, rfl⟩) rfl rfl rfl dX8_readCondition_83 ?_
  refine z_bipush K 11 dX8_readCondition_86 rfl ?_
  refine z_icmp_eq K 93 dX8_readCondition_88 (by decide) (fun c => ?_) (fun c => ?_)
  · have h := ite_t h c
    refine z_aload_n K dX8_readCondition_93 rfl ?_
    obtain ⟨T7, hc, h⟩ := bd1_e h
    refine z_callVV K (mX10_advance l hR k1 hc) clX10 k1 ceX10_advance q1144 (fitC e ⟨rfl, rfl, rfl, rfl⟩) rfl rfl rfl dX8_readCondition_94 ?_
    refine z_iinc K 1 dX8_readCondition_97 rfl rfl rfl rfl ?_
    refine z_goto K 3 dX8_readCondition_100 (by decide) ?_
    refine Zj.mask [true, true, true, true, true, false] ?_
    exact hr3 _ _ h
  · have h := ite_f h c
    refine Zj.mask [false, false, false, false, false, false] ?_
    exact he91 _ h
set_option maxRecDepth 100000 in
set_option maxHeartbeats 4000000 in
theorem wX8_readCondition_68 {X : Cx} {g : Gl} {l : Launch} {e : Nat} {FO FC : RecF} {R : Rf} {a0 : Nat} {a1 : Nat} {a2 : Nat} {x3 : Int32} (K : Ok X g l cX8_readCondition RX8 6 (some .boolean) (rmC e)) (hR : Ty g R) (hFO : RecM l g yX8_readOne cX8_readOne 7 (rmO e) R FO) (hFC : RecM l g yX8_readCondition cX8_readCondition 6 (rmC e) R FC) (k0 : kd g a0 = 8) (k1 : kd g a1 = 10) (k2 : kd g a2 = 3) {r : Int32 × Mm} {r3 : Mm → Int32 → Option (Int32 × Mm)} (hr3 : ∀ (T : Mm) (x4 : Int32), r3 T x4 = some r → Zj X g 6 (QI X g r.1 R r.2) R T [some (.ref (g.2.2.1 a0)), some (.ref (g.2.2.1 a1)), some (.ref (g.2.2.1 a2)), some (.int x3), some (.int x4), none] [] 3) {e30 : Mm → Option (Int32 × Mm)} (he30 : ∀ (T : Mm), e30 T = some r → Zj X g 6 (QI X g r.1 R r.2) R T [none, none, none, none, none, none] [] 30) {e91 : Mm → Option (Int32 × Mm)} (he91 : ∀ (T : Mm), e91 T = some r → Zj X g 6 (QI X g r.1 R r.2) R T [none, none, none, none, none, none] [] 91) {e103 : Mm → Option (Int32 × Mm)} (he103 : ∀ (T : Mm), e103 T = some r → Zj X g 6 (QI X g r.1 R r.2) R T [none, some (.ref (g.2.2.1 a1)), none, none, none, none] [] 103) (T : Mm) (x4 : Int32) (h : pX8_readCondition_68 FO FC R a0 a1 a2 x3 r3 e30 e91 e103 T x4 = some r) : Zj X g 6 (QI X g r.1 R r.2) R T [some (.ref (g.2.2.1 a0)), some (.ref (g.2.2.1 a1)), some (.ref (g.2.2.1 a2)), some (.int x3), some (.int x4), none] [] 68 := by
  unfold pX8_readCondition_68 at h
  refine z_iload K dX8_readCondition_68 rfl ?_
  refine z_if_le K 82 dX8_readCondition_70 (by decide) (fun c => ?_) (fun c => ?_)
  · have h := ite_t h c
    refine Zj.mask [true, true, true, true, true, false] ?_
    exact wX8_readCondition_82 K hR hFO hFC k0 k1 k2 hr3 he30 he91 he103 _ _ h
  · have h := ite_f h c
    refine z_aload_n K dX8_readCondition_73 rfl ?_
    refine z_bipush K 11 dX8_readCondition_74 rfl ?_
    refine z_iconst K 0 dX8_readCondition_76 rfl ?_
    refine z_iconst K 0 dX8_readCondition_77 rfl ?_
    obtain ⟨u9, T9, hc, h⟩ := bd2_e h
    refine z_callVI K (mX8_step l hR k0 hc) clX8 k0 ceX8_step q1146 (fitC e ⟨rfl, rfl, rfl, rfl⟩) rfl rfl rfl dX8_readCondition_78 ?_
    refine z_pop K dX8_readCondition_81 rfl ?_
    refine Zj.mask [true, true, true, true, true, false] ?_
    exact wX8_readCondition_82 K hR hFO hFC k0 k1 k2 hr3 he30 he91 he103 _ _ h
set_option maxRecDepth 100000 in
set_option maxHeartbeats 4000000 in
theorem wX8_readCondition_55 {X : Cx} {g : Gl} {l : Launch} {e : Nat} {FO FC : RecF} {R : Rf} {a0 : Nat} {a1 : Nat} {a2 : Nat} {x3 : Int32} (K : Ok X g l cX8_readCondition RX8 6 (some .boolean) (rmC e)) (hR : Ty g R) (hFO : RecM l g yX8_readOne cX8_readOne 7 (rmO e) R FO) (hFC : RecM l g yX8_readCondition cX8_readCondition 6 (rmC e) R FC) (k0 : kd g a0 = 8) (k1 : kd g a1 = 10) (k2 : kd g a2 = 3) {r : Int32 × Mm} {r3 : Mm → Int32 → Option (Int32 × Mm)} (hr3 : ∀ (T : Mm) (x4 : Int32), r3 T x4 = some r → Zj X g 6 (QI X g r.1 R r.2) R T [some (.ref (g.2.2.1 a0)), some (.ref (g.2.2.1 a1)), some (.ref (g.2.2.1 a2)), some (.int x3), some (.int x4), none] [] 3) {e30 : Mm → Option (Int32 × Mm)} (he30 : ∀ (T : Mm), e30 T = some r → Zj X g 6 (QI X g r.1 R r.2) R T [none, none, none, none, none, none] [] 30) {e91 : Mm → Option (Int32 × Mm)} (he91 : ∀ (T : Mm), e91 T = some r → Zj X g 6 (QI X g r.1 R r.2) R T [none, none, none, none, none, none] [] 91) {e103 : Mm → Option (Int32 × Mm)} (he103 : ∀ (T : Mm), e103 T = some r → Zj X g 6 (QI X g r.1 R r.2) R T [none, some (.ref (g.2.2.1 a1)), none, none, none, none] [] 103) (T : Mm) (x4 : Int32) (h : pX8_readCondition_55 FO FC R a0 a1 a2 x3 r3 e30 e91 e103 T x4 = some r) : Zj X g 6 (QI X g r.1 R r.2) R T [some (.ref (g.2.2.1 a0)), some (.ref (g.2.2.1 a1)), some (.ref (g.2.2.1 a2)), some (.int x3), some (.int x4), none] [] 55 := by
  unfold pX8_readCondition_55 at h
  refine z_goto K 68 dX8_readCondition_55 (by decide) ?_
  refine Zj.mask [true, true, true, true, true, false] ?_
  exact wX8_readCondition_68 K hR hFO hFC k0 k1 k2 hr3 he30 he91 he103 _ _ h
set_option maxRecDepth 100000 in
set_option maxHeartbeats 4000000 in
theorem wX8_readCondition_3 {X : Cx} {g : Gl} {l : Launch} {e : Nat} {FO FC : RecF} {R : Rf} {a0 : Nat} {a1 : Nat} {a2 : Nat} {x3 : Int32} (K : Ok X g l cX8_readCondition RX8 6 (some .boolean) (rmC e)) (hR : Ty g R) (hFO : RecM l g yX8_readOne cX8_readOne 7 (rmO e) R FO) (hFC : RecM l g yX8_readCondition cX8_readCondition 6 (rmC e) R FC) (k0 : kd g a0 = 8) (k1 : kd g a1 = 10) (k2 : kd g a2 = 3) {r : Int32 × Mm} {e30 : Mm → Option (Int32 × Mm)} (he30 : ∀ (T : Mm), e30 T = some r → Zj X g 6 (QI X g r.1 R r.2) R T [none, none, none, none, none, none] [] 30) {e91 : Mm → Option (Int32 × Mm)} (he91 : ∀ (T : Mm), e91 T = some r → Zj X g 6 (QI X g r.1 R r.2) R T [none, none, none, none, none, none] [] 91) {e103 : Mm → Option (Int32 × Mm)} (he103 : ∀ (T : Mm), e103 T = some r → Zj X g 6 (QI X g r.1 R r.2) R T [none, some (.ref (g.2.2.1 a1)), none, none, none, none] [] 103) : ∀ (n : Nat) (T : Mm) (x4 : Int32), zl2 (pX8_readCondition_3 FO FC R a0 a1 a2 x3 e30 e91 e103) n T x4 = some r → Zj X g 6 (QI X g r.1 R r.2) R T [some (.ref (g.2.2.1 a0)), some (.ref (g.2.2.1 a1)), some (.ref (g.2.2.1 a2)), some (.int x3), some (.int x4), none] [] 3 := by
  intro n
  induction n with
  | zero =>
    intro T x4 h
    exact absurd h (by simp [zl2])
  | succ n hr3 =>
    intro T x4 h
    rw [zl2_s] at h
    unfold pX8_readCondition_3 at h
    refine z_iload K dX8_readCondition_3 rfl ?_
    refine z_bipush K 20 dX8_readCondition_5 rfl ?_
    refine z_icmp_gt K 103 dX8_readCondition_7 (by decide) (fun c => ?_) (fun c => ?_)
    · have h := ite_t h c
      refine Zj.mask [false, true, false, false, false, false] ?_
      exact he103 _ h
    · have h := ite_f h c
      refine z_iconst K 0 dX8_readCondition_10 rfl ?_
      refine z_istore K dX8_readCondition_11 rfl rfl ?_
      refine Zj.mask [true, true, true, true, true, true] ?_
      exact wX8_readCondition_13 K hR hFO hFC k0 k1 k2 he30 (wX8_readCondition_55 K hR hFO hFC k0 k1 k2 hr3 he30 he91 he103) (wX8_readCondition_68 K hR hFO hFC k0 k1 k2 hr3 he30 he91 he103) FU _ _ _ h
set_option maxRecDepth 100000 in
set_option maxHeartbeats 4000000 in
theorem wX8_readCondition_30 {X : Cx} {g : Gl} {l : Launch} {e : Nat} {FO FC : RecF} {R : Rf} {a0 : Nat} {a1 : Nat} {a2 : Nat} {x3 : Int32} (K : Ok X g l cX8_readCondition RX8 6 (some .boolean) (rmC e)) (hR : Ty g R) (hFO : RecM l g yX8_readOne cX8_readOne 7 (rmO e) R FO) (hFC : RecM l g yX8_readCondition cX8_readCondition 6 (rmC e) R FC) (k0 : kd g a0 = 8) (k1 : kd g a1 = 10) (k2 : kd g a2 = 3) {r : Int32 × Mm} (T : Mm) (h : pX8_readCondition_30 FO FC R a0 a1 a2 x3 T = some r) : Zj X g 6 (QI X g r.1 R r.2) R T [none, none, none, none, none, none] [] 30 := by
  unfold pX8_readCondition_30 at h
  refine z_iconst K 0 dX8_readCondition_30 rfl ?_
  obtain rfl := Option.some.inj h
  exact z_zret (v := 0) K rfl dX8_readCondition_31
set_option maxRecDepth 100000 in
set_option maxHeartbeats 4000000 in
theorem wX8_readCondition_91 {X : Cx} {g : Gl} {l : Launch} {e : Nat} {FO FC : RecF} {R : Rf} {a0 : Nat} {a1 : Nat} {a2 : Nat} {x3 : Int32} (K : Ok X g l cX8_readCondition RX8 6 (some .boolean) (rmC e)) (hR : Ty g R) (hFO : RecM l g yX8_readOne cX8_readOne 7 (rmO e) R FO) (hFC : RecM l g yX8_readCondition cX8_readCondition 6 (rmC e) R FC) (k0 : kd g a0 = 8) (k1 : kd g a1 = 10) (k2 : kd g a2 = 3) {r : Int32 × Mm} (T : Mm) (h : pX8_readCondition_91 FO FC R a0 a1 a2 x3 T = some r) : Zj X g 6 (QI X g r.1 R r.2) R T [none, none, none, none, none, none] [] 91 := by
  unfold pX8_readCondition_91 at h
  refine z_iconst K 1 dX8_readCondition_91 rfl ?_
  obtain rfl := Option.some.inj h
  exact z_zret (v := 1) K rfl dX8_readCondition_92
set_option maxRecDepth 100000 in
set_option maxHeartbeats 4000000 in
theorem wX8_readCondition_103 {X : Cx} {g : Gl} {l : Launch} {e : Nat} {FO FC : RecF} {R : Rf} {a0 : Nat} {a1 : Nat} {a2 : Nat} {x3 : Int32} (K : Ok X g l cX8_readCondition RX8 6 (some .boolean) (rmC e)) (hR : Ty g R) (hFO : RecM l g yX8_readOne cX8_readOne 7 (rmO e) R FO) (hFC : RecM l g yX8_readCondition cX8_readCondition 6 (rmC e) R FC) (k0 : kd g a0 = 8) (k1 : kd g a1 = 10) (k2 : kd g a2 = 3) {r : Int32 × Mm} (T : Mm) (h : pX8_readCondition_103 FO FC R a0 a1 a2 x3 T = some r) : Zj X g 6 (QI X g r.1 R r.2) R T [none, some (.ref (g.2.2.1 a1)), none, none, none, none] [] 103 := by
  unfold pX8_readCondition_103 at h
  refine z_aload_n K dX8_readCondition_103 rfl ?_
  refine z_iconst K 4 dX8_readCondition_104 rfl ?_
  obtain ⟨u10, T10, hc, h⟩ := bd2_e h
  refine z_callVI K (mX10_fail l hR k1 hc) clX10 k1 ceX10_fail q1143 (fitC e ⟨rfl, rfl, rfl, rfl⟩) rfl rfl rfl dX8_readCondition_105 ?_
  obtain ⟨hz, hf, h⟩ := bz_e h
  obtain rfl := Option.some.inj h
  exact z_zret K hz dX8_readCondition_108
set_option maxRecDepth 100000 in
set_option maxHeartbeats 4000000 in
theorem mX8_readCondition_F {g : Gl} {R : Rf} {T : Mm} {a0 : Nat} {a1 : Nat} {a2 : Nat} {x3 : Int32} (l : Launch) (hR : Ty g R) {e : Nat} {FO FC : RecF} (hFO : RecM l g yX8_readOne cX8_readOne 7 (rmO e) R FO) (hFC : RecM l g yX8_readCondition cX8_readCondition 6 (rmC e) R FC) (k0 : kd g a0 = 8) (k1 : kd g a1 = 10) (k2 : kd g a2 = 3) {r : Int32 × Mm} (h : pX8_readCondition_F FO FC R T a0 a1 a2 x3 = some r) : MI l g yX8_readCondition cX8_readCondition 6 (some .boolean) (rmC e) [.ref (g.2.2.1 a0), .ref (g.2.2.1 a1), .ref (g.2.2.1 a2), .int x3] R T r.1 R r.2 := by
  refine z_metI (own := RX8) (lv := [some (.ref (g.2.2.1 a0)), some (.ref (g.2.2.1 a1)), some (.ref (g.2.2.1 a2)), some (.int x3), none, none]) (by decide +kernel) rfl rfl rfl (fun X K => ?_)
  unfold pX8_readCondition_F at h
  refine z_iconst K 0 dX8_readCondition_0 rfl ?_
  refine z_istore K dX8_readCondition_1 rfl rfl ?_
  refine Zj.mask [true, true, true, true, true, false] ?_
  exact wX8_readCondition_3 K hR hFO hFC k0 k1 k2 (wX8_readCondition_30 K hR hFO hFC k0 k1 k2) (wX8_readCondition_91 K hR hFO hFC k0 k1 k2) (wX8_readCondition_103 K hR hFO hFC k0 k1 k2) FU _ _ h
def noF : RecF := fun _ _ _ _ _ _ => none
def pO : Nat → RecF
  | 0 => noF
  | e + 1 => pX8_readOne_F (pO e) (pX8_readCondition_F (pO e) noF)
def pC (e : Nat) : RecF := pX8_readCondition_F (pO e) noF
theorem noF_m {l : Launch} {g : Gl} {y : MethodName} {cc : ByteArray} {nL : Nat} {rm : Room} {R : Rf} : RecM l g y cc nL rm R noF := by
  intro T a0 a1 a2 x3 r _ _ _ _ h
  cases h
theorem mO (l : Launch) {g : Gl} {R : Rf} : ∀ e : Nat, RecM l g yX8_readOne cX8_readOne 7 (rmO e) R (pO e)
  | 0 => noF_m
  | e + 1 => fun hR k0 k1 k2 h => mX8_readOne_F l hR (mO l e) (fun hR k0 k1 k2 h => mX8_readCondition_F l hR (mO l e) noF_m k0 k1 k2 h) k0 k1 k2 h
theorem mC (l : Launch) {g : Gl} {R : Rf} (e : Nat) : RecM l g yX8_readCondition cX8_readCondition 6 (rmC e) R (pC e) := fun hR k0 k1 k2 h => mX8_readCondition_F l hR (mO l e) noF_m k0 k1 k2 h
/-! GoingOver$Sentence.read (LGoingOver$Tape;LGoingOver$Falls;)V -/
abbrev rmX8_read : Room := { frames := 82, cells := 0, slots := 0, locals := 2355 }
def pX8_read (R : Rf) (T : Mm) (a0 : Nat) (a1 : Nat) (a2 : Nat) : Option (Mm) :=
  lt (wI T a0 0 0) (fun (T1 : Mm) => lt (wI T1 a0 1 0) (fun (T2 : Mm) => bd1 (pX10_begin R T2 a1 200) (fun (T3 : Mm) => bd2 (pC 30 R T3 a0 a1 a2 1) (fun (u4 : Int32) (T4 : Mm) => if u4 = 0 then some T4 else bd2 (pX10_finish R T4 a1) (fun (u5 : Int32) (T5 : Mm) => some T5)))))
set_option maxRecDepth 100000 in
set_option maxHeartbeats 4000000 in
theorem mX8_read {g : Gl} {R : Rf} {T : Mm} {a0 : Nat} {a1 : Nat} {a2 : Nat} (l : Launch) (hR : Ty g R) (k0 : kd g a0 = 8) (k1 : kd g a1 = 10) (k2 : kd g a2 = 3) {r : Mm} (h : pX8_read R T a0 a1 a2 = some r) : MV l g yX8_read cX8_read 3 none rmX8_read [.ref (g.2.2.1 a0), .ref (g.2.2.1 a1), .ref (g.2.2.1 a2)] R T R r := by
  refine z_metV (own := RX8) (lv := [some (.ref (g.2.2.1 a0)), some (.ref (g.2.2.1 a1)), some (.ref (g.2.2.1 a2))]) (by decide +kernel) rfl rfl rfl (fun X K => ?_)
  unfold pX8_read at h
  refine z_aload_n K dX8_read_0 rfl ?_
  refine z_iconst K 0 dX8_read_1 rfl ?_
  refine z_putI K clX8 tyX8_ok nmX8 k0 0 rfl rfl q453 rfl rfl rfl dX8_read_2 ?_
  refine z_aload_n K dX8_read_5 rfl ?_
  refine z_iconst K 0 dX8_read_6 rfl ?_
  refine z_putI K clX8 tyX8_ok nmX8 k0 1 rfl rfl q455 rfl rfl rfl dX8_read_7 ?_
  refine z_aload_n K dX8_read_10 rfl ?_
  refine z_sipush K 200 dX8_read_11 rfl ?_
  obtain ⟨T3, hc, h⟩ := bd1_e h
  refine z_callVV K (mX10_begin l hR k1 hc) clX10 k1 ceX10_begin q1132 ⟨rfl, rfl, rfl, rfl⟩ rfl rfl rfl dX8_read_14 ?_
  refine z_aload_n K dX8_read_17 rfl ?_
  refine z_aload_n K dX8_read_18 rfl ?_
  refine z_aload_n K dX8_read_19 rfl ?_
  refine z_iconst K 1 dX8_read_20 rfl ?_
  obtain ⟨u4, T4, hc, h⟩ := bd2_e h
  refine z_callVI K (mC l 30 hR k0 k1 k2 hc) clX8 k0 ceX8_readCondition q1133 ⟨rfl, rfl, rfl, rfl⟩ rfl rfl rfl dX8_read_21 ?_
  refine z_if_eq K 32 dX8_read_24 (by decide) (fun c => ?_) (fun c => ?_)
  · have h := ite_t h c
    obtain rfl := Option.some.inj h
    exact z_vret K dX8_read_32
  · have h := ite_f h c
    refine z_aload_n K dX8_read_27 rfl ?_
    obtain ⟨u5, T5, hc, h⟩ := bd2_e h
    refine z_callVI K (mX10_finish l hR k1 hc) clX10 k1 ceX10_finish q1160 ⟨rfl, rfl, rfl, rfl⟩ rfl rfl rfl dX8_read_28 ?_
    refine z_pop K dX8_read_31 rfl ?_
    obtain rfl := Option.some.inj h
    exact z_vret K dX8_read_32
/-! GoingOver$Sentence.compares (II)Z -/
abbrev rmX8_compares : Room := { frames := 0, cells := 0, slots := 0, locals := 0 }
def pX8_compares (R : Rf) (T : Mm) (a0 : Nat) (x1 : Int32) (x2 : Int32) : Option (Int32) :=
  ix x2 40 (if (T.1 (R a0 3) x2.toNatClampNeg) = 60 then ix x2 40 (if (T.1 (R a0 4) x2.toNatClampNeg) ≤ x1 then some 0 else some 1) else ix x2 40 (if (T.1 (R a0 3) x2.toNatClampNeg) = 62 then ix x2 40 (if x1 ≤ (T.1 (R a0 4) x2.toNatClampNeg) then some 0 else some 1) else ix x2 40 (if x1 = (T.1 (R a0 4) x2.toNatClampNeg) then some 1 else some 0)))
set_option maxRecDepth 100000 in
set_option maxHeartbeats 4000000 in
theorem mX8_compares {g : Gl} {R : Rf} {T : Mm} {a0 : Nat} {x1 : Int32} {x2 : Int32} (l : Launch) (hR : Ty g R) (k0 : kd g a0 = 8) {r : Int32} (h : pX8_compares R T a0 x1 x2 = some r) : MI l g yX8_compares cX8_compares 3 (some .boolean) rmX8_compares [.ref (g.2.2.1 a0), .int x1, .int x2] R T r R T := by
  refine z_metI (own := RX8) (lv := [some (.ref (g.2.2.1 a0)), some (.int x1), some (.int x2)]) (by decide +kernel) rfl rfl rfl (fun X K => ?_)
  unfold pX8_compares at h
  refine z_aload_n K dX8_compares_0 rfl ?_
  refine z_getR K clX8 k0 3 rfl rfl q458 dX8_compares_1 ?_
  refine z_iload_n K dX8_compares_4 rfl ?_
  obtain ⟨hi, h⟩ := ix_e h
  refine z_iald K (hR.at (k := 3) (t := 20040) k0 rfl rfl) rfl rfl rfl hi dX8_compares_5 ?_
  refine z_bipush K 60 dX8_compares_6 rfl ?_
  refine z_icmp_ne K 29 dX8_compares_8 (by decide) (fun c => ?_) (fun c => ?_)
  · have h := ite_f h c
    refine z_aload_n K dX8_compares_29 rfl ?_
    refine z_getR K clX8 k0 3 rfl rfl q458 dX8_compares_30 ?_
    refine z_iload_n K dX8_compares_33 rfl ?_
    obtain ⟨hi, h⟩ := ix_e h
    refine z_iald K (hR.at (k := 3) (t := 20040) k0 rfl rfl) rfl rfl rfl hi dX8_compares_34 ?_
    refine z_bipush K 62 dX8_compares_35 rfl ?_
    refine z_icmp_ne K 58 dX8_compares_37 (by decide) (fun c => ?_) (fun c => ?_)
    · have h := ite_f h c
      refine z_iload_n K dX8_compares_58 rfl ?_
      refine z_aload_n K dX8_compares_59 rfl ?_
      refine z_getR K clX8 k0 4 rfl rfl q459 dX8_compares_60 ?_
      refine z_iload_n K dX8_compares_63 rfl ?_
      obtain ⟨hi, h⟩ := ix_e h
      refine z_iald K (hR.at (k := 4) (t := 20040) k0 rfl rfl) rfl rfl rfl hi dX8_compares_64 ?_
      refine z_icmp_ne K 72 dX8_compares_65 (by decide) (fun c => ?_) (fun c => ?_)
      · have h := ite_f h c
        refine z_iconst K 0 dX8_compares_72 rfl ?_
        obtain rfl := Option.some.inj h
        exact z_zret (v := 0) K rfl dX8_compares_73
      · have h := ite_t h c
        refine z_iconst K 1 dX8_compares_68 rfl ?_
        refine z_goto K 73 dX8_compares_69 (by decide) ?_
        obtain rfl := Option.some.inj h
        exact z_zret (v := 1) K rfl dX8_compares_73
    · have h := ite_t h c
      refine z_iload_n K dX8_compares_40 rfl ?_
      refine z_aload_n K dX8_compares_41 rfl ?_
      refine z_getR K clX8 k0 4 rfl rfl q459 dX8_compares_42 ?_
      refine z_iload_n K dX8_compares_45 rfl ?_
      obtain ⟨hi, h⟩ := ix_e h
      refine z_iald K (hR.at (k := 4) (t := 20040) k0 rfl rfl) rfl rfl rfl hi dX8_compares_46 ?_
      refine z_icmp_le K 54 dX8_compares_47 (by decide) (fun c => ?_) (fun c => ?_)
      · have h := ite_t h c
        refine z_iconst K 0 dX8_compares_54 rfl ?_
        refine z_goto K 73 dX8_compares_55 (by decide) ?_
        obtain rfl := Option.some.inj h
        exact z_zret (v := 0) K rfl dX8_compares_73
      · have h := ite_f h c
        refine z_iconst K 1 dX8_compares_50 rfl ?_
        refine z_goto K 73 dX8_compares_51 (by decide) ?_
        obtain rfl := Option.some.inj h
        exact z_zret (v := 1) K rfl dX8_compares_73
  · have h := ite_t h c
    refine z_iload_n K dX8_compares_11 rfl ?_
    refine z_aload_n K dX8_compares_12 rfl ?_
    refine z_getR K clX8 k0 4 rfl rfl q459 dX8_compares_13 ?_
    refine z_iload_n K dX8_compares_16 rfl ?_
    obtain ⟨hi, h⟩ := ix_e h
    refine z_iald K (hR.at (k := 4) (t := 20040) k0 rfl rfl) rfl rfl rfl hi dX8_compares_17 ?_
    refine z_icmp_ge K 25 dX8_compares_18 (by decide) (fun c => ?_) (fun c => ?_)
    · have h := ite_t h c
      refine z_iconst K 0 dX8_compares_25 rfl ?_
      refine z_goto K 73 dX8_compares_26 (by decide) ?_
      obtain rfl := Option.some.inj h
      exact z_zret (v := 0) K rfl dX8_compares_73
    · have h := ite_f h c
      refine z_iconst K 1 dX8_compares_21 rfl ?_
      refine z_goto K 73 dX8_compares_22 (by decide) ?_
      obtain rfl := Option.some.inj h
      exact z_zret (v := 1) K rfl dX8_compares_73
/-! GoingOver$Sentence.isSo (LGoingOver$Falls;LGoingOver$Course;LGoingOver$Parts;II)Z -/
abbrev rmX8_isSo : Room := { frames := 3, cells := 0, slots := 0, locals := 73 }
def pX8_isSo (R : Rf) (T : Mm) (a0 : Nat) (a1 : Nat) (a2 : Nat) (a3 : Nat) (x4 : Int32) (x5 : Int32) : Option (Int32 × Mm) :=
  ix x5 40 (if (T.1 (R a0 2) x5.toNatClampNeg) = 0 then some (0, T) else if (T.1 (R a0 2) x5.toNatClampNeg) = 1 then some (0, T) else if (T.1 (R a0 2) x5.toNatClampNeg) = 2 then some (0, T) else if (T.1 (R a0 2) x5.toNatClampNeg) = 3 then some (0, T) else if (T.1 (R a0 2) x5.toNatClampNeg) = 4 then some (0, T) else if (T.1 (R a0 2) x5.toNatClampNeg) = 5 then some (0, T) else if (T.1 (R a0 2) x5.toNatClampNeg) = 6 then some (0, T) else if (T.1 (R a0 2) x5.toNatClampNeg) = 7 then some (0, T) else if (T.1 (R a0 2) x5.toNatClampNeg) = 8 then some (0, T) else if (T.1 (R a0 2) x5.toNatClampNeg) = 9 then some (0, T) else if (T.1 (R a0 2) x5.toNatClampNeg) = 10 then some (0, T) else if (T.1 (R a0 2) x5.toNatClampNeg) = 11 then some (0, T) else if (T.1 (R a0 2) x5.toNatClampNeg) = 12 then some (0, T) else if (T.1 (R a0 2) x5.toNatClampNeg) = 13 then some (0, T) else if (T.1 (R a0 2) x5.toNatClampNeg) = 14 then ix x4 5 (if (T.1 (R a2 4) x4.toNatClampNeg) = 0 then some (1, T) else some (0, T)) else if (T.1 (R a0 2) x5.toNatClampNeg) = 15 then ix x4 5 (if (T.1 (R a2 4) x4.toNatClampNeg) = 1 then some (1, T) else some (0, T)) else if (T.1 (R a0 2) x5.toNatClampNeg) = 16 then ix x4 5 (if (T.1 (R a2 4) x4.toNatClampNeg) = 2 then some (1, T) else some (0, T)) else if (T.1 (R a0 2) x5.toNatClampNeg) = 17 then ix x4 5 (if (T.1 (R a2 4) x4.toNatClampNeg) = 3 then some (1, T) else some (0, T)) else if (T.1 (R a0 2) x5.toNatClampNeg) = 18 then bd2 (pX6_asTheyAre R T a3 a1 a2 x4) (fun (u1 : Int32) (T1 : Mm) => if u1 = 1 then some (1, T1) else some (0, T1)) else if (T.1 (R a0 2) x5.toNatClampNeg) = 19 then bd1 (pX3_itemsOf R T a1 x4) (fun (u2 : Int32) => ix x5 40 (if (((T.1 a2 1) &&& u2) &&& (1 <<< ((T.1 (R a0 4) x5.toNatClampNeg) &&& 31))) = 0 then some (0, T) else some (1, T))) else if (T.1 (R a0 2) x5.toNatClampNeg) = 20 then bd1 (pX1_weight R T a2 a1 x4) (fun (u3 : Int32) => bd1 (pX8_compares R T a0 u3 x5) (fun (u4 : Int32) => bz u4 (some (u4, T)))) else if (T.1 (R a0 2) x5.toNatClampNeg) = 21 then bd2 (pX6_asTheyAre R T a3 a1 a2 x4) (fun (u5 : Int32) (T5 : Mm) => bd1 (pX8_compares R T5 a0 u5 x5) (fun (u6 : Int32) => bz u6 (some (u6, T5)))) else if (T.1 (R a0 2) x5.toNatClampNeg) = 22 then ix x4 5 (bd1 (pX8_compares R T a0 (T.1 (R a1 5) x4.toNatClampNeg) x5) (fun (u7 : Int32) => bz u7 (some (u7, T)))) else if (T.1 (R a0 2) x5.toNatClampNeg) = 23 then bd1 (pX8_compares R T a0 x4 x5) (fun (u8 : Int32) => bz u8 (some (u8, T))) else some (0, T))
set_option maxRecDepth 100000 in
set_option maxHeartbeats 4000000 in
theorem mX8_isSo {g : Gl} {R : Rf} {T : Mm} {a0 : Nat} {a1 : Nat} {a2 : Nat} {a3 : Nat} {x4 : Int32} {x5 : Int32} (l : Launch) (hR : Ty g R) (k0 : kd g a0 = 8) (k1 : kd g a1 = 3) (k2 : kd g a2 = 1) (k3 : kd g a3 = 6) {r : Int32 × Mm} (h : pX8_isSo R T a0 a1 a2 a3 x4 x5 = some r) : MI l g yX8_isSo cX8_isSo 6 (some .boolean) rmX8_isSo [.ref (g.2.2.1 a0), .ref (g.2.2.1 a1), .ref (g.2.2.1 a2), .ref (g.2.2.1 a3), .int x4, .int x5] R T r.1 R r.2 := by
  refine z_metI (own := RX8) (lv := [some (.ref (g.2.2.1 a0)), some (.ref (g.2.2.1 a1)), some (.ref (g.2.2.1 a2)), some (.ref (g.2.2.1 a3)), some (.int x4), some (.int x5)]) (by decide +kernel) rfl rfl rfl (fun X K => ?_)
  unfold pX8_isSo at h
  refine z_aload_n K dX8_isSo_0 rfl ?_
  refine z_getR K clX8 k0 2 rfl rfl q457 dX8_isSo_1 ?_
  refine z_iload K dX8_isSo_4 rfl ?_
  obtain ⟨hi, h⟩ := ix_e h
  refine z_iald K (hR.at (k := 2) (t := 20040) k0 rfl rfl) rfl rfl rfl hi dX8_isSo_6 ?_
  rcases ite_or h with ⟨c0, h⟩ | ⟨c0, h⟩
  · refine z_tlow K 227 0 c0 dX8_isSo_7 (by decide) (by decide) ?_
    refine z_iconst K 0 dX8_isSo_227 rfl ?_
    obtain rfl := Option.some.inj h
    exact z_zret (v := 0) K rfl dX8_isSo_228
  rcases ite_or h with ⟨c1, h⟩ | ⟨c1, h⟩
  · refine z_tlow K 227 1 c1 dX8_isSo_7 (by decide) (by decide) ?_
    refine z_iconst K 0 dX8_isSo_227 rfl ?_
    obtain rfl := Option.some.inj h
    exact z_zret (v := 0) K rfl dX8_isSo_228
  rcases ite_or h with ⟨c2, h⟩ | ⟨c2, h⟩
  · refine z_tlow K 227 2 c2 dX8_isSo_7 (by decide) (by decide) ?_
    refine z_iconst K 0 dX8_isSo_227 rfl ?_
    obtain rfl := Option.some.inj h
    exact z_zret (v := 0) K rfl dX8_isSo_228
  rcases ite_or h with ⟨c3, h⟩ | ⟨c3, h⟩
  · refine z_tlow K 227 3 c3 dX8_isSo_7 (by decide) (by decide) ?_
    refine z_iconst K 0 dX8_isSo_227 rfl ?_
    obtain rfl := Option.some.inj h
    exact z_zret (v := 0) K rfl dX8_isSo_228
  rcases ite_or h with ⟨c4, h⟩ | ⟨c4, h⟩
  · refine z_tlow K 227 4 c4 dX8_isSo_7 (by decide) (by decide) ?_
    refine z_iconst K 0 dX8_isSo_227 rfl ?_
    obtain rfl := Option.some.inj h
    exact z_zret (v := 0) K rfl dX8_isSo_228
  rcases ite_or h with ⟨c5, h⟩ | ⟨c5, h⟩
  · refine z_tlow K 227 5 c5 dX8_isSo_7 (by decide) (by decide) ?_
    refine z_iconst K 0 dX8_isSo_227 rfl ?_
    obtain rfl := Option.some.inj h
    exact z_zret (v := 0) K rfl dX8_isSo_228
  rcases ite_or h with ⟨c6, h⟩ | ⟨c6, h⟩
  · refine z_tlow K 227 6 c6 dX8_isSo_7 (by decide) (by decide) ?_
    refine z_iconst K 0 dX8_isSo_227 rfl ?_
    obtain rfl := Option.some.inj h
    exact z_zret (v := 0) K rfl dX8_isSo_228
  rcases ite_or h with ⟨c7, h⟩ | ⟨c7, h⟩
  · refine z_tlow K 227 7 c7 dX8_isSo_7 (by decide) (by decide) ?_
    refine z_iconst K 0 dX8_isSo_227 rfl ?_
    obtain rfl := Option.some.inj h
    exact z_zret (v := 0) K rfl dX8_isSo_228
  rcases ite_or h with ⟨c8, h⟩ | ⟨c8, h⟩
  · refine z_tlow K 227 8 c8 dX8_isSo_7 (by decide) (by decide) ?_
    refine z_iconst K 0 dX8_isSo_227 rfl ?_
    obtain rfl := Option.some.inj h
    exact z_zret (v := 0) K rfl dX8_isSo_228
  rcases ite_or h with ⟨c9, h⟩ | ⟨c9, h⟩
  · refine z_tlow K 227 9 c9 dX8_isSo_7 (by decide) (by decide) ?_
    refine z_iconst K 0 dX8_isSo_227 rfl ?_
    obtain rfl := Option.some.inj h
    exact z_zret (v := 0) K rfl dX8_isSo_228
  rcases ite_or h with ⟨c10, h⟩ | ⟨c10, h⟩
  · refine z_tlow K 227 10 c10 dX8_isSo_7 (by decide) (by decide) ?_
    refine z_iconst K 0 dX8_isSo_227 rfl ?_
    obtain rfl := Option.some.inj h
    exact z_zret (v := 0) K rfl dX8_isSo_228
  rcases ite_or h with ⟨c11, h⟩ | ⟨c11, h⟩
  · refine z_tlow K 227 11 c11 dX8_isSo_7 (by decide) (by decide) ?_
    refine z_iconst K 0 dX8_isSo_227 rfl ?_
    obtain rfl := Option.some.inj h
    exact z_zret (v := 0) K rfl dX8_isSo_228
  rcases ite_or h with ⟨c12, h⟩ | ⟨c12, h⟩
  · refine z_tlow K 227 12 c12 dX8_isSo_7 (by decide) (by decide) ?_
    refine z_iconst K 0 dX8_isSo_227 rfl ?_
    obtain rfl := Option.some.inj h
    exact z_zret (v := 0) K rfl dX8_isSo_228
  rcases ite_or h with ⟨c13, h⟩ | ⟨c13, h⟩
  · refine z_tlow K 227 13 c13 dX8_isSo_7 (by decide) (by decide) ?_
    refine z_iconst K 0 dX8_isSo_227 rfl ?_
    obtain rfl := Option.some.inj h
    exact z_zret (v := 0) K rfl dX8_isSo_228
  rcases ite_or h with ⟨c14, h⟩ | ⟨c14, h⟩
  · refine z_tin K 60 14 c14 dX8_isSo_7 (by decide) (by decide) rfl (by decide) ?_
    refine z_aload_n K dX8_isSo_60 rfl ?_
    refine z_getR K clX1 k2 4 rfl rfl q348 dX8_isSo_61 ?_
    refine z_iload K dX8_isSo_64 rfl ?_
    obtain ⟨hi, h⟩ := ix_e h
    refine z_iald K (hR.at (k := 4) (t := 20005) k2 rfl rfl) rfl rfl rfl hi dX8_isSo_66 ?_
    refine z_if_ne K 74 dX8_isSo_67 (by decide) (fun c => ?_) (fun c => ?_)
    · have h := ite_f h c
      refine z_iconst K 0 dX8_isSo_74 rfl ?_
      obtain rfl := Option.some.inj h
      exact z_zret (v := 0) K rfl dX8_isSo_75
    · have h := ite_t h c
      refine z_iconst K 1 dX8_isSo_70 rfl ?_
      refine z_goto K 75 dX8_isSo_71 (by decide) ?_
      obtain rfl := Option.some.inj h
      exact z_zret (v := 1) K rfl dX8_isSo_75
  rcases ite_or h with ⟨c15, h⟩ | ⟨c15, h⟩
  · refine z_tin K 76 15 c15 dX8_isSo_7 (by decide) (by decide) rfl (by decide) ?_
    refine z_aload_n K dX8_isSo_76 rfl ?_
    refine z_getR K clX1 k2 4 rfl rfl q348 dX8_isSo_77 ?_
    refine z_iload K dX8_isSo_80 rfl ?_
    obtain ⟨hi, h⟩ := ix_e h
    refine z_iald K (hR.at (k := 4) (t := 20005) k2 rfl rfl) rfl rfl rfl hi dX8_isSo_82 ?_
    refine z_iconst K 1 dX8_isSo_83 rfl ?_
    refine z_icmp_ne K 91 dX8_isSo_84 (by decide) (fun c => ?_) (fun c => ?_)
    · have h := ite_f h c
      refine z_iconst K 0 dX8_isSo_91 rfl ?_
      obtain rfl := Option.some.inj h
      exact z_zret (v := 0) K rfl dX8_isSo_92
    · have h := ite_t h c
      refine z_iconst K 1 dX8_isSo_87 rfl ?_
      refine z_goto K 92 dX8_isSo_88 (by decide) ?_
      obtain rfl := Option.some.inj h
      exact z_zret (v := 1) K rfl dX8_isSo_92
  rcases ite_or h with ⟨c16, h⟩ | ⟨c16, h⟩
  · refine z_tin K 93 16 c16 dX8_isSo_7 (by decide) (by decide) rfl (by decide) ?_
    refine z_aload_n K dX8_isSo_93 rfl ?_
    refine z_getR K clX1 k2 4 rfl rfl q348 dX8_isSo_94 ?_
    refine z_iload K dX8_isSo_97 rfl ?_
    obtain ⟨hi, h⟩ := ix_e h
    refine z_iald K (hR.at (k := 4) (t := 20005) k2 rfl rfl) rfl rfl rfl hi dX8_isSo_99 ?_
    refine z_iconst K 2 dX8_isSo_100 rfl ?_
    refine z_icmp_ne K 108 dX8_isSo_101 (by decide) (fun c => ?_) (fun c => ?_)
    · have h := ite_f h c
      refine z_iconst K 0 dX8_isSo_108 rfl ?_
      obtain rfl := Option.some.inj h
      exact z_zret (v := 0) K rfl dX8_isSo_109
    · have h := ite_t h c
      refine z_iconst K 1 dX8_isSo_104 rfl ?_
      refine z_goto K 109 dX8_isSo_105 (by decide) ?_
      obtain rfl := Option.some.inj h
      exact z_zret (v := 1) K rfl dX8_isSo_109
  rcases ite_or h with ⟨c17, h⟩ | ⟨c17, h⟩
  · refine z_tin K 110 17 c17 dX8_isSo_7 (by decide) (by decide) rfl (by decide) ?_
    refine z_aload_n K dX8_isSo_110 rfl ?_
    refine z_getR K clX1 k2 4 rfl rfl q348 dX8_isSo_111 ?_
    refine z_iload K dX8_isSo_114 rfl ?_
    obtain ⟨hi, h⟩ := ix_e h
    refine z_iald K (hR.at (k := 4) (t := 20005) k2 rfl rfl) rfl rfl rfl hi dX8_isSo_116 ?_
    refine z_iconst K 3 dX8_isSo_117 rfl ?_
    refine z_icmp_ne K 125 dX8_isSo_118 (by decide) (fun c => ?_) (fun c => ?_)
    · have h := ite_f h c
      refine z_iconst K 0 dX8_isSo_125 rfl ?_
      obtain rfl := Option.some.inj h
      exact z_zret (v := 0) K rfl dX8_isSo_126
    · have h := ite_t h c
      refine z_iconst K 1 dX8_isSo_121 rfl ?_
      refine z_goto K 126 dX8_isSo_122 (by decide) ?_
      obtain rfl := Option.some.inj h
      exact z_zret (v := 1) K rfl dX8_isSo_126
  rcases ite_or h with ⟨c18, h⟩ | ⟨c18, h⟩
  · refine z_tin K 127 18 c18 dX8_isSo_7 (by decide) (by decide) rfl (by decide) ?_
    refine z_aload_n K dX8_isSo_127 rfl ?_
    refine z_aload_n K dX8_isSo_128 rfl ?_
    refine z_aload_n K dX8_isSo_129 rfl ?_
    refine z_iload K dX8_isSo_130 rfl ?_
    obtain ⟨u1, T1, hc, h⟩ := bd2_e h
    refine z_callVI K (mX6_asTheyAre l hR k3 k1 k2 hc) clX6 k3 ceX6_asTheyAre q1173 ⟨rfl, rfl, rfl, rfl⟩ rfl rfl rfl dX8_isSo_132 ?_
    refine z_iconst K 1 dX8_isSo_135 rfl ?_
    refine z_icmp_ne K 143 dX8_isSo_136 (by decide) (fun c => ?_) (fun c => ?_)
    · have h := ite_f h c
      refine z_iconst K 0 dX8_isSo_143 rfl ?_
      obtain rfl := Option.some.inj h
      exact z_zret (v := 0) K rfl dX8_isSo_144
    · have h := ite_t h c
      refine z_iconst K 1 dX8_isSo_139 rfl ?_
      refine z_goto K 144 dX8_isSo_140 (by decide) ?_
      obtain rfl := Option.some.inj h
      exact z_zret (v := 1) K rfl dX8_isSo_144
  rcases ite_or h with ⟨c19, h⟩ | ⟨c19, h⟩
  · refine z_tin K 145 19 c19 dX8_isSo_7 (by decide) (by decide) rfl (by decide) ?_
    refine z_aload_n K dX8_isSo_145 rfl ?_
    refine z_getI K clX1 k2 1 rfl rfl q340 dX8_isSo_146 ?_
    refine z_aload_n K dX8_isSo_149 rfl ?_
    refine z_iload K dX8_isSo_150 rfl ?_
    obtain ⟨u2, hc, h⟩ := bd1_e h
    refine z_callVI K (mX3_itemsOf l hR k1 hc) clX3 k1 ceX3_itemsOf q1174 ⟨rfl, rfl, rfl, rfl⟩ rfl rfl rfl dX8_isSo_152 ?_
    refine z_iand K dX8_isSo_155 ?_
    refine z_iconst K 1 dX8_isSo_156 rfl ?_
    refine z_aload_n K dX8_isSo_157 rfl ?_
    refine z_getR K clX8 k0 4 rfl rfl q459 dX8_isSo_158 ?_
    refine z_iload K dX8_isSo_161 rfl ?_
    obtain ⟨hi, h⟩ := ix_e h
    refine z_iald K (hR.at (k := 4) (t := 20040) k0 rfl rfl) rfl rfl rfl hi dX8_isSo_163 ?_
    refine z_ishl K dX8_isSo_164 ?_
    refine z_iand K dX8_isSo_165 ?_
    refine z_if_eq K 173 dX8_isSo_166 (by decide) (fun c => ?_) (fun c => ?_)
    · have h := ite_t h c
      refine z_iconst K 0 dX8_isSo_173 rfl ?_
      obtain rfl := Option.some.inj h
      exact z_zret (v := 0) K rfl dX8_isSo_174
    · have h := ite_f h c
      refine z_iconst K 1 dX8_isSo_169 rfl ?_
      refine z_goto K 174 dX8_isSo_170 (by decide) ?_
      obtain rfl := Option.some.inj h
      exact z_zret (v := 1) K rfl dX8_isSo_174
  rcases ite_or h with ⟨c20, h⟩ | ⟨c20, h⟩
  · refine z_tin K 175 20 c20 dX8_isSo_7 (by decide) (by decide) rfl (by decide) ?_
    refine z_aload_n K dX8_isSo_175 rfl ?_
    refine z_aload_n K dX8_isSo_176 rfl ?_
    refine z_aload_n K dX8_isSo_177 rfl ?_
    refine z_iload K dX8_isSo_178 rfl ?_
    obtain ⟨u3, hc, h⟩ := bd1_e h
    refine z_callVI K (mX1_weight l hR k2 k1 hc) clX1 k2 ceX1_weight q1175 ⟨rfl, rfl, rfl, rfl⟩ rfl rfl rfl dX8_isSo_180 ?_
    refine z_iload K dX8_isSo_183 rfl ?_
    obtain ⟨u4, hc, h⟩ := bd1_e h
    refine z_callVI K (mX8_compares l hR k0 hc) clX8 k0 ceX8_compares q1176 ⟨rfl, rfl, rfl, rfl⟩ rfl rfl rfl dX8_isSo_185 ?_
    obtain ⟨hz, hf, h⟩ := bz_e h
    obtain rfl := Option.some.inj h
    exact z_zret K hz dX8_isSo_188
  rcases ite_or h with ⟨c21, h⟩ | ⟨c21, h⟩
  · refine z_tin K 189 21 c21 dX8_isSo_7 (by decide) (by decide) rfl (by decide) ?_
    refine z_aload_n K dX8_isSo_189 rfl ?_
    refine z_aload_n K dX8_isSo_190 rfl ?_
    refine z_aload_n K dX8_isSo_191 rfl ?_
    refine z_aload_n K dX8_isSo_192 rfl ?_
    refine z_iload K dX8_isSo_193 rfl ?_
    obtain ⟨u5, T5, hc, h⟩ := bd2_e h
    refine z_callVI K (mX6_asTheyAre l hR k3 k1 k2 hc) clX6 k3 ceX6_asTheyAre q1173 ⟨rfl, rfl, rfl, rfl⟩ rfl rfl rfl dX8_isSo_195 ?_
    refine z_iload K dX8_isSo_198 rfl ?_
    obtain ⟨u6, hc, h⟩ := bd1_e h
    refine z_callVI K (mX8_compares l hR k0 hc) clX8 k0 ceX8_compares q1176 ⟨rfl, rfl, rfl, rfl⟩ rfl rfl rfl dX8_isSo_200 ?_
    obtain ⟨hz, hf, h⟩ := bz_e h
    obtain rfl := Option.some.inj h
    exact z_zret K hz dX8_isSo_203
  rcases ite_or h with ⟨c22, h⟩ | ⟨c22, h⟩
  · refine z_tin K 204 22 c22 dX8_isSo_7 (by decide) (by decide) rfl (by decide) ?_
    refine z_aload_n K dX8_isSo_204 rfl ?_
    refine z_aload_n K dX8_isSo_205 rfl ?_
    refine z_getR K clX3 k1 5 rfl rfl q268 dX8_isSo_206 ?_
    refine z_iload K dX8_isSo_209 rfl ?_
    obtain ⟨hi, h⟩ := ix_e h
    refine z_iald K (hR.at (k := 5) (t := 20005) k1 rfl rfl) rfl rfl rfl hi dX8_isSo_211 ?_
    refine z_iload K dX8_isSo_212 rfl ?_
    obtain ⟨u7, hc, h⟩ := bd1_e h
    refine z_callVI K (mX8_compares l hR k0 hc) clX8 k0 ceX8_compares q1176 ⟨rfl, rfl, rfl, rfl⟩ rfl rfl rfl dX8_isSo_214 ?_
    obtain ⟨hz, hf, h⟩ := bz_e h
    obtain rfl := Option.some.inj h
    exact z_zret K hz dX8_isSo_217
  rcases ite_or h with ⟨c23, h⟩ | ⟨c23, h⟩
  · refine z_tin K 218 23 c23 dX8_isSo_7 (by decide) (by decide) rfl (by decide) ?_
    refine z_aload_n K dX8_isSo_218 rfl ?_
    refine z_iload K dX8_isSo_219 rfl ?_
    refine z_iload K dX8_isSo_221 rfl ?_
    obtain ⟨u8, hc, h⟩ := bd1_e h
    refine z_callVI K (mX8_compares l hR k0 hc) clX8 k0 ceX8_compares q1176 ⟨rfl, rfl, rfl, rfl⟩ rfl rfl rfl dX8_isSo_223 ?_
    obtain ⟨hz, hf, h⟩ := bz_e h
    obtain rfl := Option.some.inj h
    exact z_zret K hz dX8_isSo_226
  refine z_tout K 227 24 (lt_p (lt_s (lt_s (lt_s (lt_s (lt_s (lt_s (lt_s (lt_s (lt_s (lt_s (lt_s (lt_s (lt_s (lt_s (lt_s (lt_s (lt_s (lt_s (lt_s (lt_s (lt_s (lt_s (lt_s (lt_s lt_0 c0) c1) c2) c3) c4) c5) c6) c7) c8) c9) c10) c11) c12) c13) c14) c15) c16) c17) c18) c19) c20) c21) c22) c23)) dX8_isSo_7 (by decide) (by decide) (by decide) ?_
  refine z_iconst K 0 dX8_isSo_227 rfl ?_
  obtain rfl := Option.some.inj h
  exact z_zret (v := 0) K rfl dX8_isSo_228
/-! GoingOver$Sentence.holdsOf (LGoingOver$Falls;LGoingOver$Course;LGoingOver$Parts;I)Z -/
abbrev rmX8_holdsOf : Room := { frames := 4, cells := 0, slots := 0, locals := 98 }
def pX8_holdsOf_6 (R : Rf) (a0 : Nat) (a1 : Nat) (a2 : Nat) (a3 : Nat) (x4 : Int32) (e121 : Mm → Int32 → Option (Int32 × Mm)) (r6 : Mm → Int32 → Int32 → Option (Int32 × Mm)) (T : Mm) (x5 : Int32) (x6 : Int32) : Option (Int32 × Mm) :=
  if (T.1 a0 1) ≤ x6 then e121 T x5 else ix x6 40 (if (T.1 (R a0 2) x6.toNatClampNeg) = 13 then lt (x5 ^^^ 1) (fun (v10 : Int32) => lt (x6 + 1) (fun (v11 : Int32) => r6 T v10 v11)) else ix x6 40 (if (T.1 (R a0 2) x6.toNatClampNeg) = 12 then lt ((x5 >>> (1 &&& 31)) &&& (x5 ||| (-2))) (fun (v8 : Int32) => lt (x6 + 1) (fun (v9 : Int32) => r6 T v8 v9)) else ix x6 40 (if (T.1 (R a0 2) x6.toNatClampNeg) = 11 then lt ((x5 >>> (1 &&& 31)) ||| (x5 &&& 1)) (fun (v6 : Int32) => lt (x6 + 1) (fun (v7 : Int32) => r6 T v6 v7)) else bd2 (pX8_isSo R T a0 a1 a2 a3 x4 x6) (fun (u1 : Int32) (T1 : Mm) => if u1 = 0 then lt ((x5 <<< (1 &&& 31)) ||| 0) (fun (v2 : Int32) => lt (x6 + 1) (fun (v3 : Int32) => r6 T1 v2 v3)) else lt ((x5 <<< (1 &&& 31)) ||| 1) (fun (v4 : Int32) => lt (x6 + 1) (fun (v5 : Int32) => r6 T1 v4 v5))))))
def pX8_holdsOf_121 (R : Rf) (a0 : Nat) (a1 : Nat) (a2 : Nat) (a3 : Nat) (x4 : Int32) (T : Mm) (x5 : Int32) : Option (Int32 × Mm) :=
  if (x5 &&& 1) = 0 then some (0, T) else some (1, T)
def pX8_holdsOf (R : Rf) (T : Mm) (a0 : Nat) (a1 : Nat) (a2 : Nat) (a3 : Nat) (x4 : Int32) : Option (Int32 × Mm) :=
  zl3 (pX8_holdsOf_6 R a0 a1 a2 a3 x4 (pX8_holdsOf_121 R a0 a1 a2 a3 x4)) FU T 0 0
set_option maxRecDepth 100000 in
set_option maxHeartbeats 4000000 in
theorem wX8_holdsOf_6 {X : Cx} {g : Gl} {l : Launch} {R : Rf} {a0 : Nat} {a1 : Nat} {a2 : Nat} {a3 : Nat} {x4 : Int32} (K : Ok X g l cX8_holdsOf RX8 7 (some .boolean) rmX8_holdsOf) (hR : Ty g R) (k0 : kd g a0 = 8) (k1 : kd g a1 = 3) (k2 : kd g a2 = 1) (k3 : kd g a3 = 6) {r : Int32 × Mm} {e121 : Mm → Int32 → Option (Int32 × Mm)} (he121 : ∀ (T : Mm) (x5 : Int32), e121 T x5 = some r → Zj X g 7 (QI X g r.1 R r.2) R T [none, none, none, none, none, some (.int x5), none] [] 121) : ∀ (n : Nat) (T : Mm) (x5 : Int32) (x6 : Int32), zl3 (pX8_holdsOf_6 R a0 a1 a2 a3 x4 e121) n T x5 x6 = some r → Zj X g 7 (QI X g r.1 R r.2) R T [some (.ref (g.2.2.1 a0)), some (.ref (g.2.2.1 a1)), some (.ref (g.2.2.1 a2)), some (.ref (g.2.2.1 a3)), some (.int x4), some (.int x5), some (.int x6)] [] 6 := by
  intro n
  induction n with
  | zero =>
    intro T x5 x6 h
    exact absurd h (by simp [zl3])
  | succ n hr6 =>
    intro T x5 x6 h
    rw [zl3_s] at h
    unfold pX8_holdsOf_6 at h
    refine z_iload K dX8_holdsOf_6 rfl ?_
    refine z_aload_n K dX8_holdsOf_8 rfl ?_
    refine z_getI K clX8 k0 1 rfl rfl q455 dX8_holdsOf_9 ?_
    refine z_icmp_ge K 121 dX8_holdsOf_12 (by decide) (fun c => ?_) (fun c => ?_)
    · have h := ite_t h c
      refine Zj.mask [false, false, false, false, false, true, false] ?_
      exact he121 _ _ h
    · have h := ite_f h c
      refine z_aload_n K dX8_holdsOf_15 rfl ?_
      refine z_getR K clX8 k0 2 rfl rfl q457 dX8_holdsOf_16 ?_
      refine z_iload K dX8_holdsOf_19 rfl ?_
      obtain ⟨hi, h⟩ := ix_e h
      refine z_iald K (hR.at (k := 2) (t := 20040) k0 rfl rfl) rfl rfl rfl hi dX8_holdsOf_21 ?_
      refine z_bipush K 13 dX8_holdsOf_22 rfl ?_
      refine z_icmp_ne K 36 dX8_holdsOf_24 (by decide) (fun c => ?_) (fun c => ?_)
      · have h := ite_f h c
        refine z_aload_n K dX8_holdsOf_36 rfl ?_
        refine z_getR K clX8 k0 2 rfl rfl q457 dX8_holdsOf_37 ?_
        refine z_iload K dX8_holdsOf_40 rfl ?_
        obtain ⟨hi, h⟩ := ix_e h
        refine z_iald K (hR.at (k := 2) (t := 20040) k0 rfl rfl) rfl rfl rfl hi dX8_holdsOf_42 ?_
        refine z_bipush K 12 dX8_holdsOf_43 rfl ?_
        refine z_icmp_ne K 63 dX8_holdsOf_45 (by decide) (fun c => ?_) (fun c => ?_)
        · have h := ite_f h c
          refine z_aload_n K dX8_holdsOf_63 rfl ?_
          refine z_getR K clX8 k0 2 rfl rfl q457 dX8_holdsOf_64 ?_
          refine z_iload K dX8_holdsOf_67 rfl ?_
          obtain ⟨hi, h⟩ := ix_e h
          refine z_iald K (hR.at (k := 2) (t := 20040) k0 rfl rfl) rfl rfl rfl hi dX8_holdsOf_69 ?_
          refine z_bipush K 11 dX8_holdsOf_70 rfl ?_
          refine z_icmp_ne K 89 dX8_holdsOf_72 (by decide) (fun c => ?_) (fun c => ?_)
          · have h := ite_f h c
            refine z_iload K dX8_holdsOf_89 rfl ?_
            refine z_iconst K 1 dX8_holdsOf_91 rfl ?_
            refine z_ishl K dX8_holdsOf_92 ?_
            refine z_aload_n K dX8_holdsOf_93 rfl ?_
            refine z_aload_n K dX8_holdsOf_94 rfl ?_
            refine z_aload_n K dX8_holdsOf_95 rfl ?_
            refine z_aload_n K dX8_holdsOf_96 rfl ?_
            refine z_iload K dX8_holdsOf_97 rfl ?_
            refine z_iload K dX8_holdsOf_99 rfl ?_
            obtain ⟨u1, T1, hc, h⟩ := bd2_e h
            refine z_callVI K (mX8_isSo l hR k0 k1 k2 k3 hc) clX8 k0 ceX8_isSo q1169 ⟨rfl, rfl, rfl, rfl⟩ rfl rfl rfl dX8_holdsOf_101 ?_
            refine z_if_eq K 111 dX8_holdsOf_104 (by decide) (fun c => ?_) (fun c => ?_)
            · have h := ite_t h c
              refine z_iconst K 0 dX8_holdsOf_111 rfl ?_
              refine z_ior K dX8_holdsOf_112 ?_
              refine z_istore K dX8_holdsOf_113 rfl rfl ?_
              refine z_iinc K 1 dX8_holdsOf_115 rfl rfl rfl rfl ?_
              refine z_goto K 6 dX8_holdsOf_118 (by decide) ?_
              refine Zj.mask [true, true, true, true, true, true, true] ?_
              exact hr6 _ _ _ h
            · have h := ite_f h c
              refine z_iconst K 1 dX8_holdsOf_107 rfl ?_
              refine z_goto K 112 dX8_holdsOf_108 (by decide) ?_
              refine z_ior K dX8_holdsOf_112 ?_
              refine z_istore K dX8_holdsOf_113 rfl rfl ?_
              refine z_iinc K 1 dX8_holdsOf_115 rfl rfl rfl rfl ?_
              refine z_goto K 6 dX8_holdsOf_118 (by decide) ?_
              refine Zj.mask [true, true, true, true, true, true, true] ?_
              exact hr6 _ _ _ h
          · have h := ite_t h c
            refine z_iload K dX8_holdsOf_75 rfl ?_
            refine z_iconst K 1 dX8_holdsOf_77 rfl ?_
            refine z_ishr K dX8_holdsOf_78 ?_
            refine z_iload K dX8_holdsOf_79 rfl ?_
            refine z_iconst K 1 dX8_holdsOf_81 rfl ?_
            refine z_iand K dX8_holdsOf_82 ?_
            refine z_ior K dX8_holdsOf_83 ?_
            refine z_istore K dX8_holdsOf_84 rfl rfl ?_
            refine z_goto K 115 dX8_holdsOf_86 (by decide) ?_
            refine z_iinc K 1 dX8_holdsOf_115 rfl rfl rfl rfl ?_
            refine z_goto K 6 dX8_holdsOf_118 (by decide) ?_
            refine Zj.mask [true, true, true, true, true, true, true] ?_
            exact hr6 _ _ _ h
        · have h := ite_t h c
          refine z_iload K dX8_holdsOf_48 rfl ?_
          refine z_iconst K 1 dX8_holdsOf_50 rfl ?_
          refine z_ishr K dX8_holdsOf_51 ?_
          refine z_iload K dX8_holdsOf_52 rfl ?_
          refine z_bipush K (-2) dX8_holdsOf_54 rfl ?_
          refine z_ior K dX8_holdsOf_56 ?_
          refine z_iand K dX8_holdsOf_57 ?_
          refine z_istore K dX8_holdsOf_58 rfl rfl ?_
          refine z_goto K 115 dX8_holdsOf_60 (by decide) ?_
          refine z_iinc K 1 dX8_holdsOf_115 rfl rfl rfl rfl ?_
          refine z_goto K 6 dX8_holdsOf_118 (by decide) ?_
          refine Zj.mask [true, true, true, true, true, true, true] ?_
          exact hr6 _ _ _ h
      · have h := ite_t h c
        refine z_iload K dX8_holdsOf_27 rfl ?_
        refine z_iconst K 1 dX8_holdsOf_29 rfl ?_
        refine z_ixor K dX8_holdsOf_30 ?_
        refine z_istore K dX8_holdsOf_31 rfl rfl ?_
        refine z_goto K 115 dX8_holdsOf_33 (by decide) ?_
        refine z_iinc K 1 dX8_holdsOf_115 rfl rfl rfl rfl ?_
        refine z_goto K 6 dX8_holdsOf_118 (by decide) ?_
        refine Zj.mask [true, true, true, true, true, true, true] ?_
        exact hr6 _ _ _ h
set_option maxRecDepth 100000 in
set_option maxHeartbeats 4000000 in
theorem wX8_holdsOf_121 {X : Cx} {g : Gl} {l : Launch} {R : Rf} {a0 : Nat} {a1 : Nat} {a2 : Nat} {a3 : Nat} {x4 : Int32} (K : Ok X g l cX8_holdsOf RX8 7 (some .boolean) rmX8_holdsOf) (hR : Ty g R) (k0 : kd g a0 = 8) (k1 : kd g a1 = 3) (k2 : kd g a2 = 1) (k3 : kd g a3 = 6) {r : Int32 × Mm} (T : Mm) (x5 : Int32) (h : pX8_holdsOf_121 R a0 a1 a2 a3 x4 T x5 = some r) : Zj X g 7 (QI X g r.1 R r.2) R T [none, none, none, none, none, some (.int x5), none] [] 121 := by
  unfold pX8_holdsOf_121 at h
  refine z_iload K dX8_holdsOf_121 rfl ?_
  refine z_iconst K 1 dX8_holdsOf_123 rfl ?_
  refine z_iand K dX8_holdsOf_124 ?_
  refine z_if_eq K 132 dX8_holdsOf_125 (by decide) (fun c => ?_) (fun c => ?_)
  · have h := ite_t h c
    refine z_iconst K 0 dX8_holdsOf_132 rfl ?_
    obtain rfl := Option.some.inj h
    exact z_zret (v := 0) K rfl dX8_holdsOf_133
  · have h := ite_f h c
    refine z_iconst K 1 dX8_holdsOf_128 rfl ?_
    refine z_goto K 133 dX8_holdsOf_129 (by decide) ?_
    obtain rfl := Option.some.inj h
    exact z_zret (v := 1) K rfl dX8_holdsOf_133
set_option maxRecDepth 100000 in
set_option maxHeartbeats 4000000 in
theorem mX8_holdsOf {g : Gl} {R : Rf} {T : Mm} {a0 : Nat} {a1 : Nat} {a2 : Nat} {a3 : Nat} {x4 : Int32} (l : Launch) (hR : Ty g R) (k0 : kd g a0 = 8) (k1 : kd g a1 = 3) (k2 : kd g a2 = 1) (k3 : kd g a3 = 6) {r : Int32 × Mm} (h : pX8_holdsOf R T a0 a1 a2 a3 x4 = some r) : MI l g yX8_holdsOf cX8_holdsOf 7 (some .boolean) rmX8_holdsOf [.ref (g.2.2.1 a0), .ref (g.2.2.1 a1), .ref (g.2.2.1 a2), .ref (g.2.2.1 a3), .int x4] R T r.1 R r.2 := by
  refine z_metI (own := RX8) (lv := [some (.ref (g.2.2.1 a0)), some (.ref (g.2.2.1 a1)), some (.ref (g.2.2.1 a2)), some (.ref (g.2.2.1 a3)), some (.int x4), none, none]) (by decide +kernel) rfl rfl rfl (fun X K => ?_)
  unfold pX8_holdsOf at h
  refine z_iconst K 0 dX8_holdsOf_0 rfl ?_
  refine z_istore K dX8_holdsOf_1 rfl rfl ?_
  refine z_iconst K 0 dX8_holdsOf_3 rfl ?_
  refine z_istore K dX8_holdsOf_4 rfl rfl ?_
  refine Zj.mask [true, true, true, true, true, true, true] ?_
  exact wX8_holdsOf_6 K hR k0 k1 k2 k3 (wX8_holdsOf_121 K hR k0 k1 k2 k3) FU _ _ _ h
/-! GoingOver$Tag.put (I)V -/
abbrev rmX9_put_ : Room := { frames := 0, cells := 0, slots := 0, locals := 0 }
def pX9_put_ (R : Rf) (T : Mm) (a0 : Nat) (x1 : Int32) : Option (Mm) :=
  if 16 ≤ (T.1 a0 1) then some T else ix (T.1 a0 1) 16 (lt (wI T (R a0 0) (T.1 a0 1).toNatClampNeg x1) (fun (T1 : Mm) => lt (wI T1 a0 1 ((T1.1 a0 1) + 1)) (fun (T2 : Mm) => some T2)))
set_option maxRecDepth 100000 in
set_option maxHeartbeats 4000000 in
theorem mX9_put_ {g : Gl} {R : Rf} {T : Mm} {a0 : Nat} {x1 : Int32} (l : Launch) (hR : Ty g R) (k0 : kd g a0 = 9) {r : Mm} (h : pX9_put_ R T a0 x1 = some r) : MV l g yX9_put_ cX9_put_ 2 none rmX9_put_ [.ref (g.2.2.1 a0), .int x1] R T R r := by
  refine z_metV (own := RX9) (lv := [some (.ref (g.2.2.1 a0)), some (.int x1)]) (by decide +kernel) rfl rfl rfl (fun X K => ?_)
  unfold pX9_put_ at h
  refine z_aload_n K dX9_put__0 rfl ?_
  refine z_getI K clX9 k0 1 rfl rfl q440 dX9_put__1 ?_
  refine z_bipush K 16 dX9_put__4 rfl ?_
  refine z_icmp_ge K 29 dX9_put__6 (by decide) (fun c => ?_) (fun c => ?_)
  · have h := ite_t h c
    obtain rfl := Option.some.inj h
    exact z_vret K dX9_put__29
  · have h := ite_f h c
    refine z_aload_n K dX9_put__9 rfl ?_
    refine z_getR K clX9 k0 0 rfl rfl q438 dX9_put__10 ?_
    refine z_aload_n K dX9_put__13 rfl ?_
    refine z_getI K clX9 k0 1 rfl rfl q440 dX9_put__14 ?_
    refine z_iload_n K dX9_put__17 rfl ?_
    obtain ⟨hi, h⟩ := ix_e h
    refine z_iast K (hR.at (k := 0) (t := 20016) k0 rfl rfl) rfl rfl rfl hi dX9_put__18 ?_
    refine z_aload_n K dX9_put__19 rfl ?_
    refine z_dup K dX9_put__20 rfl ?_
    refine z_getI K clX9 k0 1 rfl rfl q440 dX9_put__21 ?_
    refine z_iconst K 1 dX9_put__24 rfl ?_
    refine z_iadd K dX9_put__25 ?_
    refine z_putI K clX9 tyX9_ok nmX9 k0 1 rfl rfl q440 rfl rfl rfl dX9_put__26 ?_
    obtain rfl := Option.some.inj h
    exact z_vret K dX9_put__29
/-! GoingOver$Tape.put (I)V -/
abbrev rmX10_put : Room := { frames := 0, cells := 0, slots := 0, locals := 0 }
def pX10_put_3 (R : Rf) (a0 : Nat) (x1 : Int32) (e49 : Mm → Option (Mm)) (r3 : Mm → Int32 → Option (Mm)) (T : Mm) (x2 : Int32) : Option (Mm) :=
  if x2 < 0 then e49 T else if 940 ≤ (T.1 a0 1) then e49 T else ix (T.1 a0 1) 940 (lt (wI T (R a0 0) (T.1 a0 1).toNatClampNeg ((us x1 x2) &&& 255)) (fun (T1 : Mm) => lt (wI T1 a0 1 ((T1.1 a0 1) + 1)) (fun (T2 : Mm) => lt (x2 + (-8)) (fun (v3 : Int32) => r3 T2 v3))))
def pX10_put_49 (R : Rf) (a0 : Nat) (x1 : Int32) (T : Mm) : Option (Mm) :=
  some T
def pX10_put (R : Rf) (T : Mm) (a0 : Nat) (x1 : Int32) : Option (Mm) :=
  zl2 (pX10_put_3 R a0 x1 (pX10_put_49 R a0 x1)) FU T 24
set_option maxRecDepth 100000 in
set_option maxHeartbeats 4000000 in
theorem wX10_put_3 {X : Cx} {g : Gl} {l : Launch} {R : Rf} {a0 : Nat} {x1 : Int32} (K : Ok X g l cX10_put RX10 3 none rmX10_put) (hR : Ty g R) (k0 : kd g a0 = 10) {r : Mm} {e49 : Mm → Option (Mm)} (he49 : ∀ (T : Mm), e49 T = some r → Zj X g 3 (QV X g R r) R T [none, none, none] [] 49) : ∀ (n : Nat) (T : Mm) (x2 : Int32), zl2 (pX10_put_3 R a0 x1 e49) n T x2 = some r → Zj X g 3 (QV X g R r) R T [some (.ref (g.2.2.1 a0)), some (.int x1), some (.int x2)] [] 3 := by
  intro n
  induction n with
  | zero =>
    intro T x2 h
    exact absurd h (by simp [zl2])
  | succ n hr3 =>
    intro T x2 h
    rw [zl2_s] at h
    unfold pX10_put_3 at h
    refine z_iload_n K dX10_put_3 rfl ?_
    refine z_if_lt K 49 dX10_put_4 (by decide) (fun c => ?_) (fun c => ?_)
    · have h := ite_t h c
      refine Zj.mask [false, false, false] ?_
      exact he49 _ h
    · have h := ite_f h c
      refine z_aload_n K dX10_put_7 rfl ?_
      refine z_getI K clX10 k0 1 rfl rfl q198 dX10_put_8 ?_
      refine z_sipush K 940 dX10_put_11 rfl ?_
      refine z_icmp_ge K 49 dX10_put_14 (by decide) (fun c => ?_) (fun c => ?_)
      · have h := ite_t h c
        refine Zj.mask [false, false, false] ?_
        exact he49 _ h
      · have h := ite_f h c
        refine z_aload_n K dX10_put_17 rfl ?_
        refine z_getR K clX10 k0 0 rfl rfl q195 dX10_put_18 ?_
        refine z_aload_n K dX10_put_21 rfl ?_
        refine z_getI K clX10 k0 1 rfl rfl q198 dX10_put_22 ?_
        refine z_iload_n K dX10_put_25 rfl ?_
        refine z_iload_n K dX10_put_26 rfl ?_
        refine z_iushr K dX10_put_27 ?_
        refine z_sipush K 255 dX10_put_28 rfl ?_
        refine z_iand K dX10_put_31 ?_
        obtain ⟨hi, h⟩ := ix_e h
        refine z_iast K (hR.at (k := 0) (t := 20940) k0 rfl rfl) rfl rfl rfl hi dX10_put_32 ?_
        refine z_aload_n K dX10_put_33 rfl ?_
        refine z_dup K dX10_put_34 rfl ?_
        refine z_getI K clX10 k0 1 rfl rfl q198 dX10_put_35 ?_
        refine z_iconst K 1 dX10_put_38 rfl ?_
        refine z_iadd K dX10_put_39 ?_
        refine z_putI K clX10 tyX10_ok nmX10 k0 1 rfl rfl q198 rfl rfl rfl dX10_put_40 ?_
        refine z_iinc K (-8) dX10_put_43 rfl rfl rfl rfl ?_
        refine z_goto K 3 dX10_put_46 (by decide) ?_
        refine Zj.mask [true, true, true] ?_
        exact hr3 _ _ h
set_option maxRecDepth 100000 in
set_option maxHeartbeats 4000000 in
theorem wX10_put_49 {X : Cx} {g : Gl} {l : Launch} {R : Rf} {a0 : Nat} {x1 : Int32} (K : Ok X g l cX10_put RX10 3 none rmX10_put) (hR : Ty g R) (k0 : kd g a0 = 10) {r : Mm} (T : Mm) (h : pX10_put_49 R a0 x1 T = some r) : Zj X g 3 (QV X g R r) R T [none, none, none] [] 49 := by
  unfold pX10_put_49 at h
  obtain rfl := Option.some.inj h
  exact z_vret K dX10_put_49
set_option maxRecDepth 100000 in
set_option maxHeartbeats 4000000 in
theorem mX10_put {g : Gl} {R : Rf} {T : Mm} {a0 : Nat} {x1 : Int32} (l : Launch) (hR : Ty g R) (k0 : kd g a0 = 10) {r : Mm} (h : pX10_put R T a0 x1 = some r) : MV l g yX10_put cX10_put 3 none rmX10_put [.ref (g.2.2.1 a0), .int x1] R T R r := by
  refine z_metV (own := RX10) (lv := [some (.ref (g.2.2.1 a0)), some (.int x1), none]) (by decide +kernel) rfl rfl rfl (fun X K => ?_)
  unfold pX10_put at h
  refine z_bipush K 24 dX10_put_0 rfl ?_
  refine z_istore_n K dX10_put_2 rfl rfl ?_
  refine Zj.mask [true, true, true] ?_
  exact wX10_put_3 K hR k0 (wX10_put_49 K hR k0) FU _ _ h
/-! GoingOver.feed (IIIII)I -/
abbrev rmX11_feed : Room := { frames := 1, cells := 0, slots := 0, locals := 22 }
def pX11_feed (R : Rf) (T : Mm) (a0 : Nat) (x1 : Int32) (x2 : Int32) (x3 : Int32) (x4 : Int32) (x5 : Int32) : Option (Int32 × Mm) :=
  if ((T.1 (R a0 0) 1) + 20) ≤ 940 then bd1 (pX10_put R T (R a0 0) x1) (fun (T1 : Mm) => bd1 (pX10_put R T1 (R a0 0) x2) (fun (T2 : Mm) => bd1 (pX10_put R T2 (R a0 0) x3) (fun (T3 : Mm) => bd1 (pX10_put R T3 (R a0 0) x4) (fun (T4 : Mm) => bd1 (pX10_put R T4 (R a0 0) x5) (fun (T5 : Mm) => some (T5.1 (R a0 0) 1, T5)))))) else some ((-1), T)
set_option maxRecDepth 100000 in
set_option maxHeartbeats 4000000 in
theorem mX11_feed {g : Gl} {R : Rf} {T : Mm} {a0 : Nat} {x1 : Int32} {x2 : Int32} {x3 : Int32} {x4 : Int32} {x5 : Int32} (l : Launch) (hR : Ty g R) (k0 : kd g a0 = 11) {r : Int32 × Mm} (h : pX11_feed R T a0 x1 x2 x3 x4 x5 = some r) : MI l g yX11_feed cX11_feed 6 (some .int) rmX11_feed [.ref (g.2.2.1 a0), .int x1, .int x2, .int x3, .int x4, .int x5] R T r.1 R r.2 := by
  refine z_metI (own := RX11) (lv := [some (.ref (g.2.2.1 a0)), some (.int x1), some (.int x2), some (.int x3), some (.int x4), some (.int x5)]) (by decide +kernel) rfl rfl rfl (fun X K => ?_)
  unfold pX11_feed at h
  refine z_aload_n K dX11_feed_0 rfl ?_
  refine z_getR K clX11 k0 0 rfl rfl q500 dX11_feed_1 ?_
  refine z_getI K clX10 (hR.at (k := 0) (t := 10) k0 rfl rfl) 1 rfl rfl q197 dX11_feed_4 ?_
  refine z_bipush K 20 dX11_feed_7 rfl ?_
  refine z_iadd K dX11_feed_9 ?_
  refine z_sipush K 940 dX11_feed_10 rfl ?_
  refine z_icmp_le K 18 dX11_feed_13 (by decide) (fun c => ?_) (fun c => ?_)
  · have h := ite_t h c
    refine z_aload_n K dX11_feed_18 rfl ?_
    refine z_getR K clX11 k0 0 rfl rfl q500 dX11_feed_19 ?_
    refine z_iload_n K dX11_feed_22 rfl ?_
    obtain ⟨T1, hc, h⟩ := bd1_e h
    refine z_callVV K (mX10_put l hR (hR.at (k := 0) (t := 10) k0 rfl rfl) hc) clX10 (hR.at (k := 0) (t := 10) k0 rfl rfl) ceX10_put q565 ⟨rfl, rfl, rfl, rfl⟩ rfl rfl rfl dX11_feed_23 ?_
    refine z_aload_n K dX11_feed_26 rfl ?_
    refine z_getR K clX11 k0 0 rfl rfl q500 dX11_feed_27 ?_
    refine z_iload_n K dX11_feed_30 rfl ?_
    obtain ⟨T2, hc, h⟩ := bd1_e h
    refine z_callVV K (mX10_put l hR (hR.at (k := 0) (t := 10) k0 rfl rfl) hc) clX10 (hR.at (k := 0) (t := 10) k0 rfl rfl) ceX10_put q565 ⟨rfl, rfl, rfl, rfl⟩ rfl rfl rfl dX11_feed_31 ?_
    refine z_aload_n K dX11_feed_34 rfl ?_
    refine z_getR K clX11 k0 0 rfl rfl q500 dX11_feed_35 ?_
    refine z_iload_n K dX11_feed_38 rfl ?_
    obtain ⟨T3, hc, h⟩ := bd1_e h
    refine z_callVV K (mX10_put l hR (hR.at (k := 0) (t := 10) k0 rfl rfl) hc) clX10 (hR.at (k := 0) (t := 10) k0 rfl rfl) ceX10_put q565 ⟨rfl, rfl, rfl, rfl⟩ rfl rfl rfl dX11_feed_39 ?_
    refine z_aload_n K dX11_feed_42 rfl ?_
    refine z_getR K clX11 k0 0 rfl rfl q500 dX11_feed_43 ?_
    refine z_iload K dX11_feed_46 rfl ?_
    obtain ⟨T4, hc, h⟩ := bd1_e h
    refine z_callVV K (mX10_put l hR (hR.at (k := 0) (t := 10) k0 rfl rfl) hc) clX10 (hR.at (k := 0) (t := 10) k0 rfl rfl) ceX10_put q565 ⟨rfl, rfl, rfl, rfl⟩ rfl rfl rfl dX11_feed_48 ?_
    refine z_aload_n K dX11_feed_51 rfl ?_
    refine z_getR K clX11 k0 0 rfl rfl q500 dX11_feed_52 ?_
    refine z_iload K dX11_feed_55 rfl ?_
    obtain ⟨T5, hc, h⟩ := bd1_e h
    refine z_callVV K (mX10_put l hR (hR.at (k := 0) (t := 10) k0 rfl rfl) hc) clX10 (hR.at (k := 0) (t := 10) k0 rfl rfl) ceX10_put q565 ⟨rfl, rfl, rfl, rfl⟩ rfl rfl rfl dX11_feed_57 ?_
    refine z_aload_n K dX11_feed_60 rfl ?_
    refine z_getR K clX11 k0 0 rfl rfl q500 dX11_feed_61 ?_
    refine z_getI K clX10 (hR.at (k := 0) (t := 10) k0 rfl rfl) 1 rfl rfl q197 dX11_feed_64 ?_
    obtain rfl := Option.some.inj h
    exact z_iret K dX11_feed_67
  · have h := ite_f h c
    refine z_iconst K (-1) dX11_feed_16 rfl ?_
    obtain rfl := Option.some.inj h
    exact z_iret K dX11_feed_17
/-! GoingOver.end (I)Z -/
abbrev rmX11_end : Room := { frames := 0, cells := 0, slots := 0, locals := 0 }
def pX11_end (R : Rf) (T : Mm) (a0 : Nat) (x1 : Int32) : Option (Int32 × Mm) :=
  if x1 < 0 then some (0, T) else if x1 ≤ (T.1 (R a0 0) 1) then lt (wI T (R a0 0) 1 x1) (fun (T1 : Mm) => some (1, T1)) else some (0, T)
set_option maxRecDepth 100000 in
set_option maxHeartbeats 4000000 in
theorem mX11_end {g : Gl} {R : Rf} {T : Mm} {a0 : Nat} {x1 : Int32} (l : Launch) (hR : Ty g R) (k0 : kd g a0 = 11) {r : Int32 × Mm} (h : pX11_end R T a0 x1 = some r) : MI l g yX11_end cX11_end 2 (some .boolean) rmX11_end [.ref (g.2.2.1 a0), .int x1] R T r.1 R r.2 := by
  refine z_metI (own := RX11) (lv := [some (.ref (g.2.2.1 a0)), some (.int x1)]) (by decide +kernel) rfl rfl rfl (fun X K => ?_)
  unfold pX11_end at h
  refine z_iload_n K dX11_end_0 rfl ?_
  refine z_if_lt K 15 dX11_end_1 (by decide) (fun c => ?_) (fun c => ?_)
  · have h := ite_t h c
    refine z_iconst K 0 dX11_end_15 rfl ?_
    obtain rfl := Option.some.inj h
    exact z_zret (v := 0) K rfl dX11_end_16
  · have h := ite_f h c
    refine z_iload_n K dX11_end_4 rfl ?_
    refine z_aload_n K dX11_end_5 rfl ?_
    refine z_getR K clX11 k0 0 rfl rfl q500 dX11_end_6 ?_
    refine z_getI K clX10 (hR.at (k := 0) (t := 10) k0 rfl rfl) 1 rfl rfl q197 dX11_end_9 ?_
    refine z_icmp_le K 17 dX11_end_12 (by decide) (fun c => ?_) (fun c => ?_)
    · have h := ite_t h c
      refine z_aload_n K dX11_end_17 rfl ?_
      refine z_getR K clX11 k0 0 rfl rfl q500 dX11_end_18 ?_
      refine z_iload_n K dX11_end_21 rfl ?_
      refine z_putI K clX10 tyX10_ok nmX10 (hR.at (k := 0) (t := 10) k0 rfl rfl) 1 rfl rfl q197 rfl rfl rfl dX11_end_22 ?_
      refine z_iconst K 1 dX11_end_25 rfl ?_
      obtain rfl := Option.some.inj h
      exact z_zret (v := 1) K rfl dX11_end_26
    · have h := ite_f h c
      refine z_iconst K 0 dX11_end_15 rfl ?_
      obtain rfl := Option.some.inj h
      exact z_zret (v := 0) K rfl dX11_end_16
/-! GoingOver.falls ()I -/
abbrev rmX11_falls : Room := { frames := 6, cells := 0, slots := 0, locals := 129 }
def pX11_falls (R : Rf) (T : Mm) (a0 : Nat) : Option (Int32 × Mm × Rf) :=
  bd2 (pX3_read R T (R a0 12) (R a0 0)) (fun (u1 : Int32) (T1 : Mm) => lt (wI T1 a0 15 (T1.1 (R a0 0) 2)) (fun (T2 : Mm) => lt (wI T2 (R a0 0) 1 0) (fun (T3 : Mm) => if (T3.1 a0 15) = 0 then lt (up2 R a0 11 (R a0 12)) (fun (R4 : Rf) => lt (up2 R4 a0 12 (R a0 11)) (fun (R5 : Rf) => bd1 (pX1_begin R5 T3 (R5 a0 1) (R5 a0 11)) (fun (T6 : Mm) => lt (wI T6 (R5 a0 13) 1 0) (fun (T7 : Mm) => lt (wI T7 (R5 a0 3) 0 0) (fun (T8 : Mm) => some (u1, T8, R5)))))) else some ((-1) - (T3.1 (R a0 0) 3), T3, R))))
set_option maxRecDepth 100000 in
set_option maxHeartbeats 4000000 in
theorem mX11_falls {g : Gl} {R : Rf} {T : Mm} {a0 : Nat} (l : Launch) (hR : Ty g R) (k0 : kd g a0 = 11) {r : Int32 × Mm × Rf} (h : pX11_falls R T a0 = some r) : MI l g yX11_falls cX11_falls 3 (some .int) rmX11_falls [.ref (g.2.2.1 a0)] R T r.1 r.2.2 r.2.1 := by
  refine z_metI (own := RX11) (lv := [some (.ref (g.2.2.1 a0)), none, none]) (by decide +kernel) rfl rfl rfl (fun X K => ?_)
  unfold pX11_falls at h
  refine z_aload_n K dX11_falls_0 rfl ?_
  refine z_getR K clX11 k0 12 rfl rfl q512 dX11_falls_1 ?_
  refine z_aload_n K dX11_falls_4 rfl ?_
  refine z_getR K clX11 k0 0 rfl rfl q500 dX11_falls_5 ?_
  obtain ⟨u1, T1, hc, h⟩ := bd2_e h
  refine z_callVI K (mX3_read l hR (hR.at (k := 12) (t := 3) k0 rfl rfl) (hR.at (k := 0) (t := 10) k0 rfl rfl) hc) clX3 (hR.at (k := 12) (t := 3) k0 rfl rfl) ceX3_read q577 ⟨rfl, rfl, rfl, rfl⟩ rfl rfl rfl dX11_falls_8 ?_
  refine z_istore_n K dX11_falls_11 rfl rfl ?_
  refine z_aload_n K dX11_falls_12 rfl ?_
  refine z_aload_n K dX11_falls_13 rfl ?_
  refine z_getR K clX11 k0 0 rfl rfl q500 dX11_falls_14 ?_
  refine z_getI K clX10 (hR.at (k := 0) (t := 10) k0 rfl rfl) 2 rfl rfl q199 dX11_falls_17 ?_
  refine z_putI K clX11 tyX11_ok nmX11 k0 15 rfl rfl q515 rfl rfl rfl dX11_falls_20 ?_
  refine z_aload_n K dX11_falls_23 rfl ?_
  refine z_getR K clX11 k0 0 rfl rfl q500 dX11_falls_24 ?_
  refine z_iconst K 0 dX11_falls_27 rfl ?_
  refine z_putI K clX10 tyX10_ok nmX10 (hR.at (k := 0) (t := 10) k0 rfl rfl) 1 rfl rfl q197 rfl rfl rfl dX11_falls_28 ?_
  refine z_aload_n K dX11_falls_31 rfl ?_
  refine z_getI K clX11 k0 15 rfl rfl q515 dX11_falls_32 ?_
  refine z_if_eq K 48 dX11_falls_35 (by decide) (fun c => ?_) (fun c => ?_)
  · have h := ite_t h c
    refine z_aload_n K dX11_falls_48 rfl ?_
    refine z_getR K clX11 k0 11 rfl rfl q511 dX11_falls_49 ?_
    refine z_astore_n K dX11_falls_52 rfl rfl ?_
    refine z_aload_n K dX11_falls_53 rfl ?_
    refine z_aload_n K dX11_falls_54 rfl ?_
    refine z_getR K clX11 k0 12 rfl rfl q512 dX11_falls_55 ?_
    refine z_putR K clX11 tyX11_ok nmX11 k0 11 rfl rfl q511 rfl rfl rfl (hR.at (k := 12) (t := 3) k0 rfl rfl) rfl dX11_falls_58 ?_
    have hR4 := hR.put2 k0 (k := 11) (t := 3) rfl (hR.at (k := 12) (t := 3) k0 rfl rfl)
    refine z_aload_n K dX11_falls_61 rfl ?_
    refine z_aload_n K dX11_falls_62 rfl ?_
    refine z_putR K clX11 tyX11_ok nmX11 k0 12 rfl rfl q512 rfl rfl rfl (hR.at (k := 11) (t := 3) k0 rfl rfl) rfl dX11_falls_63 ?_
    have hR5 := hR4.put2 k0 (k := 12) (t := 3) rfl (hR.at (k := 11) (t := 3) k0 rfl rfl)
    refine z_aload_n K dX11_falls_66 rfl ?_
    refine z_getR K clX11 k0 1 rfl rfl q501 dX11_falls_67 ?_
    refine z_aload_n K dX11_falls_70 rfl ?_
    refine z_getR K clX11 k0 11 rfl rfl q511 dX11_falls_71 ?_
    obtain ⟨T6, hc, h⟩ := bd1_e h
    refine z_callVV K (mX1_begin l hR5 (hR5.at (k := 1) (t := 1) k0 rfl rfl) (hR5.at (k := 11) (t := 3) k0 rfl rfl) hc) clX1 (hR5.at (k := 1) (t := 1) k0 rfl rfl) ceX1_begin q718 ⟨rfl, rfl, rfl, rfl⟩ rfl rfl rfl dX11_falls_74 ?_
    refine z_aload_n K dX11_falls_77 rfl ?_
    refine z_getR K clX11 k0 13 rfl rfl q513 dX11_falls_78 ?_
    refine z_iconst K 0 dX11_falls_81 rfl ?_
    refine z_putI K clX8 tyX8_ok nmX8 (hR5.at (k := 13) (t := 8) k0 rfl rfl) 1 rfl rfl q456 rfl rfl rfl dX11_falls_82 ?_
    refine z_aload_n K dX11_falls_85 rfl ?_
    refine z_getR K clX11 k0 3 rfl rfl q503 dX11_falls_86 ?_
    refine z_iconst K 0 dX11_falls_89 rfl ?_
    refine z_putI K clX7 tyX7_ok nmX7 (hR5.at (k := 3) (t := 7) k0 rfl rfl) 0 rfl rfl q370 rfl rfl rfl dX11_falls_90 ?_
    refine z_iload_n K dX11_falls_93 rfl ?_
    obtain rfl := Option.some.inj h
    exact z_iret K dX11_falls_94
  · have h := ite_f h c
    refine z_iconst K (-1) dX11_falls_38 rfl ?_
    refine z_aload_n K dX11_falls_39 rfl ?_
    refine z_getR K clX11 k0 0 rfl rfl q500 dX11_falls_40 ?_
    refine z_getI K clX10 (hR.at (k := 0) (t := 10) k0 rfl rfl) 3 rfl rfl q202 dX11_falls_43 ?_
    refine z_isub K dX11_falls_46 ?_
    obtain rfl := Option.some.inj h
    exact z_iret K dX11_falls_47
/-! GoingOver.fault ()I -/
abbrev rmX11_fault : Room := { frames := 0, cells := 0, slots := 0, locals := 0 }
def pX11_fault (R : Rf) (T : Mm) (a0 : Nat) : Option (Int32) :=
  some (T.1 a0 15)
set_option maxRecDepth 100000 in
set_option maxHeartbeats 4000000 in
theorem mX11_fault {g : Gl} {R : Rf} {T : Mm} {a0 : Nat} (l : Launch) (hR : Ty g R) (k0 : kd g a0 = 11) {r : Int32} (h : pX11_fault R T a0 = some r) : MI l g yX11_fault cX11_fault 1 (some .int) rmX11_fault [.ref (g.2.2.1 a0)] R T r R T := by
  refine z_metI (own := RX11) (lv := [some (.ref (g.2.2.1 a0))]) (by decide +kernel) rfl rfl rfl (fun X K => ?_)
  unfold pX11_fault at h
  refine z_aload_n K dX11_fault_0 rfl ?_
  refine z_getI K clX11 k0 15 rfl rfl q515 dX11_fault_1 ?_
  obtain rfl := Option.some.inj h
  exact z_iret K dX11_fault_4
/-! GoingOver.item (II)I -/
abbrev rmX11_item : Room := { frames := 2, cells := 0, slots := 0, locals := 46 }
def pX11_item (R : Rf) (T : Mm) (a0 : Nat) (x1 : Int32) (x2 : Int32) : Option (Int32 × Mm) :=
  bd1 (pX3_hasItem R T (R a0 11) x1) (fun (u1 : Int32) => if u1 = 0 then some ((-1), T) else if x2 = 0 then ix x1 10 (some (T.1 (R (R a0 11) 8) x1.toNatClampNeg, T)) else if x2 = 1 then ix x1 10 (some (T.1 (R (R a0 11) 9) x1.toNatClampNeg, T)) else if x2 = 2 then bd1 (pX1_hasInside R T (R a0 1) x1) (fun (u2 : Int32) => if u2 = 0 then some (0, T) else some (1, T)) else if x2 = 3 then bd1 (pX3_joinsAt R T (R a0 11) x1) (fun (u3 : Int32) => some (u3, T)) else if x2 = 4 then ix x1 10 (bd1 (pX3_joinsHolding R T (R a0 11) (T.1 (R (R a0 11) 8) x1.toNatClampNeg) (T.1 (R a0 1) 2) 0) (fun (u4 : Int32) => bd1 (pX6_hold R T (R a0 5) (R a0 11) u4) (fun (T5 : Mm) => bd1 (pX6_around R T5 (R a0 5) x1 (T5.1 (R a0 1) 1)) (fun (u6 : Int32) => bd1 (pX6_leastOf R T5 u6) (fun (u7 : Int32) => some (u7, T5)))))) else some ((-1), T))
set_option maxRecDepth 100000 in
set_option maxHeartbeats 4000000 in
theorem mX11_item {g : Gl} {R : Rf} {T : Mm} {a0 : Nat} {x1 : Int32} {x2 : Int32} (l : Launch) (hR : Ty g R) (k0 : kd g a0 = 11) {r : Int32 × Mm} (h : pX11_item R T a0 x1 x2 = some r) : MI l g yX11_item cX11_item 3 (some .int) rmX11_item [.ref (g.2.2.1 a0), .int x1, .int x2] R T r.1 R r.2 := by
  refine z_metI (own := RX11) (lv := [some (.ref (g.2.2.1 a0)), some (.int x1), some (.int x2)]) (by decide +kernel) rfl rfl rfl (fun X K => ?_)
  unfold pX11_item at h
  refine z_aload_n K dX11_item_0 rfl ?_
  refine z_getR K clX11 k0 11 rfl rfl q511 dX11_item_1 ?_
  refine z_iload_n K dX11_item_4 rfl ?_
  obtain ⟨u1, hc, h⟩ := bd1_e h
  refine z_callVI K (mX3_hasItem l hR (hR.at (k := 11) (t := 3) k0 rfl rfl) hc) clX3 (hR.at (k := 11) (t := 3) k0 rfl rfl) ceX3_hasItem q730 ⟨rfl, rfl, rfl, rfl⟩ rfl rfl rfl dX11_item_5 ?_
  refine z_if_ne K 13 dX11_item_8 (by decide) (fun c => ?_) (fun c => ?_)
  · have h := ite_f h c
    refine z_iload_n K dX11_item_13 rfl ?_
    rcases ite_or h with ⟨c0, h⟩ | ⟨c0, h⟩
    · refine z_tin K 48 0 c0 dX11_item_14 (by decide) (by decide) rfl (by decide) ?_
      refine z_aload_n K dX11_item_48 rfl ?_
      refine z_getR K clX11 k0 11 rfl rfl q511 dX11_item_49 ?_
      refine z_getR K clX3 (hR.at (k := 11) (t := 3) k0 rfl rfl) 8 rfl rfl q275 dX11_item_52 ?_
      refine z_iload_n K dX11_item_55 rfl ?_
      obtain ⟨hi, h⟩ := ix_e h
      refine z_iald K (hR.at (k := 8) (t := 20010) (hR.at (k := 11) (t := 3) k0 rfl rfl) rfl rfl) rfl rfl rfl hi dX11_item_56 ?_
      obtain rfl := Option.some.inj h
      exact z_iret K dX11_item_57
    rcases ite_or h with ⟨c1, h⟩ | ⟨c1, h⟩
    · refine z_tin K 58 1 c1 dX11_item_14 (by decide) (by decide) rfl (by decide) ?_
      refine z_aload_n K dX11_item_58 rfl ?_
      refine z_getR K clX11 k0 11 rfl rfl q511 dX11_item_59 ?_
      refine z_getR K clX3 (hR.at (k := 11) (t := 3) k0 rfl rfl) 9 rfl rfl q278 dX11_item_62 ?_
      refine z_iload_n K dX11_item_65 rfl ?_
      obtain ⟨hi, h⟩ := ix_e h
      refine z_iald K (hR.at (k := 9) (t := 20010) (hR.at (k := 11) (t := 3) k0 rfl rfl) rfl rfl) rfl rfl rfl hi dX11_item_66 ?_
      obtain rfl := Option.some.inj h
      exact z_iret K dX11_item_67
    rcases ite_or h with ⟨c2, h⟩ | ⟨c2, h⟩
    · refine z_tin K 68 2 c2 dX11_item_14 (by decide) (by decide) rfl (by decide) ?_
      refine z_aload_n K dX11_item_68 rfl ?_
      refine z_getR K clX11 k0 1 rfl rfl q501 dX11_item_69 ?_
      refine z_iload_n K dX11_item_72 rfl ?_
      obtain ⟨u2, hc, h⟩ := bd1_e h
      refine z_callVI K (mX1_hasInside l hR (hR.at (k := 1) (t := 1) k0 rfl rfl) hc) clX1 (hR.at (k := 1) (t := 1) k0 rfl rfl) ceX1_hasInside q734 ⟨rfl, rfl, rfl, rfl⟩ rfl rfl rfl dX11_item_73 ?_
      refine z_if_eq K 83 dX11_item_76 (by decide) (fun c => ?_) (fun c => ?_)
      · have h := ite_t h c
        refine z_iconst K 0 dX11_item_83 rfl ?_
        obtain rfl := Option.some.inj h
        exact z_iret K dX11_item_84
      · have h := ite_f h c
        refine z_iconst K 1 dX11_item_79 rfl ?_
        refine z_goto K 84 dX11_item_80 (by decide) ?_
        obtain rfl := Option.some.inj h
        exact z_iret K dX11_item_84
    rcases ite_or h with ⟨c3, h⟩ | ⟨c3, h⟩
    · refine z_tin K 85 3 c3 dX11_item_14 (by decide) (by decide) rfl (by decide) ?_
      refine z_aload_n K dX11_item_85 rfl ?_
      refine z_getR K clX11 k0 11 rfl rfl q511 dX11_item_86 ?_
      refine z_iload_n K dX11_item_89 rfl ?_
      obtain ⟨u3, hc, h⟩ := bd1_e h
      refine z_callVI K (mX3_joinsAt l hR (hR.at (k := 11) (t := 3) k0 rfl rfl) hc) clX3 (hR.at (k := 11) (t := 3) k0 rfl rfl) ceX3_joinsAt q738 ⟨rfl, rfl, rfl, rfl⟩ rfl rfl rfl dX11_item_90 ?_
      obtain rfl := Option.some.inj h
      exact z_iret K dX11_item_93
    rcases ite_or h with ⟨c4, h⟩ | ⟨c4, h⟩
    · refine z_tin K 94 4 c4 dX11_item_14 (by decide) (by decide) rfl (by decide) ?_
      refine z_aload_n K dX11_item_94 rfl ?_
      refine z_getR K clX11 k0 5 rfl rfl q505 dX11_item_95 ?_
      refine z_aload_n K dX11_item_98 rfl ?_
      refine z_getR K clX11 k0 11 rfl rfl q511 dX11_item_99 ?_
      refine z_aload_n K dX11_item_102 rfl ?_
      refine z_getR K clX11 k0 11 rfl rfl q511 dX11_item_103 ?_
      refine z_aload_n K dX11_item_106 rfl ?_
      refine z_getR K clX11 k0 11 rfl rfl q511 dX11_item_107 ?_
      refine z_getR K clX3 (hR.at (k := 11) (t := 3) k0 rfl rfl) 8 rfl rfl q275 dX11_item_110 ?_
      refine z_iload_n K dX11_item_113 rfl ?_
      obtain ⟨hi, h⟩ := ix_e h
      refine z_iald K (hR.at (k := 8) (t := 20010) (hR.at (k := 11) (t := 3) k0 rfl rfl) rfl rfl) rfl rfl rfl hi dX11_item_114 ?_
      refine z_aload_n K dX11_item_115 rfl ?_
      refine z_getR K clX11 k0 1 rfl rfl q501 dX11_item_116 ?_
      refine z_getI K clX1 (hR.at (k := 1) (t := 1) k0 rfl rfl) 2 rfl rfl q343 dX11_item_119 ?_
      refine z_iconst K 0 dX11_item_122 rfl ?_
      obtain ⟨u4, hc, h⟩ := bd1_e h
      refine z_callVI K (mX3_joinsHolding l hR (hR.at (k := 11) (t := 3) k0 rfl rfl) hc) clX3 (hR.at (k := 11) (t := 3) k0 rfl rfl) ceX3_joinsHolding q739 ⟨rfl, rfl, rfl, rfl⟩ rfl rfl rfl dX11_item_123 ?_
      obtain ⟨T5, hc, h⟩ := bd1_e h
      refine z_callVV K (mX6_hold l hR (hR.at (k := 5) (t := 6) k0 rfl rfl) (hR.at (k := 11) (t := 3) k0 rfl rfl) hc) clX6 (hR.at (k := 5) (t := 6) k0 rfl rfl) ceX6_hold q747 ⟨rfl, rfl, rfl, rfl⟩ rfl rfl rfl dX11_item_126 ?_
      refine z_aload_n K dX11_item_129 rfl ?_
      refine z_getR K clX11 k0 5 rfl rfl q505 dX11_item_130 ?_
      refine z_iload_n K dX11_item_133 rfl ?_
      refine z_aload_n K dX11_item_134 rfl ?_
      refine z_getR K clX11 k0 1 rfl rfl q501 dX11_item_135 ?_
      refine z_getI K clX1 (hR.at (k := 1) (t := 1) k0 rfl rfl) 1 rfl rfl q339 dX11_item_138 ?_
      obtain ⟨u6, hc, h⟩ := bd1_e h
      refine z_callVI K (mX6_around l hR (hR.at (k := 5) (t := 6) k0 rfl rfl) hc) clX6 (hR.at (k := 5) (t := 6) k0 rfl rfl) ceX6_around q751 ⟨rfl, rfl, rfl, rfl⟩ rfl rfl rfl dX11_item_141 ?_
      obtain ⟨u7, hc, h⟩ := bd1_e h
      refine z_callSI K (mX6_leastOf l hR hc) ceX6_leastOf q755 ⟨rfl, rfl, rfl, rfl⟩ rfl rfl rfl dX11_item_144 ?_
      obtain rfl := Option.some.inj h
      exact z_iret K dX11_item_147
    refine z_tout K 148 5 (lt_p (lt_s (lt_s (lt_s (lt_s (lt_s lt_0 c0) c1) c2) c3) c4)) dX11_item_14 (by decide) (by decide) (by decide) ?_
    refine z_iconst K (-1) dX11_item_148 rfl ?_
    obtain rfl := Option.some.inj h
    exact z_iret K dX11_item_149
  · have h := ite_t h c
    refine z_iconst K (-1) dX11_item_11 rfl ?_
    obtain rfl := Option.some.inj h
    exact z_iret K dX11_item_12
/-! GoingOver.join (II)I -/
abbrev rmX11_join : Room := { frames := 1, cells := 0, slots := 0, locals := 21 }
def pX11_join (R : Rf) (T : Mm) (a0 : Nat) (x1 : Int32) (x2 : Int32) : Option (Int32) :=
  bd1 (pX3_hasJoin R T (R a0 11) x1) (fun (u1 : Int32) => if u1 = 0 then some (-1) else if x2 = 0 then ix x1 16 (some (T.1 (R (R a0 11) 10) x1.toNatClampNeg)) else if x2 = 1 then ix x1 16 (some (T.1 (R (R a0 11) 11) x1.toNatClampNeg)) else if x2 = 2 then ix x1 16 (some (T.1 (R (R a0 11) 12) x1.toNatClampNeg)) else if x2 = 3 then bd1 (pX1_isWhole R T (R a0 1) x1) (fun (u2 : Int32) => if u2 = 0 then some 0 else some 1) else some (-1))
set_option maxRecDepth 100000 in
set_option maxHeartbeats 4000000 in
theorem mX11_join {g : Gl} {R : Rf} {T : Mm} {a0 : Nat} {x1 : Int32} {x2 : Int32} (l : Launch) (hR : Ty g R) (k0 : kd g a0 = 11) {r : Int32} (h : pX11_join R T a0 x1 x2 = some r) : MI l g yX11_join cX11_join 3 (some .int) rmX11_join [.ref (g.2.2.1 a0), .int x1, .int x2] R T r R T := by
  refine z_metI (own := RX11) (lv := [some (.ref (g.2.2.1 a0)), some (.int x1), some (.int x2)]) (by decide +kernel) rfl rfl rfl (fun X K => ?_)
  unfold pX11_join at h
  refine z_aload_n K dX11_join_0 rfl ?_
  refine z_getR K clX11 k0 11 rfl rfl q511 dX11_join_1 ?_
  refine z_iload_n K dX11_join_4 rfl ?_
  obtain ⟨u1, hc, h⟩ := bd1_e h
  refine z_callVI K (mX3_hasJoin l hR (hR.at (k := 11) (t := 3) k0 rfl rfl) hc) clX3 (hR.at (k := 11) (t := 3) k0 rfl rfl) ceX3_hasJoin q762 ⟨rfl, rfl, rfl, rfl⟩ rfl rfl rfl dX11_join_5 ?_
  refine z_if_ne K 13 dX11_join_8 (by decide) (fun c => ?_) (fun c => ?_)
  · have h := ite_f h c
    refine z_iload_n K dX11_join_13 rfl ?_
    rcases ite_or h with ⟨c0, h⟩ | ⟨c0, h⟩
    · refine z_tin K 44 0 c0 dX11_join_14 (by decide) (by decide) rfl (by decide) ?_
      refine z_aload_n K dX11_join_44 rfl ?_
      refine z_getR K clX11 k0 11 rfl rfl q511 dX11_join_45 ?_
      refine z_getR K clX3 (hR.at (k := 11) (t := 3) k0 rfl rfl) 10 rfl rfl q281 dX11_join_48 ?_
      refine z_iload_n K dX11_join_51 rfl ?_
      obtain ⟨hi, h⟩ := ix_e h
      refine z_iald K (hR.at (k := 10) (t := 20016) (hR.at (k := 11) (t := 3) k0 rfl rfl) rfl rfl) rfl rfl rfl hi dX11_join_52 ?_
      obtain rfl := Option.some.inj h
      exact z_iret K dX11_join_53
    rcases ite_or h with ⟨c1, h⟩ | ⟨c1, h⟩
    · refine z_tin K 54 1 c1 dX11_join_14 (by decide) (by decide) rfl (by decide) ?_
      refine z_aload_n K dX11_join_54 rfl ?_
      refine z_getR K clX11 k0 11 rfl rfl q511 dX11_join_55 ?_
      refine z_getR K clX3 (hR.at (k := 11) (t := 3) k0 rfl rfl) 11 rfl rfl q285 dX11_join_58 ?_
      refine z_iload_n K dX11_join_61 rfl ?_
      obtain ⟨hi, h⟩ := ix_e h
      refine z_iald K (hR.at (k := 11) (t := 20016) (hR.at (k := 11) (t := 3) k0 rfl rfl) rfl rfl) rfl rfl rfl hi dX11_join_62 ?_
      obtain rfl := Option.some.inj h
      exact z_iret K dX11_join_63
    rcases ite_or h with ⟨c2, h⟩ | ⟨c2, h⟩
    · refine z_tin K 64 2 c2 dX11_join_14 (by decide) (by decide) rfl (by decide) ?_
      refine z_aload_n K dX11_join_64 rfl ?_
      refine z_getR K clX11 k0 11 rfl rfl q511 dX11_join_65 ?_
      refine z_getR K clX3 (hR.at (k := 11) (t := 3) k0 rfl rfl) 12 rfl rfl q288 dX11_join_68 ?_
      refine z_iload_n K dX11_join_71 rfl ?_
      obtain ⟨hi, h⟩ := ix_e h
      refine z_iald K (hR.at (k := 12) (t := 20016) (hR.at (k := 11) (t := 3) k0 rfl rfl) rfl rfl) rfl rfl rfl hi dX11_join_72 ?_
      obtain rfl := Option.some.inj h
      exact z_iret K dX11_join_73
    rcases ite_or h with ⟨c3, h⟩ | ⟨c3, h⟩
    · refine z_tin K 74 3 c3 dX11_join_14 (by decide) (by decide) rfl (by decide) ?_
      refine z_aload_n K dX11_join_74 rfl ?_
      refine z_getR K clX11 k0 1 rfl rfl q501 dX11_join_75 ?_
      refine z_iload_n K dX11_join_78 rfl ?_
      obtain ⟨u2, hc, h⟩ := bd1_e h
      refine z_callVI K (mX1_isWhole l hR (hR.at (k := 1) (t := 1) k0 rfl rfl) hc) clX1 (hR.at (k := 1) (t := 1) k0 rfl rfl) ceX1_isWhole q766 ⟨rfl, rfl, rfl, rfl⟩ rfl rfl rfl dX11_join_79 ?_
      refine z_if_eq K 89 dX11_join_82 (by decide) (fun c => ?_) (fun c => ?_)
      · have h := ite_t h c
        refine z_iconst K 0 dX11_join_89 rfl ?_
        obtain rfl := Option.some.inj h
        exact z_iret K dX11_join_90
      · have h := ite_f h c
        refine z_iconst K 1 dX11_join_85 rfl ?_
        refine z_goto K 90 dX11_join_86 (by decide) ?_
        obtain rfl := Option.some.inj h
        exact z_iret K dX11_join_90
    refine z_tout K 91 4 (lt_p (lt_s (lt_s (lt_s (lt_s lt_0 c0) c1) c2) c3)) dX11_join_14 (by decide) (by decide) (by decide) ?_
    refine z_iconst K (-1) dX11_join_91 rfl ?_
    obtain rfl := Option.some.inj h
    exact z_iret K dX11_join_92
  · have h := ite_t h c
    refine z_iconst K (-1) dX11_join_11 rfl ?_
    obtain rfl := Option.some.inj h
    exact z_iret K dX11_join_12
/-! GoingOver.now (I)I -/
abbrev rmX11_now : Room := { frames := 1, cells := 0, slots := 0, locals := 24 }
def pX11_now (R : Rf) (T : Mm) (a0 : Nat) (x1 : Int32) : Option (Int32) :=
  if x1 = 0 then some (T.1 (R a0 1) 0) else if x1 = 1 then bd1 (pX3_flowOn R T (R a0 11) (T.1 (R a0 1) 0)) (fun (u1 : Int32) => some u1) else if x1 = 2 then bd1 (pX1_whoAre R T (R a0 1) (R a0 11) 0) (fun (u2 : Int32) => some u2) else if x1 = 3 then bd1 (pX1_whoAre R T (R a0 1) (R a0 11) 1) (fun (u3 : Int32) => some u3) else if x1 = 4 then bd1 (pX1_whoAre R T (R a0 1) (R a0 11) 2) (fun (u4 : Int32) => some u4) else if x1 = 5 then bd1 (pX1_whoAre R T (R a0 1) (R a0 11) 3) (fun (u5 : Int32) => some u5) else if x1 = 6 then some (T.1 (R a0 1) 2) else if x1 = 7 then some (T.1 (R a0 1) 3) else some (-1)
set_option maxRecDepth 100000 in
set_option maxHeartbeats 4000000 in
theorem mX11_now {g : Gl} {R : Rf} {T : Mm} {a0 : Nat} {x1 : Int32} (l : Launch) (hR : Ty g R) (k0 : kd g a0 = 11) {r : Int32} (h : pX11_now R T a0 x1 = some r) : MI l g yX11_now cX11_now 2 (some .int) rmX11_now [.ref (g.2.2.1 a0), .int x1] R T r R T := by
  refine z_metI (own := RX11) (lv := [some (.ref (g.2.2.1 a0)), some (.int x1)]) (by decide +kernel) rfl rfl rfl (fun X K => ?_)
  unfold pX11_now at h
  refine z_iload_n K dX11_now_0 rfl ?_
  rcases ite_or h with ⟨c0, h⟩ | ⟨c0, h⟩
  · refine z_tin K 48 0 c0 dX11_now_1 (by decide) (by decide) rfl (by decide) ?_
    refine z_aload_n K dX11_now_48 rfl ?_
    refine z_getR K clX11 k0 1 rfl rfl q501 dX11_now_49 ?_
    refine z_getI K clX1 (hR.at (k := 1) (t := 1) k0 rfl rfl) 0 rfl rfl q335 dX11_now_52 ?_
    obtain rfl := Option.some.inj h
    exact z_iret K dX11_now_55
  rcases ite_or h with ⟨c1, h⟩ | ⟨c1, h⟩
  · refine z_tin K 56 1 c1 dX11_now_1 (by decide) (by decide) rfl (by decide) ?_
    refine z_aload_n K dX11_now_56 rfl ?_
    refine z_getR K clX11 k0 11 rfl rfl q511 dX11_now_57 ?_
    refine z_aload_n K dX11_now_60 rfl ?_
    refine z_getR K clX11 k0 1 rfl rfl q501 dX11_now_61 ?_
    refine z_getI K clX1 (hR.at (k := 1) (t := 1) k0 rfl rfl) 0 rfl rfl q335 dX11_now_64 ?_
    obtain ⟨u1, hc, h⟩ := bd1_e h
    refine z_callVI K (mX3_flowOn l hR (hR.at (k := 11) (t := 3) k0 rfl rfl) hc) clX3 (hR.at (k := 11) (t := 3) k0 rfl rfl) ceX3_flowOn q774 ⟨rfl, rfl, rfl, rfl⟩ rfl rfl rfl dX11_now_67 ?_
    obtain rfl := Option.some.inj h
    exact z_iret K dX11_now_70
  rcases ite_or h with ⟨c2, h⟩ | ⟨c2, h⟩
  · refine z_tin K 71 2 c2 dX11_now_1 (by decide) (by decide) rfl (by decide) ?_
    refine z_aload_n K dX11_now_71 rfl ?_
    refine z_getR K clX11 k0 1 rfl rfl q501 dX11_now_72 ?_
    refine z_aload_n K dX11_now_75 rfl ?_
    refine z_getR K clX11 k0 11 rfl rfl q511 dX11_now_76 ?_
    refine z_iconst K 0 dX11_now_79 rfl ?_
    obtain ⟨u2, hc, h⟩ := bd1_e h
    refine z_callVI K (mX1_whoAre l hR (hR.at (k := 1) (t := 1) k0 rfl rfl) (hR.at (k := 11) (t := 3) k0 rfl rfl) hc) clX1 (hR.at (k := 1) (t := 1) k0 rfl rfl) ceX1_whoAre q778 ⟨rfl, rfl, rfl, rfl⟩ rfl rfl rfl dX11_now_80 ?_
    obtain rfl := Option.some.inj h
    exact z_iret K dX11_now_83
  rcases ite_or h with ⟨c3, h⟩ | ⟨c3, h⟩
  · refine z_tin K 84 3 c3 dX11_now_1 (by decide) (by decide) rfl (by decide) ?_
    refine z_aload_n K dX11_now_84 rfl ?_
    refine z_getR K clX11 k0 1 rfl rfl q501 dX11_now_85 ?_
    refine z_aload_n K dX11_now_88 rfl ?_
    refine z_getR K clX11 k0 11 rfl rfl q511 dX11_now_89 ?_
    refine z_iconst K 1 dX11_now_92 rfl ?_
    obtain ⟨u3, hc, h⟩ := bd1_e h
    refine z_callVI K (mX1_whoAre l hR (hR.at (k := 1) (t := 1) k0 rfl rfl) (hR.at (k := 11) (t := 3) k0 rfl rfl) hc) clX1 (hR.at (k := 1) (t := 1) k0 rfl rfl) ceX1_whoAre q778 ⟨rfl, rfl, rfl, rfl⟩ rfl rfl rfl dX11_now_93 ?_
    obtain rfl := Option.some.inj h
    exact z_iret K dX11_now_96
  rcases ite_or h with ⟨c4, h⟩ | ⟨c4, h⟩
  · refine z_tin K 97 4 c4 dX11_now_1 (by decide) (by decide) rfl (by decide) ?_
    refine z_aload_n K dX11_now_97 rfl ?_
    refine z_getR K clX11 k0 1 rfl rfl q501 dX11_now_98 ?_
    refine z_aload_n K dX11_now_101 rfl ?_
    refine z_getR K clX11 k0 11 rfl rfl q511 dX11_now_102 ?_
    refine z_iconst K 2 dX11_now_105 rfl ?_
    obtain ⟨u4, hc, h⟩ := bd1_e h
    refine z_callVI K (mX1_whoAre l hR (hR.at (k := 1) (t := 1) k0 rfl rfl) (hR.at (k := 11) (t := 3) k0 rfl rfl) hc) clX1 (hR.at (k := 1) (t := 1) k0 rfl rfl) ceX1_whoAre q778 ⟨rfl, rfl, rfl, rfl⟩ rfl rfl rfl dX11_now_106 ?_
    obtain rfl := Option.some.inj h
    exact z_iret K dX11_now_109
  rcases ite_or h with ⟨c5, h⟩ | ⟨c5, h⟩
  · refine z_tin K 110 5 c5 dX11_now_1 (by decide) (by decide) rfl (by decide) ?_
    refine z_aload_n K dX11_now_110 rfl ?_
    refine z_getR K clX11 k0 1 rfl rfl q501 dX11_now_111 ?_
    refine z_aload_n K dX11_now_114 rfl ?_
    refine z_getR K clX11 k0 11 rfl rfl q511 dX11_now_115 ?_
    refine z_iconst K 3 dX11_now_118 rfl ?_
    obtain ⟨u5, hc, h⟩ := bd1_e h
    refine z_callVI K (mX1_whoAre l hR (hR.at (k := 1) (t := 1) k0 rfl rfl) (hR.at (k := 11) (t := 3) k0 rfl rfl) hc) clX1 (hR.at (k := 1) (t := 1) k0 rfl rfl) ceX1_whoAre q778 ⟨rfl, rfl, rfl, rfl⟩ rfl rfl rfl dX11_now_119 ?_
    obtain rfl := Option.some.inj h
    exact z_iret K dX11_now_122
  rcases ite_or h with ⟨c6, h⟩ | ⟨c6, h⟩
  · refine z_tin K 123 6 c6 dX11_now_1 (by decide) (by decide) rfl (by decide) ?_
    refine z_aload_n K dX11_now_123 rfl ?_
    refine z_getR K clX11 k0 1 rfl rfl q501 dX11_now_124 ?_
    refine z_getI K clX1 (hR.at (k := 1) (t := 1) k0 rfl rfl) 2 rfl rfl q343 dX11_now_127 ?_
    obtain rfl := Option.some.inj h
    exact z_iret K dX11_now_130
  rcases ite_or h with ⟨c7, h⟩ | ⟨c7, h⟩
  · refine z_tin K 131 7 c7 dX11_now_1 (by decide) (by decide) rfl (by decide) ?_
    refine z_aload_n K dX11_now_131 rfl ?_
    refine z_getR K clX11 k0 1 rfl rfl q501 dX11_now_132 ?_
    refine z_getI K clX1 (hR.at (k := 1) (t := 1) k0 rfl rfl) 3 rfl rfl q345 dX11_now_135 ?_
    obtain rfl := Option.some.inj h
    exact z_iret K dX11_now_138
  refine z_tout K 139 8 (lt_p (lt_s (lt_s (lt_s (lt_s (lt_s (lt_s (lt_s (lt_s lt_0 c0) c1) c2) c3) c4) c5) c6) c7)) dX11_now_1 (by decide) (by decide) (by decide) ?_
  refine z_iconst K (-1) dX11_now_139 rfl ?_
  obtain rfl := Option.some.inj h
  exact z_iret K dX11_now_140
/-! GoingOver.act (II)I -/
abbrev rmX11_act : Room := { frames := 4, cells := 0, slots := 0, locals := 102 }
def pX11_act (R : Rf) (T : Mm) (a0 : Nat) (x1 : Int32) (x2 : Int32) : Option (Int32 × Mm) :=
  bd1 (pX1_copy R T (R a0 2) (R a0 1)) (fun (T1 : Mm) => bd2 (pX1_attempt R T1 (R a0 2) (R a0 11) x1 x2) (fun (u2 : Int32) (T2 : Mm) => if u2 = 0 then bd1 (pX7_push R T2 (R a0 3) (R a0 1)) (fun (T3 : Mm) => bd1 (pX1_copy R T3 (R a0 1) (R a0 2)) (fun (T4 : Mm) => some (u2, T4))) else some (u2, T2)))
set_option maxRecDepth 100000 in
set_option maxHeartbeats 4000000 in
theorem mX11_act {g : Gl} {R : Rf} {T : Mm} {a0 : Nat} {x1 : Int32} {x2 : Int32} (l : Launch) (hR : Ty g R) (k0 : kd g a0 = 11) {r : Int32 × Mm} (h : pX11_act R T a0 x1 x2 = some r) : MI l g yX11_act cX11_act 4 (some .int) rmX11_act [.ref (g.2.2.1 a0), .int x1, .int x2] R T r.1 R r.2 := by
  refine z_metI (own := RX11) (lv := [some (.ref (g.2.2.1 a0)), some (.int x1), some (.int x2), none]) (by decide +kernel) rfl rfl rfl (fun X K => ?_)
  unfold pX11_act at h
  refine z_aload_n K dX11_act_0 rfl ?_
  refine z_getR K clX11 k0 2 rfl rfl q502 dX11_act_1 ?_
  refine z_aload_n K dX11_act_4 rfl ?_
  refine z_getR K clX11 k0 1 rfl rfl q501 dX11_act_5 ?_
  obtain ⟨T1, hc, h⟩ := bd1_e h
  refine z_callVV K (mX1_copy l hR (hR.at (k := 2) (t := 1) k0 rfl rfl) (hR.at (k := 1) (t := 1) k0 rfl rfl) hc) clX1 (hR.at (k := 2) (t := 1) k0 rfl rfl) ceX1_copy q794 ⟨rfl, rfl, rfl, rfl⟩ rfl rfl rfl dX11_act_8 ?_
  refine z_aload_n K dX11_act_11 rfl ?_
  refine z_getR K clX11 k0 2 rfl rfl q502 dX11_act_12 ?_
  refine z_aload_n K dX11_act_15 rfl ?_
  refine z_getR K clX11 k0 11 rfl rfl q511 dX11_act_16 ?_
  refine z_iload_n K dX11_act_19 rfl ?_
  refine z_iload_n K dX11_act_20 rfl ?_
  obtain ⟨u2, T2, hc, h⟩ := bd2_e h
  refine z_callVI K (mX1_attempt l hR (hR.at (k := 2) (t := 1) k0 rfl rfl) (hR.at (k := 11) (t := 3) k0 rfl rfl) hc) clX1 (hR.at (k := 2) (t := 1) k0 rfl rfl) ceX1_attempt q801 ⟨rfl, rfl, rfl, rfl⟩ rfl rfl rfl dX11_act_21 ?_
  refine z_istore_n K dX11_act_24 rfl rfl ?_
  refine z_iload_n K dX11_act_25 rfl ?_
  refine z_if_ne K 51 dX11_act_26 (by decide) (fun c => ?_) (fun c => ?_)
  · have h := ite_f h c
    refine z_iload_n K dX11_act_51 rfl ?_
    obtain rfl := Option.some.inj h
    exact z_iret K dX11_act_52
  · have h := ite_t h c
    refine z_aload_n K dX11_act_29 rfl ?_
    refine z_getR K clX11 k0 3 rfl rfl q503 dX11_act_30 ?_
    refine z_aload_n K dX11_act_33 rfl ?_
    refine z_getR K clX11 k0 1 rfl rfl q501 dX11_act_34 ?_
    obtain ⟨T3, hc, h⟩ := bd1_e h
    refine z_callVV K (mX7_push l hR (hR.at (k := 3) (t := 7) k0 rfl rfl) (hR.at (k := 1) (t := 1) k0 rfl rfl) hc) clX7 (hR.at (k := 3) (t := 7) k0 rfl rfl) ceX7_push q838 ⟨rfl, rfl, rfl, rfl⟩ rfl rfl rfl dX11_act_37 ?_
    refine z_aload_n K dX11_act_40 rfl ?_
    refine z_getR K clX11 k0 1 rfl rfl q501 dX11_act_41 ?_
    refine z_aload_n K dX11_act_44 rfl ?_
    refine z_getR K clX11 k0 2 rfl rfl q502 dX11_act_45 ?_
    obtain ⟨T4, hc, h⟩ := bd1_e h
    refine z_callVV K (mX1_copy l hR (hR.at (k := 1) (t := 1) k0 rfl rfl) (hR.at (k := 2) (t := 1) k0 rfl rfl) hc) clX1 (hR.at (k := 1) (t := 1) k0 rfl rfl) ceX1_copy q794 ⟨rfl, rfl, rfl, rfl⟩ rfl rfl rfl dX11_act_48 ?_
    refine z_iload_n K dX11_act_51 rfl ?_
    obtain rfl := Option.some.inj h
    exact z_iret K dX11_act_52
/-! GoingOver.go (I)I -/
abbrev rmX11_go : Room := { frames := 5, cells := 0, slots := 0, locals := 125 }
def pX11_go (R : Rf) (T : Mm) (a0 : Nat) (x1 : Int32) : Option (Int32 × Mm) :=
  bd1 (pX3_hasPerson R T (R a0 11) x1) (fun (u1 : Int32) => if u1 = 0 then some ((-1), T) else bd2 (pX11_act R T a0 5 x1) (fun (u2 : Int32) (T2 : Mm) => some (u2, T2)))
set_option maxRecDepth 100000 in
set_option maxHeartbeats 4000000 in
theorem mX11_go {g : Gl} {R : Rf} {T : Mm} {a0 : Nat} {x1 : Int32} (l : Launch) (hR : Ty g R) (k0 : kd g a0 = 11) {r : Int32 × Mm} (h : pX11_go R T a0 x1 = some r) : MI l g yX11_go cX11_go 2 (some .int) rmX11_go [.ref (g.2.2.1 a0), .int x1] R T r.1 R r.2 := by
  refine z_metI (own := RX11) (lv := [some (.ref (g.2.2.1 a0)), some (.int x1)]) (by decide +kernel) rfl rfl rfl (fun X K => ?_)
  unfold pX11_go at h
  refine z_aload_n K dX11_go_0 rfl ?_
  refine z_getR K clX11 k0 11 rfl rfl q511 dX11_go_1 ?_
  refine z_iload_n K dX11_go_4 rfl ?_
  obtain ⟨u1, hc, h⟩ := bd1_e h
  refine z_callVI K (mX3_hasPerson l hR (hR.at (k := 11) (t := 3) k0 rfl rfl) hc) clX3 (hR.at (k := 11) (t := 3) k0 rfl rfl) ceX3_hasPerson q786 ⟨rfl, rfl, rfl, rfl⟩ rfl rfl rfl dX11_go_5 ?_
  refine z_if_eq K 20 dX11_go_8 (by decide) (fun c => ?_) (fun c => ?_)
  · have h := ite_t h c
    refine z_iconst K (-1) dX11_go_20 rfl ?_
    obtain rfl := Option.some.inj h
    exact z_iret K dX11_go_21
  · have h := ite_f h c
    refine z_aload_n K dX11_go_11 rfl ?_
    refine z_iconst K 5 dX11_go_12 rfl ?_
    refine z_iload_n K dX11_go_13 rfl ?_
    obtain ⟨u2, T2, hc, h⟩ := bd2_e h
    refine z_callVI K (mX11_act l hR k0 hc) clX11 k0 ceX11_act q790 ⟨rfl, rfl, rfl, rfl⟩ rfl rfl rfl dX11_go_14 ?_
    refine z_goto K 21 dX11_go_17 (by decide) ?_
    obtain rfl := Option.some.inj h
    exact z_iret K dX11_go_21
/-! GoingOver.free (I)I -/
abbrev rmX11_free : Room := { frames := 5, cells := 0, slots := 0, locals := 125 }
def pX11_free (R : Rf) (T : Mm) (a0 : Nat) (x1 : Int32) : Option (Int32 × Mm) :=
  bd1 (pX3_hasPerson R T (R a0 11) x1) (fun (u1 : Int32) => if u1 = 0 then some ((-1), T) else bd2 (pX11_act R T a0 6 x1) (fun (u2 : Int32) (T2 : Mm) => some (u2, T2)))
set_option maxRecDepth 100000 in
set_option maxHeartbeats 4000000 in
theorem mX11_free {g : Gl} {R : Rf} {T : Mm} {a0 : Nat} {x1 : Int32} (l : Launch) (hR : Ty g R) (k0 : kd g a0 = 11) {r : Int32 × Mm} (h : pX11_free R T a0 x1 = some r) : MI l g yX11_free cX11_free 2 (some .int) rmX11_free [.ref (g.2.2.1 a0), .int x1] R T r.1 R r.2 := by
  refine z_metI (own := RX11) (lv := [some (.ref (g.2.2.1 a0)), some (.int x1)]) (by decide +kernel) rfl rfl rfl (fun X K => ?_)
  unfold pX11_free at h
  refine z_aload_n K dX11_free_0 rfl ?_
  refine z_getR K clX11 k0 11 rfl rfl q511 dX11_free_1 ?_
  refine z_iload_n K dX11_free_4 rfl ?_
  obtain ⟨u1, hc, h⟩ := bd1_e h
  refine z_callVI K (mX3_hasPerson l hR (hR.at (k := 11) (t := 3) k0 rfl rfl) hc) clX3 (hR.at (k := 11) (t := 3) k0 rfl rfl) ceX3_hasPerson q786 ⟨rfl, rfl, rfl, rfl⟩ rfl rfl rfl dX11_free_5 ?_
  refine z_if_eq K 21 dX11_free_8 (by decide) (fun c => ?_) (fun c => ?_)
  · have h := ite_t h c
    refine z_iconst K (-1) dX11_free_21 rfl ?_
    obtain rfl := Option.some.inj h
    exact z_iret K dX11_free_22
  · have h := ite_f h c
    refine z_aload_n K dX11_free_11 rfl ?_
    refine z_bipush K 6 dX11_free_12 rfl ?_
    refine z_iload_n K dX11_free_14 rfl ?_
    obtain ⟨u2, T2, hc, h⟩ := bd2_e h
    refine z_callVI K (mX11_act l hR k0 hc) clX11 k0 ceX11_act q790 ⟨rfl, rfl, rfl, rfl⟩ rfl rfl rfl dX11_free_15 ?_
    refine z_goto K 22 dX11_free_18 (by decide) ?_
    obtain rfl := Option.some.inj h
    exact z_iret K dX11_free_22
/-! GoingOver.unload (I)I -/
abbrev rmX11_unload : Room := { frames := 5, cells := 0, slots := 0, locals := 125 }
def pX11_unload (R : Rf) (T : Mm) (a0 : Nat) (x1 : Int32) : Option (Int32 × Mm) :=
  bd1 (pX3_hasItem R T (R a0 11) x1) (fun (u1 : Int32) => if u1 = 0 then some ((-1), T) else bd2 (pX11_act R T a0 7 x1) (fun (u2 : Int32) (T2 : Mm) => some (u2, T2)))
set_option maxRecDepth 100000 in
set_option maxHeartbeats 4000000 in
theorem mX11_unload {g : Gl} {R : Rf} {T : Mm} {a0 : Nat} {x1 : Int32} (l : Launch) (hR : Ty g R) (k0 : kd g a0 = 11) {r : Int32 × Mm} (h : pX11_unload R T a0 x1 = some r) : MI l g yX11_unload cX11_unload 2 (some .int) rmX11_unload [.ref (g.2.2.1 a0), .int x1] R T r.1 R r.2 := by
  refine z_metI (own := RX11) (lv := [some (.ref (g.2.2.1 a0)), some (.int x1)]) (by decide +kernel) rfl rfl rfl (fun X K => ?_)
  unfold pX11_unload at h
  refine z_aload_n K dX11_unload_0 rfl ?_
  refine z_getR K clX11 k0 11 rfl rfl q511 dX11_unload_1 ?_
  refine z_iload_n K dX11_unload_4 rfl ?_
  obtain ⟨u1, hc, h⟩ := bd1_e h
  refine z_callVI K (mX3_hasItem l hR (hR.at (k := 11) (t := 3) k0 rfl rfl) hc) clX3 (hR.at (k := 11) (t := 3) k0 rfl rfl) ceX3_hasItem q730 ⟨rfl, rfl, rfl, rfl⟩ rfl rfl rfl dX11_unload_5 ?_
  refine z_if_eq K 21 dX11_unload_8 (by decide) (fun c => ?_) (fun c => ?_)
  · have h := ite_t h c
    refine z_iconst K (-1) dX11_unload_21 rfl ?_
    obtain rfl := Option.some.inj h
    exact z_iret K dX11_unload_22
  · have h := ite_f h c
    refine z_aload_n K dX11_unload_11 rfl ?_
    refine z_bipush K 7 dX11_unload_12 rfl ?_
    refine z_iload_n K dX11_unload_14 rfl ?_
    obtain ⟨u2, T2, hc, h⟩ := bd2_e h
    refine z_callVI K (mX11_act l hR k0 hc) clX11 k0 ceX11_act q790 ⟨rfl, rfl, rfl, rfl⟩ rfl rfl rfl dX11_unload_15 ?_
    refine z_goto K 22 dX11_unload_18 (by decide) ?_
    obtain rfl := Option.some.inj h
    exact z_iret K dX11_unload_22
/-! GoingOver.load (I)I -/
abbrev rmX11_load : Room := { frames := 5, cells := 0, slots := 0, locals := 125 }
def pX11_load (R : Rf) (T : Mm) (a0 : Nat) (x1 : Int32) : Option (Int32 × Mm) :=
  bd1 (pX3_hasItem R T (R a0 11) x1) (fun (u1 : Int32) => if u1 = 0 then some ((-1), T) else bd2 (pX11_act R T a0 8 x1) (fun (u2 : Int32) (T2 : Mm) => some (u2, T2)))
set_option maxRecDepth 100000 in
set_option maxHeartbeats 4000000 in
theorem mX11_load {g : Gl} {R : Rf} {T : Mm} {a0 : Nat} {x1 : Int32} (l : Launch) (hR : Ty g R) (k0 : kd g a0 = 11) {r : Int32 × Mm} (h : pX11_load R T a0 x1 = some r) : MI l g yX11_load cX11_load 2 (some .int) rmX11_load [.ref (g.2.2.1 a0), .int x1] R T r.1 R r.2 := by
  refine z_metI (own := RX11) (lv := [some (.ref (g.2.2.1 a0)), some (.int x1)]) (by decide +kernel) rfl rfl rfl (fun X K => ?_)
  unfold pX11_load at h
  refine z_aload_n K dX11_load_0 rfl ?_
  refine z_getR K clX11 k0 11 rfl rfl q511 dX11_load_1 ?_
  refine z_iload_n K dX11_load_4 rfl ?_
  obtain ⟨u1, hc, h⟩ := bd1_e h
  refine z_callVI K (mX3_hasItem l hR (hR.at (k := 11) (t := 3) k0 rfl rfl) hc) clX3 (hR.at (k := 11) (t := 3) k0 rfl rfl) ceX3_hasItem q730 ⟨rfl, rfl, rfl, rfl⟩ rfl rfl rfl dX11_load_5 ?_
  refine z_if_eq K 21 dX11_load_8 (by decide) (fun c => ?_) (fun c => ?_)
  · have h := ite_t h c
    refine z_iconst K (-1) dX11_load_21 rfl ?_
    obtain rfl := Option.some.inj h
    exact z_iret K dX11_load_22
  · have h := ite_f h c
    refine z_aload_n K dX11_load_11 rfl ?_
    refine z_bipush K 8 dX11_load_12 rfl ?_
    refine z_iload_n K dX11_load_14 rfl ?_
    obtain ⟨u2, T2, hc, h⟩ := bd2_e h
    refine z_callVI K (mX11_act l hR k0 hc) clX11 k0 ceX11_act q790 ⟨rfl, rfl, rfl, rfl⟩ rfl rfl rfl dX11_load_15 ?_
    refine z_goto K 22 dX11_load_18 (by decide) ?_
    obtain rfl := Option.some.inj h
    exact z_iret K dX11_load_22
/-! GoingOver.bind (I)I -/
abbrev rmX11_bind : Room := { frames := 5, cells := 0, slots := 0, locals := 125 }
def pX11_bind (R : Rf) (T : Mm) (a0 : Nat) (x1 : Int32) : Option (Int32 × Mm) :=
  bd1 (pX3_hasJoin R T (R a0 11) x1) (fun (u1 : Int32) => if u1 = 0 then some ((-1), T) else bd2 (pX11_act R T a0 9 x1) (fun (u2 : Int32) (T2 : Mm) => some (u2, T2)))
set_option maxRecDepth 100000 in
set_option maxHeartbeats 4000000 in
theorem mX11_bind {g : Gl} {R : Rf} {T : Mm} {a0 : Nat} {x1 : Int32} (l : Launch) (hR : Ty g R) (k0 : kd g a0 = 11) {r : Int32 × Mm} (h : pX11_bind R T a0 x1 = some r) : MI l g yX11_bind cX11_bind 2 (some .int) rmX11_bind [.ref (g.2.2.1 a0), .int x1] R T r.1 R r.2 := by
  refine z_metI (own := RX11) (lv := [some (.ref (g.2.2.1 a0)), some (.int x1)]) (by decide +kernel) rfl rfl rfl (fun X K => ?_)
  unfold pX11_bind at h
  refine z_aload_n K dX11_bind_0 rfl ?_
  refine z_getR K clX11 k0 11 rfl rfl q511 dX11_bind_1 ?_
  refine z_iload_n K dX11_bind_4 rfl ?_
  obtain ⟨u1, hc, h⟩ := bd1_e h
  refine z_callVI K (mX3_hasJoin l hR (hR.at (k := 11) (t := 3) k0 rfl rfl) hc) clX3 (hR.at (k := 11) (t := 3) k0 rfl rfl) ceX3_hasJoin q762 ⟨rfl, rfl, rfl, rfl⟩ rfl rfl rfl dX11_bind_5 ?_
  refine z_if_eq K 21 dX11_bind_8 (by decide) (fun c => ?_) (fun c => ?_)
  · have h := ite_t h c
    refine z_iconst K (-1) dX11_bind_21 rfl ?_
    obtain rfl := Option.some.inj h
    exact z_iret K dX11_bind_22
  · have h := ite_f h c
    refine z_aload_n K dX11_bind_11 rfl ?_
    refine z_bipush K 9 dX11_bind_12 rfl ?_
    refine z_iload_n K dX11_bind_14 rfl ?_
    obtain ⟨u2, T2, hc, h⟩ := bd2_e h
    refine z_callVI K (mX11_act l hR k0 hc) clX11 k0 ceX11_act q790 ⟨rfl, rfl, rfl, rfl⟩ rfl rfl rfl dX11_bind_15 ?_
    refine z_goto K 22 dX11_bind_18 (by decide) ?_
    obtain rfl := Option.some.inj h
    exact z_iret K dX11_bind_22
/-! GoingOver.days (I)I -/
abbrev rmX11_days : Room := { frames := 3, cells := 0, slots := 0, locals := 102 }
def pX11_days_49 (R : Rf) (a0 : Nat) (x1 : Int32) (e84 : Mm → Int32 → Option (Int32 × Mm)) (r49 : Mm → Int32 → Int32 → Option (Int32 × Mm)) (T : Mm) (x2 : Int32) (x3 : Int32) : Option (Int32 × Mm) :=
  if x1 ≤ x3 then e84 T x2 else if 400 ≤ (T.1 (R a0 1) 0) then e84 T x2 else bd1 (pX1_passDay R T (R a0 1) (R a0 11)) (fun (T3 : Mm) => lt (x3 + 1) (fun (v4 : Int32) => r49 T3 x2 v4))
def pX11_days_84 (R : Rf) (a0 : Nat) (x1 : Int32) (T : Mm) (x2 : Int32) : Option (Int32 × Mm) :=
  some ((T.1 (R a0 1) 0) - x2, T)
def pX11_days (R : Rf) (T : Mm) (a0 : Nat) (x1 : Int32) : Option (Int32 × Mm) :=
  if x1 < 1 then some ((-1), T) else if x1 ≤ 60 then if (T.1 (R a0 1) 0) < 400 then bd1 (pX7_push R T (R a0 3) (R a0 1)) (fun (T1 : Mm) => lt (T1.1 (R a0 1) 0) (fun (v2 : Int32) => zl3 (pX11_days_49 R a0 x1 (pX11_days_84 R a0 x1)) FU T1 v2 0)) else some (0, T) else some ((-1), T)
set_option maxRecDepth 100000 in
set_option maxHeartbeats 4000000 in
theorem wX11_days_49 {X : Cx} {g : Gl} {l : Launch} {R : Rf} {a0 : Nat} {x1 : Int32} (K : Ok X g l cX11_days RX11 4 (some .int) rmX11_days) (hR : Ty g R) (k0 : kd g a0 = 11) {r : Int32 × Mm} {e84 : Mm → Int32 → Option (Int32 × Mm)} (he84 : ∀ (T : Mm) (x2 : Int32), e84 T x2 = some r → Zj X g 4 (QI X g r.1 R r.2) R T [some (.ref (g.2.2.1 a0)), none, some (.int x2), none] [] 84) : ∀ (n : Nat) (T : Mm) (x2 : Int32) (x3 : Int32), zl3 (pX11_days_49 R a0 x1 e84) n T x2 x3 = some r → Zj X g 4 (QI X g r.1 R r.2) R T [some (.ref (g.2.2.1 a0)), some (.int x1), some (.int x2), some (.int x3)] [] 49 := by
  intro n
  induction n with
  | zero =>
    intro T x2 x3 h
    exact absurd h (by simp [zl3])
  | succ n hr49 =>
    intro T x2 x3 h
    rw [zl3_s] at h
    unfold pX11_days_49 at h
    refine z_iload_n K dX11_days_49 rfl ?_
    refine z_iload_n K dX11_days_50 rfl ?_
    refine z_icmp_ge K 84 dX11_days_51 (by decide) (fun c => ?_) (fun c => ?_)
    · have h := ite_t h c
      refine Zj.mask [true, false, true, false] ?_
      exact he84 _ _ h
    · have h := ite_f h c
      refine z_aload_n K dX11_days_54 rfl ?_
      refine z_getR K clX11 k0 1 rfl rfl q501 dX11_days_55 ?_
      refine z_getI K clX1 (hR.at (k := 1) (t := 1) k0 rfl rfl) 0 rfl rfl q335 dX11_days_58 ?_
      refine z_sipush K 400 dX11_days_61 rfl ?_
      refine z_icmp_ge K 84 dX11_days_64 (by decide) (fun c => ?_) (fun c => ?_)
      · have h := ite_t h c
        refine Zj.mask [true, false, true, false] ?_
        exact he84 _ _ h
      · have h := ite_f h c
        refine z_aload_n K dX11_days_67 rfl ?_
        refine z_getR K clX11 k0 1 rfl rfl q501 dX11_days_68 ?_
        refine z_aload_n K dX11_days_71 rfl ?_
        refine z_getR K clX11 k0 11 rfl rfl q511 dX11_days_72 ?_
        obtain ⟨T3, hc, h⟩ := bd1_e h
        refine z_callVV K (mX1_passDay l hR (hR.at (k := 1) (t := 1) k0 rfl rfl) (hR.at (k := 11) (t := 3) k0 rfl rfl) hc) clX1 (hR.at (k := 1) (t := 1) k0 rfl rfl) ceX1_passDay q863 ⟨rfl, rfl, rfl, rfl⟩ rfl rfl rfl dX11_days_75 ?_
        refine z_iinc K 1 dX11_days_78 rfl rfl rfl rfl ?_
        refine z_goto K 49 dX11_days_81 (by decide) ?_
        refine Zj.mask [true, true, true, true] ?_
        exact hr49 _ _ _ h
set_option maxRecDepth 100000 in
set_option maxHeartbeats 4000000 in
theorem wX11_days_84 {X : Cx} {g : Gl} {l : Launch} {R : Rf} {a0 : Nat} {x1 : Int32} (K : Ok X g l cX11_days RX11 4 (some .int) rmX11_days) (hR : Ty g R) (k0 : kd g a0 = 11) {r : Int32 × Mm} (T : Mm) (x2 : Int32) (h : pX11_days_84 R a0 x1 T x2 = some r) : Zj X g 4 (QI X g r.1 R r.2) R T [some (.ref (g.2.2.1 a0)), none, some (.int x2), none] [] 84 := by
  unfold pX11_days_84 at h
  refine z_aload_n K dX11_days_84 rfl ?_
  refine z_getR K clX11 k0 1 rfl rfl q501 dX11_days_85 ?_
  refine z_getI K clX1 (hR.at (k := 1) (t := 1) k0 rfl rfl) 0 rfl rfl q335 dX11_days_88 ?_
  refine z_iload_n K dX11_days_91 rfl ?_
  refine z_isub K dX11_days_92 ?_
  obtain rfl := Option.some.inj h
  exact z_iret K dX11_days_93
set_option maxRecDepth 100000 in
set_option maxHeartbeats 4000000 in
theorem mX11_days {g : Gl} {R : Rf} {T : Mm} {a0 : Nat} {x1 : Int32} (l : Launch) (hR : Ty g R) (k0 : kd g a0 = 11) {r : Int32 × Mm} (h : pX11_days R T a0 x1 = some r) : MI l g yX11_days cX11_days 4 (some .int) rmX11_days [.ref (g.2.2.1 a0), .int x1] R T r.1 R r.2 := by
  refine z_metI (own := RX11) (lv := [some (.ref (g.2.2.1 a0)), some (.int x1), none, none]) (by decide +kernel) rfl rfl rfl (fun X K => ?_)
  unfold pX11_days at h
  refine z_iload_n K dX11_days_0 rfl ?_
  refine z_iconst K 1 dX11_days_1 rfl ?_
  refine z_icmp_lt K 11 dX11_days_2 (by decide) (fun c => ?_) (fun c => ?_)
  · have h := ite_t h c
    refine z_iconst K (-1) dX11_days_11 rfl ?_
    obtain rfl := Option.some.inj h
    exact z_iret K dX11_days_12
  · have h := ite_f h c
    refine z_iload_n K dX11_days_5 rfl ?_
    refine z_bipush K 60 dX11_days_6 rfl ?_
    refine z_icmp_le K 13 dX11_days_8 (by decide) (fun c => ?_) (fun c => ?_)
    · have h := ite_t h c
      refine z_aload_n K dX11_days_13 rfl ?_
      refine z_getR K clX11 k0 1 rfl rfl q501 dX11_days_14 ?_
      refine z_getI K clX1 (hR.at (k := 1) (t := 1) k0 rfl rfl) 0 rfl rfl q335 dX11_days_17 ?_
      refine z_sipush K 400 dX11_days_20 rfl ?_
      refine z_icmp_lt K 28 dX11_days_23 (by decide) (fun c => ?_) (fun c => ?_)
      · have h := ite_t h c
        refine z_aload_n K dX11_days_28 rfl ?_
        refine z_getR K clX11 k0 3 rfl rfl q503 dX11_days_29 ?_
        refine z_aload_n K dX11_days_32 rfl ?_
        refine z_getR K clX11 k0 1 rfl rfl q501 dX11_days_33 ?_
        obtain ⟨T1, hc, h⟩ := bd1_e h
        refine z_callVV K (mX7_push l hR (hR.at (k := 3) (t := 7) k0 rfl rfl) (hR.at (k := 1) (t := 1) k0 rfl rfl) hc) clX7 (hR.at (k := 3) (t := 7) k0 rfl rfl) ceX7_push q838 ⟨rfl, rfl, rfl, rfl⟩ rfl rfl rfl dX11_days_36 ?_
        refine z_aload_n K dX11_days_39 rfl ?_
        refine z_getR K clX11 k0 1 rfl rfl q501 dX11_days_40 ?_
        refine z_getI K clX1 (hR.at (k := 1) (t := 1) k0 rfl rfl) 0 rfl rfl q335 dX11_days_43 ?_
        refine z_istore_n K dX11_days_46 rfl rfl ?_
        refine z_iconst K 0 dX11_days_47 rfl ?_
        refine z_istore_n K dX11_days_48 rfl rfl ?_
        refine Zj.mask [true, true, true, true] ?_
        exact wX11_days_49 K hR k0 (wX11_days_84 K hR k0) FU _ _ _ h
      · have h := ite_f h c
        refine z_iconst K 0 dX11_days_26 rfl ?_
        obtain rfl := Option.some.inj h
        exact z_iret K dX11_days_27
    · have h := ite_f h c
      refine z_iconst K (-1) dX11_days_11 rfl ?_
      obtain rfl := Option.some.inj h
      exact z_iret K dX11_days_12
