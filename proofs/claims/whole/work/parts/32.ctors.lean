def sgX0 (cy : Nat → ClassId) (q : Nat) (r : Nat → Nat) : va_W := [(q, .inr (0, [.int 0, .int 0, .ref (r 0), .ref (r 1)])), (r 0, .inl (cy 1, 40, .inl (fun _ => 0))), (r 1, .inl (cy 1, 40, .inl (fun _ => 0)))]
abbrev fsX0 : List Value := [.int 0, .int 0, .null, .null]
abbrev rmX0_init : Room := { frames := 1, cells := 2, slots := 80, locals := 20 }
set_option maxRecDepth 100000 in
set_option maxHeartbeats 4000000 in
theorem ctX0 {zz : (Nat → Nat) × (Nat → Nat) × Nat} {l : Launch} {D : va_G} {cy : Nat → ClassId} : CT zz l D cy yX0_init cX0_init 1 rmX0_init 0 fsX0 (fun _ => True) (sgX0 cy) := by
  refine y_ct (own := RX0) (by decide +kernel) rfl rfl rfl (fun X A q K => ?_)
  refine y_aload_n K dX0_init_0 rfl ?_
  refine y_objInit K p385 p135 p136 dX0_init_1 (by decide) (by decide) ?_
  refine y_aload_n K dX0_init_4 rfl ?_
  refine y_bipush K 40 dX0_init_5 rfl ?_
  refine y_newa K 1 (40, .inl (fun _ => 0)) p236 rfl rfl (fun _ => rfl) (by decide) rfl (by decide) (by decide) (by decide) dX0_init_7 (fun q1 => ?_)
  refine y_putF K clX0 tyX0_ok nmX0 0 rfl 2 rfl p389 rfl rfl rfl rfl rfl dX0_init_9 ?_
  refine y_aload_n K dX0_init_12 rfl ?_
  refine y_bipush K 40 dX0_init_13 rfl ?_
  refine y_newa K 1 (40, .inl (fun _ => 0)) p236 rfl rfl (fun _ => rfl) (by decide) rfl (by decide) (by decide) (by decide) dX0_init_15 (fun q2 => ?_)
  refine y_putF K clX0 tyX0_ok nmX0 0 rfl 3 rfl p390 rfl rfl rfl rfl rfl dX0_init_17 ?_
  exact y_vret K (fun i => [q1, q2].getD i 0) trivial rfl dX0_init_20
def sgX1 (cy : Nat → ClassId) (q : Nat) (r : Nat → Nat) : va_W := [(q, .inr (1, [.int 0, .int 0, .int 0, .int 0, .ref (r 0)])), (r 0, .inl (cy 1, 5, .inl (fun _ => 0)))]
abbrev fsX1 : List Value := [.int 0, .int 0, .int 0, .int 0, .null]
abbrev rmX1_init : Room := { frames := 1, cells := 1, slots := 5, locals := 20 }
set_option maxRecDepth 100000 in
set_option maxHeartbeats 4000000 in
theorem ctX1 {zz : (Nat → Nat) × (Nat → Nat) × Nat} {l : Launch} {D : va_G} {cy : Nat → ClassId} : CT zz l D cy yX1_init cX1_init 1 rmX1_init 1 fsX1 (fun _ => True) (sgX1 cy) := by
  refine y_ct (own := RX1) (by decide +kernel) rfl rfl rfl (fun X A q K => ?_)
  refine y_aload_n K dX1_init_0 rfl ?_
  refine y_objInit K p331 p135 p136 dX1_init_1 (by decide) (by decide) ?_
  refine y_aload_n K dX1_init_4 rfl ?_
  refine y_iconst K 5 dX1_init_5 rfl ?_
  refine y_newa K 1 (5, .inl (fun _ => 0)) p236 rfl rfl (fun _ => rfl) (by decide) rfl (by decide) (by decide) (by decide) dX1_init_6 (fun q1 => ?_)
  refine y_putF K clX1 tyX1_ok nmX1 0 rfl 4 rfl p346 rfl rfl rfl rfl rfl dX1_init_8 ?_
  exact y_vret K (fun i => [q1].getD i 0) trivial rfl dX1_init_11
def sgX2 (cy : Nat → ClassId) (q : Nat) (r : Nat → Nat) : va_W := [(q, .inr (2, [.int 0]))]
abbrev fsX2 : List Value := [.int 0]
abbrev rmX2_init : Room := { frames := 1, cells := 0, slots := 0, locals := 20 }
set_option maxRecDepth 100000 in
set_option maxHeartbeats 4000000 in
theorem ctX2 {zz : (Nat → Nat) × (Nat → Nat) × Nat} {l : Launch} {D : va_G} {cy : Nat → ClassId} : CT zz l D cy yX2_init cX2_init 1 rmX2_init 2 fsX2 (fun _ => True) (sgX2 cy) := by
  refine y_ct (own := RX2) (by decide +kernel) rfl rfl rfl (fun X A q K => ?_)
  refine y_aload_n K dX2_init_0 rfl ?_
  refine y_objInit K p427 p135 p136 dX2_init_1 (by decide) (by decide) ?_
  exact y_vret K (fun i => [].getD i 0) trivial rfl dX2_init_4
def sgX3 (cy : Nat → ClassId) (q : Nat) (r : Nat → Nat) : va_W := [(q, .inr (3, [.int 0, .int 0, .int 0, .int 10, .int 20, .ref (r 0), .ref (r 1), .ref (r 2), .ref (r 3), .ref (r 4), .ref (r 5), .ref (r 6), .ref (r 7), .int 0, .int 0, .int 0])), (r 0, .inl (cy 1, 5, .inl (fun _ => 0))), (r 1, .inl (cy 2, 5, .inr (.inl (fun _ => 0)))), (r 2, .inl (cy 2, 10, .inr (.inl (fun _ => 0)))), (r 3, .inl (cy 1, 10, .inl (fun _ => 0))), (r 4, .inl (cy 1, 10, .inl (fun _ => 0))), (r 5, .inl (cy 1, 16, .inl (fun _ => 0))), (r 6, .inl (cy 1, 16, .inl (fun _ => 0))), (r 7, .inl (cy 1, 16, .inl (fun _ => 0)))]
abbrev fsX3 : List Value := [.int 0, .int 0, .int 0, .int 0, .int 0, .null, .null, .null, .null, .null, .null, .null, .null, .int 0, .int 0, .int 0]
abbrev rmX3_init : Room := { frames := 1, cells := 8, slots := 88, locals := 20 }
set_option maxRecDepth 100000 in
set_option maxHeartbeats 4000000 in
theorem ctX3 {zz : (Nat → Nat) × (Nat → Nat) × Nat} {l : Launch} {D : va_G} {cy : Nat → ClassId} : CT zz l D cy yX3_init cX3_init 1 rmX3_init 3 fsX3 (fun _ => True) (sgX3 cy) := by
  refine y_ct (own := RX3) (by decide +kernel) rfl rfl rfl (fun X A q K => ?_)
  refine y_aload_n K dX3_init_0 rfl ?_
  refine y_objInit K p244 p135 p136 dX3_init_1 (by decide) (by decide) ?_
  refine y_aload_n K dX3_init_4 rfl ?_
  refine y_bipush K 10 dX3_init_5 rfl ?_
  refine y_put K clX3 tyX3_ok nmX3 0 rfl 3 rfl p260 rfl rfl rfl rfl dX3_init_7 ?_
  refine y_aload_n K dX3_init_10 rfl ?_
  refine y_bipush K 20 dX3_init_11 rfl ?_
  refine y_put K clX3 tyX3_ok nmX3 0 rfl 4 rfl p264 rfl rfl rfl rfl dX3_init_13 ?_
  refine y_aload_n K dX3_init_16 rfl ?_
  refine y_iconst K 5 dX3_init_17 rfl ?_
  refine y_newa K 1 (5, .inl (fun _ => 0)) p236 rfl rfl (fun _ => rfl) (by decide) rfl (by decide) (by decide) (by decide) dX3_init_18 (fun q1 => ?_)
  refine y_putF K clX3 tyX3_ok nmX3 0 rfl 5 rfl p266 rfl rfl rfl rfl rfl dX3_init_20 ?_
  refine y_aload_n K dX3_init_23 rfl ?_
  refine y_iconst K 5 dX3_init_24 rfl ?_
  refine y_newa K 2 (5, .inr (.inl (fun _ => 0))) p237 rfl rfl (fun _ => rfl) (by decide) rfl (by decide) (by decide) (by decide) dX3_init_25 (fun q2 => ?_)
  refine y_putF K clX3 tyX3_ok nmX3 0 rfl 6 rfl p270 rfl rfl rfl rfl rfl dX3_init_27 ?_
  refine y_aload_n K dX3_init_30 rfl ?_
  refine y_bipush K 10 dX3_init_31 rfl ?_
  refine y_newa K 2 (10, .inr (.inl (fun _ => 0))) p237 rfl rfl (fun _ => rfl) (by decide) rfl (by decide) (by decide) (by decide) dX3_init_33 (fun q3 => ?_)
  refine y_putF K clX3 tyX3_ok nmX3 0 rfl 7 rfl p272 rfl rfl rfl rfl rfl dX3_init_35 ?_
  refine y_aload_n K dX3_init_38 rfl ?_
  refine y_bipush K 10 dX3_init_39 rfl ?_
  refine y_newa K 1 (10, .inl (fun _ => 0)) p236 rfl rfl (fun _ => rfl) (by decide) rfl (by decide) (by decide) (by decide) dX3_init_41 (fun q4 => ?_)
  refine y_putF K clX3 tyX3_ok nmX3 0 rfl 8 rfl p273 rfl rfl rfl rfl rfl dX3_init_43 ?_
  refine y_aload_n K dX3_init_46 rfl ?_
  refine y_bipush K 10 dX3_init_47 rfl ?_
  refine y_newa K 1 (10, .inl (fun _ => 0)) p236 rfl rfl (fun _ => rfl) (by decide) rfl (by decide) (by decide) (by decide) dX3_init_49 (fun q5 => ?_)
  refine y_putF K clX3 tyX3_ok nmX3 0 rfl 9 rfl p276 rfl rfl rfl rfl rfl dX3_init_51 ?_
  refine y_aload_n K dX3_init_54 rfl ?_
  refine y_bipush K 16 dX3_init_55 rfl ?_
  refine y_newa K 1 (16, .inl (fun _ => 0)) p236 rfl rfl (fun _ => rfl) (by decide) rfl (by decide) (by decide) (by decide) dX3_init_57 (fun q6 => ?_)
  refine y_putF K clX3 tyX3_ok nmX3 0 rfl 10 rfl p279 rfl rfl rfl rfl rfl dX3_init_59 ?_
  refine y_aload_n K dX3_init_62 rfl ?_
  refine y_bipush K 16 dX3_init_63 rfl ?_
  refine y_newa K 1 (16, .inl (fun _ => 0)) p236 rfl rfl (fun _ => rfl) (by decide) rfl (by decide) (by decide) (by decide) dX3_init_65 (fun q7 => ?_)
  refine y_putF K clX3 tyX3_ok nmX3 0 rfl 11 rfl p283 rfl rfl rfl rfl rfl dX3_init_67 ?_
  refine y_aload_n K dX3_init_70 rfl ?_
  refine y_bipush K 16 dX3_init_71 rfl ?_
  refine y_newa K 1 (16, .inl (fun _ => 0)) p236 rfl rfl (fun _ => rfl) (by decide) rfl (by decide) (by decide) (by decide) dX3_init_73 (fun q8 => ?_)
  refine y_putF K clX3 tyX3_ok nmX3 0 rfl 12 rfl p287 rfl rfl rfl rfl rfl dX3_init_75 ?_
  exact y_vret K (fun i => [q1, q2, q3, q4, q5, q6, q7, q8].getD i 0) trivial rfl dX3_init_78
def sgX6 (cy : Nat → ClassId) (q : Nat) (r : Nat → Nat) : va_W := [(q, .inr (6, [.ref (r 0)])), (r 0, .inl (cy 1, 10, .inl (fun _ => 0)))]
abbrev fsX6 : List Value := [.null]
abbrev rmX6_init : Room := { frames := 1, cells := 1, slots := 10, locals := 20 }
set_option maxRecDepth 100000 in
set_option maxHeartbeats 4000000 in
theorem ctX6 {zz : (Nat → Nat) × (Nat → Nat) × Nat} {l : Launch} {D : va_G} {cy : Nat → ClassId} : CT zz l D cy yX6_init cX6_init 1 rmX6_init 6 fsX6 (fun _ => True) (sgX6 cy) := by
  refine y_ct (own := RX6) (by decide +kernel) rfl rfl rfl (fun X A q K => ?_)
  refine y_aload_n K dX6_init_0 rfl ?_
  refine y_objInit K p405 p135 p136 dX6_init_1 (by decide) (by decide) ?_
  refine y_aload_n K dX6_init_4 rfl ?_
  refine y_bipush K 10 dX6_init_5 rfl ?_
  refine y_newa K 1 (10, .inl (fun _ => 0)) p236 rfl rfl (fun _ => rfl) (by decide) rfl (by decide) (by decide) (by decide) dX6_init_7 (fun q1 => ?_)
  refine y_putF K clX6 tyX6_ok nmX6 0 rfl 0 rfl p406 rfl rfl rfl rfl rfl dX6_init_9 ?_
  exact y_vret K (fun i => [q1].getD i 0) trivial rfl dX6_init_12
def sgX8 (cy : Nat → ClassId) (q : Nat) (r : Nat → Nat) : va_W := [(q, .inr (8, [.int 0, .int 0, .ref (r 0), .ref (r 1), .ref (r 2)])), (r 0, .inl (cy 1, 40, .inl (fun _ => 0))), (r 1, .inl (cy 1, 40, .inl (fun _ => 0))), (r 2, .inl (cy 1, 40, .inl (fun _ => 0)))]
abbrev fsX8 : List Value := [.int 0, .int 0, .null, .null, .null]
abbrev rmX8_init : Room := { frames := 1, cells := 3, slots := 120, locals := 20 }
set_option maxRecDepth 100000 in
set_option maxHeartbeats 4000000 in
theorem ctX8 {zz : (Nat → Nat) × (Nat → Nat) × Nat} {l : Launch} {D : va_G} {cy : Nat → ClassId} : CT zz l D cy yX8_init cX8_init 1 rmX8_init 8 fsX8 (fun _ => True) (sgX8 cy) := by
  refine y_ct (own := RX8) (by decide +kernel) rfl rfl rfl (fun X A q K => ?_)
  refine y_aload_n K dX8_init_0 rfl ?_
  refine y_objInit K p452 p135 p136 dX8_init_1 (by decide) (by decide) ?_
  refine y_aload_n K dX8_init_4 rfl ?_
  refine y_bipush K 40 dX8_init_5 rfl ?_
  refine y_newa K 1 (40, .inl (fun _ => 0)) p236 rfl rfl (fun _ => rfl) (by decide) rfl (by decide) (by decide) (by decide) dX8_init_7 (fun q1 => ?_)
  refine y_putF K clX8 tyX8_ok nmX8 0 rfl 2 rfl p457 rfl rfl rfl rfl rfl dX8_init_9 ?_
  refine y_aload_n K dX8_init_12 rfl ?_
  refine y_bipush K 40 dX8_init_13 rfl ?_
  refine y_newa K 1 (40, .inl (fun _ => 0)) p236 rfl rfl (fun _ => rfl) (by decide) rfl (by decide) (by decide) (by decide) dX8_init_15 (fun q2 => ?_)
  refine y_putF K clX8 tyX8_ok nmX8 0 rfl 3 rfl p458 rfl rfl rfl rfl rfl dX8_init_17 ?_
  refine y_aload_n K dX8_init_20 rfl ?_
  refine y_bipush K 40 dX8_init_21 rfl ?_
  refine y_newa K 1 (40, .inl (fun _ => 0)) p236 rfl rfl (fun _ => rfl) (by decide) rfl (by decide) (by decide) (by decide) dX8_init_23 (fun q3 => ?_)
  refine y_putF K clX8 tyX8_ok nmX8 0 rfl 4 rfl p459 rfl rfl rfl rfl rfl dX8_init_25 ?_
  exact y_vret K (fun i => [q1, q2, q3].getD i 0) trivial rfl dX8_init_28
def sgX9 (cy : Nat → ClassId) (q : Nat) (r : Nat → Nat) : va_W := [(q, .inr (9, [.ref (r 0), .int 0])), (r 0, .inl (cy 1, 16, .inl (fun _ => 0)))]
abbrev fsX9 : List Value := [.null, .int 0]
abbrev rmX9_init : Room := { frames := 1, cells := 1, slots := 16, locals := 20 }
set_option maxRecDepth 100000 in
set_option maxHeartbeats 4000000 in
theorem ctX9 {zz : (Nat → Nat) × (Nat → Nat) × Nat} {l : Launch} {D : va_G} {cy : Nat → ClassId} : CT zz l D cy yX9_init cX9_init 1 rmX9_init 9 fsX9 (fun _ => True) (sgX9 cy) := by
  refine y_ct (own := RX9) (by decide +kernel) rfl rfl rfl (fun X A q K => ?_)
  refine y_aload_n K dX9_init_0 rfl ?_
  refine y_objInit K p437 p135 p136 dX9_init_1 (by decide) (by decide) ?_
  refine y_aload_n K dX9_init_4 rfl ?_
  refine y_bipush K 16 dX9_init_5 rfl ?_
  refine y_newa K 1 (16, .inl (fun _ => 0)) p236 rfl rfl (fun _ => rfl) (by decide) rfl (by decide) (by decide) (by decide) dX9_init_7 (fun q1 => ?_)
  refine y_putF K clX9 tyX9_ok nmX9 0 rfl 0 rfl p438 rfl rfl rfl rfl rfl dX9_init_9 ?_
  exact y_vret K (fun i => [q1].getD i 0) trivial rfl dX9_init_12
theorem hfX0 : ∀ j, j < 4 → defaultValue (tyX0 j) = vp_V fsX0 j := fun j hj => match j, hj with
  | 0, _ => rfl
  | 1, _ => rfl
  | 2, _ => rfl
  | 3, _ => rfl
  | j + 4, h => absurd h (by omega)
theorem hfX1 : ∀ j, j < 5 → defaultValue (tyX1 j) = vp_V fsX1 j := fun j hj => match j, hj with
  | 0, _ => rfl
  | 1, _ => rfl
  | 2, _ => rfl
  | 3, _ => rfl
  | 4, _ => rfl
  | j + 5, h => absurd h (by omega)
theorem hfX2 : ∀ j, j < 1 → defaultValue (tyX2 j) = vp_V fsX2 j := fun j hj => match j, hj with
  | 0, _ => rfl
  | j + 1, h => absurd h (by omega)
theorem hfX3 : ∀ j, j < 16 → defaultValue (tyX3 j) = vp_V fsX3 j := fun j hj => match j, hj with
  | 0, _ => rfl
  | 1, _ => rfl
  | 2, _ => rfl
  | 3, _ => rfl
  | 4, _ => rfl
  | 5, _ => rfl
  | 6, _ => rfl
  | 7, _ => rfl
  | 8, _ => rfl
  | 9, _ => rfl
  | 10, _ => rfl
  | 11, _ => rfl
  | 12, _ => rfl
  | 13, _ => rfl
  | 14, _ => rfl
  | 15, _ => rfl
  | j + 16, h => absurd h (by omega)
theorem hfX6 : ∀ j, j < 1 → defaultValue (tyX6 j) = vp_V fsX6 j := fun j hj => match j, hj with
  | 0, _ => rfl
  | j + 1, h => absurd h (by omega)
theorem hfX8 : ∀ j, j < 5 → defaultValue (tyX8 j) = vp_V fsX8 j := fun j hj => match j, hj with
  | 0, _ => rfl
  | 1, _ => rfl
  | 2, _ => rfl
  | 3, _ => rfl
  | 4, _ => rfl
  | j + 5, h => absurd h (by omega)
theorem hfX9 : ∀ j, j < 2 → defaultValue (tyX9 j) = vp_V fsX9 j := fun j hj => match j, hj with
  | 0, _ => rfl
  | 1, _ => rfl
  | j + 2, h => absurd h (by omega)
def sgX4 (cy : Nat → ClassId) (q : Nat) (r : Nat → Nat) : va_W := [(q, .inr (4, [.ref (r 0)])), (r 0, .inl (cy 6, 5, .inr (.inr (.inr (.inr (fun i => if i < 5 then some (r (i + 1)) else none)))))), (r 1, .inl (cy 1, 31, .inl (fun _ => 0))), (r 2, .inl (cy 1, 31, .inl (fun _ => 0))), (r 3, .inl (cy 1, 31, .inl (fun _ => 0))), (r 4, .inl (cy 1, 31, .inl (fun _ => 0))), (r 5, .inl (cy 1, 31, .inl (fun _ => 0)))]
abbrev fsX4 : List Value := [.null]
abbrev rmX4_init : Room := { frames := 1, cells := 6, slots := 160, locals := 20 }
set_option maxRecDepth 100000 in
set_option maxHeartbeats 4000000 in
theorem ctX4 {zz : (Nat → Nat) × (Nat → Nat) × Nat} {l : Launch} {D : va_G} {cy : Nat → ClassId} : CT zz l D cy yX4_init cX4_init 1 rmX4_init 4 fsX4 (fun _ => True) (sgX4 cy) := by
  refine y_ct (own := RX4) (by decide +kernel) rfl rfl rfl (fun X A q K => ?_)
  refine y_aload_n K dX4_init_0 rfl ?_
  refine y_objInit K p415 p135 p136 dX4_init_1 (by decide) (by decide) ?_
  refine y_aload_n K dX4_init_4 rfl ?_
  refine y_iconst K 5 dX4_init_5 rfl ?_
  refine y_bipush K 31 dX4_init_6 rfl ?_
  refine y_mna K p416 p236 (by decide) (by decide) dX4_init_8 (fun q1 r1 => ?_)
  refine y_putF K clX4 tyX4_ok nmX4 0 rfl 0 rfl p418 rfl rfl rfl rfl rfl dX4_init_12 ?_
  obtain ⟨r, hr⟩ : ∃ r : Nat → Nat, r = fun i => if i = 0 then q1 else r1 (i - 1) := ⟨_, rfl⟩
  have hr0 : q1 = r 0 := by rw [hr]; rfl
  have hr1 : r1 = fun i => r (i + 1) := by rw [hr]; rfl
  subst hr0
  subst hr1
  exact y_vret K r trivial rfl dX4_init_15
theorem hfX4 : ∀ j, j < 1 → defaultValue (tyX4 j) = vp_V fsX4 j := fun j hj => match j, hj with
  | 0, _ => rfl
  | j + 1, h => absurd h (by omega)
def sgX5 (cy : Nat → ClassId) (q : Nat) (r : Nat → Nat) : va_W := [(q, .inr (5, [.int 0, .ref (r 0), .ref (r 9), .ref (r 11)]))] ++ sgX3 cy (r 0) (fun i => r (i + 1)) ++ sgX1 cy (r 9) (fun i => r (i + 10)) ++ sgX8 cy (r 11) (fun i => r (i + 12))
abbrev fsX5 : List Value := [.int 0, .null, .null, .null]
abbrev rmX5_init : Room := { frames := 2, cells := 15, slots := 239, locals := 60 }
set_option maxRecDepth 100000 in
set_option maxHeartbeats 4000000 in
theorem ctX5 {zz : (Nat → Nat) × (Nat → Nat) × Nat} {l : Launch} {D : va_G} {cy : Nat → ClassId} : CT zz l D cy yX5_init cX5_init 1 rmX5_init 5 fsX5 (fun _ => True) (sgX5 cy) := by
  refine y_ct (own := RX5) (by decide +kernel) rfl rfl rfl (fun X A q K => ?_)
  refine y_aload_n K dX5_init_0 rfl ?_
  refine y_objInit K p477 p135 p136 dX5_init_1 (by decide) (by decide) ?_
  refine y_aload_n K dX5_init_4 rfl ?_
  refine y_mkN K ctX3 clX3 tyX3_ok hfX3 p478 p240 p111 rfl rfl p242 p243 (K.nest 10 rfl) (by decide +kernel) (by decide) (by decide) (by decide) rfl dX5_init_5 dX5_init_8 dX5_init_9 (fun q1 r1 hr1 => ?_)
  refine y_putF K clX5 tyX5_ok nmX5 0 rfl 1 rfl p485 rfl rfl rfl rfl rfl dX5_init_12 ?_
  refine y_aload_n K dX5_init_15 rfl ?_
  refine y_mkN K ctX1 clX1 tyX1_ok hfX1 p480 p327 p112 rfl rfl p329 p330 (K.nest 11 rfl) (by decide +kernel) (by decide) (by decide) (by decide) rfl dX5_init_16 dX5_init_19 dX5_init_20 (fun q2 r2 hr2 => ?_)
  refine y_putF K clX5 tyX5_ok nmX5 0 rfl 2 rfl p487 rfl rfl rfl rfl rfl dX5_init_23 ?_
  refine y_aload_n K dX5_init_26 rfl ?_
  refine y_mkN K ctX8 clX8 tyX8_ok hfX8 p482 p448 p119 rfl rfl p450 p451 (K.nest 12 rfl) (by decide +kernel) (by decide) (by decide) (by decide) rfl dX5_init_27 dX5_init_30 dX5_init_31 (fun q3 r3 hr3 => ?_)
  refine y_putF K clX5 tyX5_ok nmX5 0 rfl 3 rfl p489 rfl rfl rfl rfl rfl dX5_init_34 ?_
  exact y_vret K (fun i => [q1, r1 0, r1 1, r1 2, r1 3, r1 4, r1 5, r1 6, r1 7, q2, r2 0, q3, r3 0, r3 1, r3 2].getD i 0) trivial rfl dX5_init_37
theorem hfX5 : ∀ j, j < 4 → defaultValue (tyX5 j) = vp_V fsX5 j := fun j hj => match j, hj with
  | 0, _ => rfl
  | 1, _ => rfl
  | 2, _ => rfl
  | 3, _ => rfl
  | j + 4, h => absurd h (by omega)
def sgX7 (cy : Nat → ClassId) (q : Nat) (r : Nat → Nat) : va_W := [(q, .inr (7, [.int 0, .int 0, .ref (r 0)])), (r 0, .inl (cy 4, 8, .inr (.inr (.inr (.inr (va_up (va_up (va_up (va_up (va_up (va_up (va_up (va_up (fun _ => none) (nI 0).toNatClampNeg (some (r 1))) (nI 1).toNatClampNeg (some (r 3))) (nI 2).toNatClampNeg (some (r 5))) (nI 3).toNatClampNeg (some (r 7))) (nI 4).toNatClampNeg (some (r 9))) (nI 5).toNatClampNeg (some (r 11))) (nI 6).toNatClampNeg (some (r 13))) (nI 7).toNatClampNeg (some (r 15))))))))] ++ sgX1 cy (r 1) (fun i => r (i + 2)) ++ sgX1 cy (r 3) (fun i => r (i + 4)) ++ sgX1 cy (r 5) (fun i => r (i + 6)) ++ sgX1 cy (r 7) (fun i => r (i + 8)) ++ sgX1 cy (r 9) (fun i => r (i + 10)) ++ sgX1 cy (r 11) (fun i => r (i + 12)) ++ sgX1 cy (r 13) (fun i => r (i + 14)) ++ sgX1 cy (r 15) (fun i => r (i + 16))
abbrev fsX7 : List Value := [.int 0, .int 0, .null]
abbrev rmX7_init : Room := { frames := 2, cells := 17, slots := 88, locals := 60 }
set_option maxRecDepth 100000 in
set_option maxHeartbeats 4000000 in
theorem ctX7 {zz : (Nat → Nat) × (Nat → Nat) × Nat} {l : Launch} {D : va_G} {cy : Nat → ClassId} : CT zz l D cy yX7_init cX7_init 2 rmX7_init 7 fsX7 (fun _ => True) (sgX7 cy) := by
  refine y_ct (own := RX7) (by decide +kernel) rfl rfl rfl (fun X A q K => ?_)
  refine y_aload_n K dX7_init_0 rfl ?_
  refine y_objInit K p365 p135 p136 dX7_init_1 (by decide) (by decide) ?_
  refine y_aload_n K dX7_init_4 rfl ?_
  refine y_bipush K 8 dX7_init_5 rfl ?_
  refine y_newq K 4 (C := RX1) p366 K.aoC rfl (by decide) rfl (by decide) (by decide) (by decide) dX7_init_7 (fun q0 => ?_)
  refine y_putF K clX7 tyX7_ok nmX7 0 rfl 2 rfl p372 rfl rfl rfl rfl rfl dX7_init_10 ?_
  refine y_iconst K 0 dX7_init_13 rfl ?_
  refine y_istore_n K dX7_init_14 rfl rfl ?_
  refine y_iload_n K dX7_init_15 rfl ?_
  refine y_bipush K 8 dX7_init_16 rfl ?_
  refine y_geF K 40 dX7_init_18 (by decide) (by decide) ?_
  refine y_aload_n K dX7_init_21 rfl ?_
  refine y_get K clX7 0 rfl 2 rfl p372 rfl dX7_init_22 ?_
  refine y_iload_n K dX7_init_25 rfl ?_
  refine y_mkN K ctX1 clX1 tyX1_ok hfX1 p366 p327 p112 rfl rfl p329 p330 (K.nest 2 rfl) (by decide +kernel) (by decide) (by decide) (by decide) rfl dX7_init_26 dX7_init_29 dX7_init_30 (fun c0 s0 hs0 => ?_)
  refine y_aast K clX1 1 4 2 rfl rfl rfl (vp_in_nI (n := 0) (by decide) (by decide)) dX7_init_33 ?_
  refine y_iinc K 1 dX7_init_34 rfl (by decide) rfl rfl ?_
  refine y_goto K 15 dX7_init_37 (by decide) ?_
  refine y_iload_n K dX7_init_15 rfl ?_
  refine y_bipush K 8 dX7_init_16 rfl ?_
  refine y_geF K 40 dX7_init_18 (by decide) (by decide) ?_
  refine y_aload_n K dX7_init_21 rfl ?_
  refine y_get K clX7 0 rfl 2 rfl p372 rfl dX7_init_22 ?_
  refine y_iload_n K dX7_init_25 rfl ?_
  refine y_mkN K ctX1 clX1 tyX1_ok hfX1 p366 p327 p112 rfl rfl p329 p330 (K.nest 2 rfl) (by decide +kernel) (by decide) (by decide) (by decide) rfl dX7_init_26 dX7_init_29 dX7_init_30 (fun c1 s1 hs1 => ?_)
  refine y_aast K clX1 1 4 4 rfl rfl rfl (vp_in_nI (n := 1) (by decide) (by decide)) dX7_init_33 ?_
  refine y_iinc K 2 dX7_init_34 rfl (by decide) rfl rfl ?_
  refine y_goto K 15 dX7_init_37 (by decide) ?_
  refine y_iload_n K dX7_init_15 rfl ?_
  refine y_bipush K 8 dX7_init_16 rfl ?_
  refine y_geF K 40 dX7_init_18 (by decide) (by decide) ?_
  refine y_aload_n K dX7_init_21 rfl ?_
  refine y_get K clX7 0 rfl 2 rfl p372 rfl dX7_init_22 ?_
  refine y_iload_n K dX7_init_25 rfl ?_
  refine y_mkN K ctX1 clX1 tyX1_ok hfX1 p366 p327 p112 rfl rfl p329 p330 (K.nest 2 rfl) (by decide +kernel) (by decide) (by decide) (by decide) rfl dX7_init_26 dX7_init_29 dX7_init_30 (fun c2 s2 hs2 => ?_)
  refine y_aast K clX1 1 4 6 rfl rfl rfl (vp_in_nI (n := 2) (by decide) (by decide)) dX7_init_33 ?_
  refine y_iinc K 3 dX7_init_34 rfl (by decide) rfl rfl ?_
  refine y_goto K 15 dX7_init_37 (by decide) ?_
  refine y_iload_n K dX7_init_15 rfl ?_
  refine y_bipush K 8 dX7_init_16 rfl ?_
  refine y_geF K 40 dX7_init_18 (by decide) (by decide) ?_
  refine y_aload_n K dX7_init_21 rfl ?_
  refine y_get K clX7 0 rfl 2 rfl p372 rfl dX7_init_22 ?_
  refine y_iload_n K dX7_init_25 rfl ?_
  refine y_mkN K ctX1 clX1 tyX1_ok hfX1 p366 p327 p112 rfl rfl p329 p330 (K.nest 2 rfl) (by decide +kernel) (by decide) (by decide) (by decide) rfl dX7_init_26 dX7_init_29 dX7_init_30 (fun c3 s3 hs3 => ?_)
  refine y_aast K clX1 1 4 8 rfl rfl rfl (vp_in_nI (n := 3) (by decide) (by decide)) dX7_init_33 ?_
  refine y_iinc K 4 dX7_init_34 rfl (by decide) rfl rfl ?_
  refine y_goto K 15 dX7_init_37 (by decide) ?_
  refine y_iload_n K dX7_init_15 rfl ?_
  refine y_bipush K 8 dX7_init_16 rfl ?_
  refine y_geF K 40 dX7_init_18 (by decide) (by decide) ?_
  refine y_aload_n K dX7_init_21 rfl ?_
  refine y_get K clX7 0 rfl 2 rfl p372 rfl dX7_init_22 ?_
  refine y_iload_n K dX7_init_25 rfl ?_
  refine y_mkN K ctX1 clX1 tyX1_ok hfX1 p366 p327 p112 rfl rfl p329 p330 (K.nest 2 rfl) (by decide +kernel) (by decide) (by decide) (by decide) rfl dX7_init_26 dX7_init_29 dX7_init_30 (fun c4 s4 hs4 => ?_)
  refine y_aast K clX1 1 4 10 rfl rfl rfl (vp_in_nI (n := 4) (by decide) (by decide)) dX7_init_33 ?_
  refine y_iinc K 5 dX7_init_34 rfl (by decide) rfl rfl ?_
  refine y_goto K 15 dX7_init_37 (by decide) ?_
  refine y_iload_n K dX7_init_15 rfl ?_
  refine y_bipush K 8 dX7_init_16 rfl ?_
  refine y_geF K 40 dX7_init_18 (by decide) (by decide) ?_
  refine y_aload_n K dX7_init_21 rfl ?_
  refine y_get K clX7 0 rfl 2 rfl p372 rfl dX7_init_22 ?_
  refine y_iload_n K dX7_init_25 rfl ?_
  refine y_mkN K ctX1 clX1 tyX1_ok hfX1 p366 p327 p112 rfl rfl p329 p330 (K.nest 2 rfl) (by decide +kernel) (by decide) (by decide) (by decide) rfl dX7_init_26 dX7_init_29 dX7_init_30 (fun c5 s5 hs5 => ?_)
  refine y_aast K clX1 1 4 12 rfl rfl rfl (vp_in_nI (n := 5) (by decide) (by decide)) dX7_init_33 ?_
  refine y_iinc K 6 dX7_init_34 rfl (by decide) rfl rfl ?_
  refine y_goto K 15 dX7_init_37 (by decide) ?_
  refine y_iload_n K dX7_init_15 rfl ?_
  refine y_bipush K 8 dX7_init_16 rfl ?_
  refine y_geF K 40 dX7_init_18 (by decide) (by decide) ?_
  refine y_aload_n K dX7_init_21 rfl ?_
  refine y_get K clX7 0 rfl 2 rfl p372 rfl dX7_init_22 ?_
  refine y_iload_n K dX7_init_25 rfl ?_
  refine y_mkN K ctX1 clX1 tyX1_ok hfX1 p366 p327 p112 rfl rfl p329 p330 (K.nest 2 rfl) (by decide +kernel) (by decide) (by decide) (by decide) rfl dX7_init_26 dX7_init_29 dX7_init_30 (fun c6 s6 hs6 => ?_)
  refine y_aast K clX1 1 4 14 rfl rfl rfl (vp_in_nI (n := 6) (by decide) (by decide)) dX7_init_33 ?_
  refine y_iinc K 7 dX7_init_34 rfl (by decide) rfl rfl ?_
  refine y_goto K 15 dX7_init_37 (by decide) ?_
  refine y_iload_n K dX7_init_15 rfl ?_
  refine y_bipush K 8 dX7_init_16 rfl ?_
  refine y_geF K 40 dX7_init_18 (by decide) (by decide) ?_
  refine y_aload_n K dX7_init_21 rfl ?_
  refine y_get K clX7 0 rfl 2 rfl p372 rfl dX7_init_22 ?_
  refine y_iload_n K dX7_init_25 rfl ?_
  refine y_mkN K ctX1 clX1 tyX1_ok hfX1 p366 p327 p112 rfl rfl p329 p330 (K.nest 2 rfl) (by decide +kernel) (by decide) (by decide) (by decide) rfl dX7_init_26 dX7_init_29 dX7_init_30 (fun c7 s7 hs7 => ?_)
  refine y_aast K clX1 1 4 16 rfl rfl rfl (vp_in_nI (n := 7) (by decide) (by decide)) dX7_init_33 ?_
  refine y_iinc K 8 dX7_init_34 rfl (by decide) rfl rfl ?_
  refine y_goto K 15 dX7_init_37 (by decide) ?_
  refine y_iload_n K dX7_init_15 rfl ?_
  refine y_bipush K 8 dX7_init_16 rfl ?_
  refine y_geT K 40 dX7_init_18 (by decide) (by decide) ?_
  exact y_vret K (fun i => [q0, c0, s0 0, c1, s1 0, c2, s2 0, c3, s3 0, c4, s4 0, c5, s5 0, c6, s6 0, c7, s7 0].getD i 0) trivial rfl dX7_init_40
theorem hfX7 : ∀ j, j < 3 → defaultValue (tyX7 j) = vp_V fsX7 j := fun j hj => match j, hj with
  | 0, _ => rfl
  | 1, _ => rfl
  | 2, _ => rfl
  | j + 3, h => absurd h (by omega)
