def sgX0 (cy : Nat → ClassId) (q : Nat) (r : Nat → Nat) : va_W := [(q, .inr (0, [.int 0, .int 0, .ref (r 0), .ref (r 1)])), (r 0, .inl (cy 1, 40, .inl (fun _ => 0))), (r 1, .inl (cy 1, 40, .inl (fun _ => 0)))]
abbrev fsX0 : List Value := [.int 0, .int 0, .null, .null]
abbrev rmX0_init : Room := { frames := 1, cells := 2, slots := 80, locals := 20 }
set_option maxRecDepth 100000 in
set_option maxHeartbeats 4000000 in
theorem ctX0 {l : Launch} {D : va_G} {cy : Nat → ClassId} : CT l D cy yX0_init cX0_init 1 rmX0_init 0 fsX0 (sgX0 cy) := by
  refine y_ct (own := RX0) (by decide +kernel) rfl rfl rfl (fun X A q K => ?_)
  refine y_aload_n K dX0_init_0 rfl ?_
  refine y_objInit K p385 p135 p136 dX0_init_1 (by decide) (by decide) ?_
  refine y_aload_n K dX0_init_4 rfl ?_
  refine y_bipush K 40 dX0_init_5 rfl ?_
  refine y_newa K 1 (40, .inl (fun _ => 0)) p236 rfl rfl (fun _ => rfl) (by decide) rfl (by decide) (by decide) (by decide) dX0_init_7 (fun q1 => ?_)
  refine y_putF K clX0 tyX0_ok nmX0 0 rfl 2 rfl p389 rfl rfl rfl rfl rfl dX0_init_9 ?_
  refine y_aload_n K dX0_init_12 rfl ?_
  refine y_bipush K 40 dX0_init_13 rfl ?_
  refine y_newa K 1 (40, .inl (fun _ => 0)) p236 rfl rfl (fun _ => rfl) (by decide) rfl (by decide) (by decide) (by decide) dX0_init_15 (fun q2 => ?_)
  refine y_putF K clX0 tyX0_ok nmX0 0 rfl 3 rfl p390 rfl rfl rfl rfl rfl dX0_init_17 ?_
  exact y_vret K (fun i => [q1, q2].getD i 0) rfl dX0_init_20
def sgX1 (cy : Nat → ClassId) (q : Nat) (r : Nat → Nat) : va_W := [(q, .inr (1, [.int 0, .int 0, .int 0, .int 0, .ref (r 0)])), (r 0, .inl (cy 1, 5, .inl (fun _ => 0)))]
abbrev fsX1 : List Value := [.int 0, .int 0, .int 0, .int 0, .null]
abbrev rmX1_init : Room := { frames := 1, cells := 1, slots := 5, locals := 20 }
set_option maxRecDepth 100000 in
set_option maxHeartbeats 4000000 in
theorem ctX1 {l : Launch} {D : va_G} {cy : Nat → ClassId} : CT l D cy yX1_init cX1_init 1 rmX1_init 1 fsX1 (sgX1 cy) := by
  refine y_ct (own := RX1) (by decide +kernel) rfl rfl rfl (fun X A q K => ?_)
  refine y_aload_n K dX1_init_0 rfl ?_
  refine y_objInit K p331 p135 p136 dX1_init_1 (by decide) (by decide) ?_
  refine y_aload_n K dX1_init_4 rfl ?_
  refine y_iconst K 5 dX1_init_5 rfl ?_
  refine y_newa K 1 (5, .inl (fun _ => 0)) p236 rfl rfl (fun _ => rfl) (by decide) rfl (by decide) (by decide) (by decide) dX1_init_6 (fun q1 => ?_)
  refine y_putF K clX1 tyX1_ok nmX1 0 rfl 4 rfl p346 rfl rfl rfl rfl rfl dX1_init_8 ?_
  exact y_vret K (fun i => [q1].getD i 0) rfl dX1_init_11
def sgX2 (cy : Nat → ClassId) (q : Nat) (r : Nat → Nat) : va_W := [(q, .inr (2, [.int 0]))]
abbrev fsX2 : List Value := [.int 0]
abbrev rmX2_init : Room := { frames := 1, cells := 0, slots := 0, locals := 20 }
set_option maxRecDepth 100000 in
set_option maxHeartbeats 4000000 in
theorem ctX2 {l : Launch} {D : va_G} {cy : Nat → ClassId} : CT l D cy yX2_init cX2_init 1 rmX2_init 2 fsX2 (sgX2 cy) := by
  refine y_ct (own := RX2) (by decide +kernel) rfl rfl rfl (fun X A q K => ?_)
  refine y_aload_n K dX2_init_0 rfl ?_
  refine y_objInit K p427 p135 p136 dX2_init_1 (by decide) (by decide) ?_
  exact y_vret K (fun i => [].getD i 0) rfl dX2_init_4
def sgX3 (cy : Nat → ClassId) (q : Nat) (r : Nat → Nat) : va_W := [(q, .inr (3, [.int 0, .int 0, .int 0, .int 10, .int 20, .ref (r 0), .ref (r 1), .ref (r 2), .ref (r 3), .ref (r 4), .ref (r 5), .ref (r 6), .ref (r 7), .int 0, .int 0, .int 0])), (r 0, .inl (cy 1, 5, .inl (fun _ => 0))), (r 1, .inl (cy 2, 5, .inr (.inl (fun _ => 0)))), (r 2, .inl (cy 2, 10, .inr (.inl (fun _ => 0)))), (r 3, .inl (cy 1, 10, .inl (fun _ => 0))), (r 4, .inl (cy 1, 10, .inl (fun _ => 0))), (r 5, .inl (cy 1, 16, .inl (fun _ => 0))), (r 6, .inl (cy 1, 16, .inl (fun _ => 0))), (r 7, .inl (cy 1, 16, .inl (fun _ => 0)))]
abbrev fsX3 : List Value := [.int 0, .int 0, .int 0, .int 0, .int 0, .null, .null, .null, .null, .null, .null, .null, .null, .int 0, .int 0, .int 0]
abbrev rmX3_init : Room := { frames := 1, cells := 8, slots := 88, locals := 20 }
set_option maxRecDepth 100000 in
set_option maxHeartbeats 4000000 in
theorem ctX3 {l : Launch} {D : va_G} {cy : Nat → ClassId} : CT l D cy yX3_init cX3_init 1 rmX3_init 3 fsX3 (sgX3 cy) := by
  refine y_ct (own := RX3) (by decide +kernel) rfl rfl rfl (fun X A q K => ?_)
  refine y_aload_n K dX3_init_0 rfl ?_
  refine y_objInit K p244 p135 p136 dX3_init_1 (by decide) (by decide) ?_
  refine y_aload_n K dX3_init_4 rfl ?_
  refine y_bipush K 10 dX3_init_5 rfl ?_
  refine y_put K clX3 tyX3_ok nmX3 0 rfl 3 rfl p260 rfl rfl rfl rfl dX3_init_7 ?_
  refine y_aload_n K dX3_init_10 rfl ?_
  refine y_bipush K 20 dX3_init_11 rfl ?_
  refine y_put K clX3 tyX3_ok nmX3 0 rfl 4 rfl p264 rfl rfl rfl rfl dX3_init_13 ?_
  refine y_aload_n K dX3_init_16 rfl ?_
  refine y_iconst K 5 dX3_init_17 rfl ?_
  refine y_newa K 1 (5, .inl (fun _ => 0)) p236 rfl rfl (fun _ => rfl) (by decide) rfl (by decide) (by decide) (by decide) dX3_init_18 (fun q1 => ?_)
  refine y_putF K clX3 tyX3_ok nmX3 0 rfl 5 rfl p266 rfl rfl rfl rfl rfl dX3_init_20 ?_
  refine y_aload_n K dX3_init_23 rfl ?_
  refine y_iconst K 5 dX3_init_24 rfl ?_
  refine y_newa K 2 (5, .inr (.inl (fun _ => 0))) p237 rfl rfl (fun _ => rfl) (by decide) rfl (by decide) (by decide) (by decide) dX3_init_25 (fun q2 => ?_)
  refine y_putF K clX3 tyX3_ok nmX3 0 rfl 6 rfl p270 rfl rfl rfl rfl rfl dX3_init_27 ?_
  refine y_aload_n K dX3_init_30 rfl ?_
  refine y_bipush K 10 dX3_init_31 rfl ?_
  refine y_newa K 2 (10, .inr (.inl (fun _ => 0))) p237 rfl rfl (fun _ => rfl) (by decide) rfl (by decide) (by decide) (by decide) dX3_init_33 (fun q3 => ?_)
  refine y_putF K clX3 tyX3_ok nmX3 0 rfl 7 rfl p272 rfl rfl rfl rfl rfl dX3_init_35 ?_
  refine y_aload_n K dX3_init_38 rfl ?_
  refine y_bipush K 10 dX3_init_39 rfl ?_
  refine y_newa K 1 (10, .inl (fun _ => 0)) p236 rfl rfl (fun _ => rfl) (by decide) rfl (by decide) (by decide) (by decide) dX3_init_41 (fun q4 => ?_)
  refine y_putF K clX3 tyX3_ok nmX3 0 rfl 8 rfl p273 rfl rfl rfl rfl rfl dX3_init_43 ?_
  refine y_aload_n K dX3_init_46 rfl ?_
  refine y_bipush K 10 dX3_init_47 rfl ?_
  refine y_newa K 1 (10, .inl (fun _ => 0)) p236 rfl rfl (fun _ => rfl) (by decide) rfl (by decide) (by decide) (by decide) dX3_init_49 (fun q5 => ?_)
  refine y_putF K clX3 tyX3_ok nmX3 0 rfl 9 rfl p276 rfl rfl rfl rfl rfl dX3_init_51 ?_
  refine y_aload_n K dX3_init_54 rfl ?_
  refine y_bipush K 16 dX3_init_55 rfl ?_
  refine y_newa K 1 (16, .inl (fun _ => 0)) p236 rfl rfl (fun _ => rfl) (by decide) rfl (by decide) (by decide) (by decide) dX3_init_57 (fun q6 => ?_)
  refine y_putF K clX3 tyX3_ok nmX3 0 rfl 10 rfl p279 rfl rfl rfl rfl rfl dX3_init_59 ?_
  refine y_aload_n K dX3_init_62 rfl ?_
  refine y_bipush K 16 dX3_init_63 rfl ?_
  refine y_newa K 1 (16, .inl (fun _ => 0)) p236 rfl rfl (fun _ => rfl) (by decide) rfl (by decide) (by decide) (by decide) dX3_init_65 (fun q7 => ?_)
  refine y_putF K clX3 tyX3_ok nmX3 0 rfl 11 rfl p283 rfl rfl rfl rfl rfl dX3_init_67 ?_
  refine y_aload_n K dX3_init_70 rfl ?_
  refine y_bipush K 16 dX3_init_71 rfl ?_
  refine y_newa K 1 (16, .inl (fun _ => 0)) p236 rfl rfl (fun _ => rfl) (by decide) rfl (by decide) (by decide) (by decide) dX3_init_73 (fun q8 => ?_)
  refine y_putF K clX3 tyX3_ok nmX3 0 rfl 12 rfl p287 rfl rfl rfl rfl rfl dX3_init_75 ?_
  exact y_vret K (fun i => [q1, q2, q3, q4, q5, q6, q7, q8].getD i 0) rfl dX3_init_78
def sgX6 (cy : Nat → ClassId) (q : Nat) (r : Nat → Nat) : va_W := [(q, .inr (6, [.ref (r 0)])), (r 0, .inl (cy 1, 10, .inl (fun _ => 0)))]
abbrev fsX6 : List Value := [.null]
abbrev rmX6_init : Room := { frames := 1, cells := 1, slots := 10, locals := 20 }
set_option maxRecDepth 100000 in
set_option maxHeartbeats 4000000 in
theorem ctX6 {l : Launch} {D : va_G} {cy : Nat → ClassId} : CT l D cy yX6_init cX6_init 1 rmX6_init 6 fsX6 (sgX6 cy) := by
  refine y_ct (own := RX6) (by decide +kernel) rfl rfl rfl (fun X A q K => ?_)
  refine y_aload_n K dX6_init_0 rfl ?_
  refine y_objInit K p405 p135 p136 dX6_init_1 (by decide) (by decide) ?_
  refine y_aload_n K dX6_init_4 rfl ?_
  refine y_bipush K 10 dX6_init_5 rfl ?_
  refine y_newa K 1 (10, .inl (fun _ => 0)) p236 rfl rfl (fun _ => rfl) (by decide) rfl (by decide) (by decide) (by decide) dX6_init_7 (fun q1 => ?_)
  refine y_putF K clX6 tyX6_ok nmX6 0 rfl 0 rfl p406 rfl rfl rfl rfl rfl dX6_init_9 ?_
  exact y_vret K (fun i => [q1].getD i 0) rfl dX6_init_12
def sgX8 (cy : Nat → ClassId) (q : Nat) (r : Nat → Nat) : va_W := [(q, .inr (8, [.int 0, .int 0, .ref (r 0), .ref (r 1), .ref (r 2)])), (r 0, .inl (cy 1, 40, .inl (fun _ => 0))), (r 1, .inl (cy 1, 40, .inl (fun _ => 0))), (r 2, .inl (cy 1, 40, .inl (fun _ => 0)))]
abbrev fsX8 : List Value := [.int 0, .int 0, .null, .null, .null]
abbrev rmX8_init : Room := { frames := 1, cells := 3, slots := 120, locals := 20 }
set_option maxRecDepth 100000 in
set_option maxHeartbeats 4000000 in
theorem ctX8 {l : Launch} {D : va_G} {cy : Nat → ClassId} : CT l D cy yX8_init cX8_init 1 rmX8_init 8 fsX8 (sgX8 cy) := by
  refine y_ct (own := RX8) (by decide +kernel) rfl rfl rfl (fun X A q K => ?_)
  refine y_aload_n K dX8_init_0 rfl ?_
  refine y_objInit K p452 p135 p136 dX8_init_1 (by decide) (by decide) ?_
  refine y_aload_n K dX8_init_4 rfl ?_
  refine y_bipush K 40 dX8_init_5 rfl ?_
  refine y_newa K 1 (40, .inl (fun _ => 0)) p236 rfl rfl (fun _ => rfl) (by decide) rfl (by decide) (by decide) (by decide) dX8_init_7 (fun q1 => ?_)
  refine y_putF K clX8 tyX8_ok nmX8 0 rfl 2 rfl p457 rfl rfl rfl rfl rfl dX8_init_9 ?_
  refine y_aload_n K dX8_init_12 rfl ?_
  refine y_bipush K 40 dX8_init_13 rfl ?_
  refine y_newa K 1 (40, .inl (fun _ => 0)) p236 rfl rfl (fun _ => rfl) (by decide) rfl (by decide) (by decide) (by decide) dX8_init_15 (fun q2 => ?_)
  refine y_putF K clX8 tyX8_ok nmX8 0 rfl 3 rfl p458 rfl rfl rfl rfl rfl dX8_init_17 ?_
  refine y_aload_n K dX8_init_20 rfl ?_
  refine y_bipush K 40 dX8_init_21 rfl ?_
  refine y_newa K 1 (40, .inl (fun _ => 0)) p236 rfl rfl (fun _ => rfl) (by decide) rfl (by decide) (by decide) (by decide) dX8_init_23 (fun q3 => ?_)
  refine y_putF K clX8 tyX8_ok nmX8 0 rfl 4 rfl p459 rfl rfl rfl rfl rfl dX8_init_25 ?_
  exact y_vret K (fun i => [q1, q2, q3].getD i 0) rfl dX8_init_28
def sgX9 (cy : Nat → ClassId) (q : Nat) (r : Nat → Nat) : va_W := [(q, .inr (9, [.ref (r 0), .int 0])), (r 0, .inl (cy 1, 16, .inl (fun _ => 0)))]
abbrev fsX9 : List Value := [.null, .int 0]
abbrev rmX9_init : Room := { frames := 1, cells := 1, slots := 16, locals := 20 }
set_option maxRecDepth 100000 in
set_option maxHeartbeats 4000000 in
theorem ctX9 {l : Launch} {D : va_G} {cy : Nat → ClassId} : CT l D cy yX9_init cX9_init 1 rmX9_init 9 fsX9 (sgX9 cy) := by
  refine y_ct (own := RX9) (by decide +kernel) rfl rfl rfl (fun X A q K => ?_)
  refine y_aload_n K dX9_init_0 rfl ?_
  refine y_objInit K p437 p135 p136 dX9_init_1 (by decide) (by decide) ?_
  refine y_aload_n K dX9_init_4 rfl ?_
  refine y_bipush K 16 dX9_init_5 rfl ?_
  refine y_newa K 1 (16, .inl (fun _ => 0)) p236 rfl rfl (fun _ => rfl) (by decide) rfl (by decide) (by decide) (by decide) dX9_init_7 (fun q1 => ?_)
  refine y_putF K clX9 tyX9_ok nmX9 0 rfl 0 rfl p438 rfl rfl rfl rfl rfl dX9_init_9 ?_
  exact y_vret K (fun i => [q1].getD i 0) rfl dX9_init_12
