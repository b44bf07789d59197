section YR3
variable {zz : (Nat → Nat) × (Nat → Nat) × Nat} {X : Cx} {l : Launch} {D : va_G} {cy : Nat → ClassId} {A : Nat → Prop} {cc : ByteArray} {own : String} {nL : Nat} {rm : Room} {Q : State → Prop} {ws : va_W} {cn sn : Nat} {lv : List (Option Value)} {st : List Value} {pc : Nat}
theorem y_iast {a n : Nat} {f : Nat → Int32} {cA : ClassId} {i x : Int32} (K : OkY zz X l D cy A cc own nL rm) (q0 t0 : Nat) (ha : ws[q0]? = some (a, .inl (cA, n, .inl f))) (ht : (tyL cy)[t0]? = some (cA, .int)) (hin : vp_in i n) (hd : decode cc pc = .ok (.iastore, 1)) (kk : Yj X D A nL Q (ws.set q0 (a, .inl (cA, n, .inl (upd f i.toNatClampNeg x)))) cn sn lv st (pc + 1)) : Yj X D A nL Q ws cn sn lv (.int x :: .int i :: .ref a :: st) pc := fun H locs ls hP hD hS h =>
  va_iast K.1.1 K.1.2.1 K.2.2.2.1 hP hD hS q0 t0 ha ht hin hd (fun H1 locs1 hP1 hD1 hS1 => kk H1 locs1 ls hP1 hD1 hS1 h)
end YR3
theorem c11_in {c : Nat × va_E} {S : va_W} : ∀ W : va_W, (W ++ (c :: S))[W.length]? = some c
  | [] => rfl
  | w :: W => c11_in W
theorem c11_st {c d : Nat × va_E} {S : va_W} : ∀ W : va_W, (W ++ (c :: S)).set W.length d = W ++ (d :: S)
  | [] => rfl
  | w :: W => congrArg (w :: ·) (c11_st W)
theorem c11_mid {x c : Nat × va_E} {W S : va_W} : (x :: (W ++ (c :: S)))[W.length + 1]? = some c := c11_in W
theorem c11_set {x c d : Nat × va_E} {W S : va_W} : (x :: (W ++ (c :: S))).set (W.length + 1) d = x :: (W ++ (d :: S)) := congrArg (x :: ·) (c11_st W)
theorem c11_app {x c : Nat × va_E} {W S Z : va_W} : (x :: (W ++ (c :: S))) ++ Z = x :: (W ++ (c :: (S ++ Z))) := by simp
theorem c11_obj {x c y : Nat × va_E} {W S Z : va_W} : (x :: (W ++ (c :: (S ++ (y :: Z)))))[(x :: (W ++ (c :: S))).length]? = some y := by
  rw [← c11_app]
  exact c11_in (x :: (W ++ (c :: S)))
theorem hfX10 : ∀ j, j < 12 → defaultValue (tyX10 j) = vp_V fsX10 j := fun j hj => match j, hj with
  | 0, _ => rfl
  | 1, _ => rfl
  | 2, _ => rfl
  | 3, _ => rfl
  | 4, _ => rfl
  | 5, _ => rfl
  | 6, _ => rfl
  | 7, _ => rfl
  | 8, _ => rfl
  | 9, _ => rfl
  | 10, _ => rfl
  | 11, _ => rfl
  | j + 12, h => absurd h (by omega)
theorem hfX12 : ∀ j, j < 50 → defaultValue (tyX12 j) = vp_V fsX12 j := fun j hj => match j, hj with
  | 0, _ => rfl
  | 1, _ => rfl
  | 2, _ => rfl
  | 3, _ => rfl
  | 4, _ => rfl
  | 5, _ => rfl
  | 6, _ => rfl
  | 7, _ => rfl
  | 8, _ => rfl
  | 9, _ => rfl
  | 10, _ => rfl
  | 11, _ => rfl
  | 12, _ => rfl
  | 13, _ => rfl
  | 14, _ => rfl
  | 15, _ => rfl
  | 16, _ => rfl
  | 17, _ => rfl
  | 18, _ => rfl
  | 19, _ => rfl
  | 20, _ => rfl
  | 21, _ => rfl
  | 22, _ => rfl
  | 23, _ => rfl
  | 24, _ => rfl
  | 25, _ => rfl
  | 26, _ => rfl
  | 27, _ => rfl
  | 28, _ => rfl
  | 29, _ => rfl
  | 30, _ => rfl
  | 31, _ => rfl
  | 32, _ => rfl
  | 33, _ => rfl
  | 34, _ => rfl
  | 35, _ => rfl
  | 36, _ => rfl
  | 37, _ => rfl
  | 38, _ => rfl
  | 39, _ => rfl
  | 40, _ => rfl
  | 41, _ => rfl
  | 42, _ => rfl
  | 43, _ => rfl
  | 44, _ => rfl
  | 45, _ => rfl
  | 46, _ => rfl
  | 47, _ => rfl
  | 48, _ => rfl
  | 49, _ => rfl
  | j + 50, h => absurd h (by omega)
def sgX11 (cy : Nat → ClassId) (q : Nat) (u : (Nat → Nat) × (Nat → Nat → Nat) × Mm) : va_W := (q, .inr (11, [.ref (u.1 0), .ref (u.1 3), .ref (u.1 4), .ref (u.1 5), .ref (u.1 6), .ref (u.1 7), .ref (u.1 8), .ref (u.1 9), .ref (u.1 10), .ref (u.1 13), .ref (u.1 16), .ref (u.1 1), .ref (u.1 2), .ref (u.1 11), .ref (u.1 12), .int 0, .int (-1), .int (-1), .int (-1), .int (-1)])) :: ((((((((((((((([] ++ sgX10 cy (u.1 0) (u.2.1 0, u.2.2)) ++ sgX3 cy (u.1 1) (u.2.1 1)) ++ sgX3 cy (u.1 2) (u.2.1 2)) ++ sgX1 cy (u.1 3) (u.2.1 3)) ++ sgX1 cy (u.1 4) (u.2.1 4)) ++ sgX7 cy (u.1 5) (u.2.1 5)) ++ sgX0 cy (u.1 6) (u.2.1 6)) ++ sgX6 cy (u.1 7) (u.2.1 7)) ++ sgX4 cy (u.1 8) (u.2.1 8)) ++ sgX2 cy (u.1 9) (u.2.1 9)) ++ sgX9 cy (u.1 10) (u.2.1 10)) ++ sgX8 cy (u.1 11) (u.2.1 11)) ++ sgX8 cy (u.1 12) (u.2.1 12)) ++ ((u.1 13, .inl (cy 5, 2, .inr (.inr (.inr (.inr (va_up (va_up (fun _ => none) (nI 0).toNatClampNeg (some (u.1 14))) (nI 1).toNatClampNeg (some (u.1 15)))))))) :: (([] ++ sgX5 cy (u.1 14) (u.2.1 14)) ++ sgX5 cy (u.1 15) (u.2.1 15)))) ++ ((u.1 16, .inl (cy 1, 4, .inl (upd (upd (upd (upd (fun _ => 0) (nI 0).toNatClampNeg (-1)) (nI 1).toNatClampNeg (-1)) (nI 2).toNatClampNeg (-1)) (nI 3).toNatClampNeg (-1)))) :: []))
abbrev fsX11 : List Value := [.null, .null, .null, .null, .null, .null, .null, .null, .null, .null, .null, .null, .null, .null, .null, .int 0, .int 0, .int 0, .int 0, .int 0]
abbrev rmX11_init : Room := { frames := 5, cells := 104, slots := 6076, locals := 201 }
set_option maxRecDepth 100000 in
set_option maxHeartbeats 4000000 in
theorem ctX11 {zz : (Nat → Nat) × (Nat → Nat) × Nat} {l : Launch} {D : va_G} {cy : Nat → ClassId} {rT : Mm} (hT : pX10_initZ reX10 zeroM 0 = some rT) : CT zz l D cy yX11_init cX11_init 1 rmX11_init 11 fsX11 (fun u : (Nat → Nat) × (Nat → Nat → Nat) × Mm => u.2.2 = rT) (sgX11 cy) := by
  refine y_ct (own := RX11) (by decide +kernel) rfl rfl rfl (fun X A q K => ?_)
  refine y_aload_n K dX11_init_0 rfl ?_
  refine y_objInit K p134 p135 p136 dX11_init_1 (by decide) (by decide) ?_
  refine y_aload_n K dX11_init_4 rfl ?_
  refine y_mkP K (ctX10 hT) clX10 tyX10_ok hfX10 p137 p138 p106 rfl rfl p140 p141 p139 (by decide +kernel) (by decide) (by decide) (by decide) rfl dX11_init_5 dX11_init_8 dX11_init_9 (fun qt rt hrt => ?_)
  obtain ⟨at_, Tt⟩ := rt
  obtain rfl : Tt = rT := hrt
  refine y_is (ws' := (q, .inr (11, [.null, .null, .null, .null, .null, .null, .null, .null, .null, .null, .null, .null, .null, .null, .null, .int 0, .int 0, .int 0, .int 0, .int 0])) :: ([] ++ sgX10 cy qt (at_, Tt))) rfl ?_
  obtain ⟨W0, hW0⟩ : ∃ w : va_W, w = [] ++ sgX10 cy qt (at_, Tt) := ⟨_, rfl⟩
  rw [← hW0]
  refine y_putF K clX11 tyX11_ok nmX11 0 rfl 0 rfl p500 rfl rfl rfl rfl rfl dX11_init_12 ?_
  refine y_is (ws' := (q, .inr (11, [.ref qt, .null, .null, .null, .null, .null, .null, .null, .null, .null, .null, .null, .null, .null, .null, .int 0, .int 0, .int 0, .int 0, .int 0])) :: W0) rfl ?_
  refine y_aload_n K dX11_init_15 rfl ?_
  refine y_mkN K ctX3 clX3 tyX3_ok hfX3 p239 p240 p111 rfl rfl p242 p243 (K.nest 0 rfl) (by decide +kernel) (by decide) (by decide) (by decide) rfl dX11_init_16 dX11_init_19 dX11_init_20 (fun qf1 rf1 hrf1 => ?_)
  refine y_is (ws' := (q, .inr (11, [.ref qt, .null, .null, .null, .null, .null, .null, .null, .null, .null, .null, .null, .null, .null, .null, .int 0, .int 0, .int 0, .int 0, .int 0])) :: (W0 ++ sgX3 cy qf1 rf1)) rfl ?_
  obtain ⟨W1, hW1⟩ : ∃ w : va_W, w = W0 ++ sgX3 cy qf1 rf1 := ⟨_, rfl⟩
  rw [← hW1]
  refine y_put K clX11 tyX11_ok nmX11 0 rfl 11 rfl p511 rfl rfl rfl rfl dX11_init_23 ?_
  refine y_is (ws' := (q, .inr (11, [.ref qt, .null, .null, .null, .null, .null, .null, .null, .null, .null, .null, .ref qf1, .null, .null, .null, .int 0, .int 0, .int 0, .int 0, .int 0])) :: W1) rfl ?_
  refine y_aload_n K dX11_init_26 rfl ?_
  refine y_mkN K ctX3 clX3 tyX3_ok hfX3 p239 p240 p111 rfl rfl p242 p243 (K.nest 0 rfl) (by decide +kernel) (by decide) (by decide) (by decide) rfl dX11_init_27 dX11_init_30 dX11_init_31 (fun qf2 rf2 hrf2 => ?_)
  refine y_is (ws' := (q, .inr (11, [.ref qt, .null, .null, .null, .null, .null, .null, .null, .null, .null, .null, .ref qf1, .null, .null, .null, .int 0, .int 0, .int 0, .int 0, .int 0])) :: (W1 ++ sgX3 cy qf2 rf2)) rfl ?_
  obtain ⟨W2, hW2⟩ : ∃ w : va_W, w = W1 ++ sgX3 cy qf2 rf2 := ⟨_, rfl⟩
  rw [← hW2]
  refine y_put K clX11 tyX11_ok nmX11 0 rfl 12 rfl p512 rfl rfl rfl rfl dX11_init_34 ?_
  refine y_is (ws' := (q, .inr (11, [.ref qt, .null, .null, .null, .null, .null, .null, .null, .null, .null, .null, .ref qf1, .ref qf2, .null, .null, .int 0, .int 0, .int 0, .int 0, .int 0])) :: W2) rfl ?_
  refine y_aload_n K dX11_init_37 rfl ?_
  refine y_mkN K ctX1 clX1 tyX1_ok hfX1 p326 p327 p112 rfl rfl p329 p330 (K.nest 1 rfl) (by decide +kernel) (by decide) (by decide) (by decide) rfl dX11_init_38 dX11_init_41 dX11_init_42 (fun qc1 rc1 hrc1 => ?_)
  refine y_is (ws' := (q, .inr (11, [.ref qt, .null, .null, .null, .null, .null, .null, .null, .null, .null, .null, .ref qf1, .ref qf2, .null, .null, .int 0, .int 0, .int 0, .int 0, .int 0])) :: (W2 ++ sgX1 cy qc1 rc1)) rfl ?_
  obtain ⟨W3, hW3⟩ : ∃ w : va_W, w = W2 ++ sgX1 cy qc1 rc1 := ⟨_, rfl⟩
  rw [← hW3]
  refine y_putF K clX11 tyX11_ok nmX11 0 rfl 1 rfl p501 rfl rfl rfl rfl rfl dX11_init_45 ?_
  refine y_is (ws' := (q, .inr (11, [.ref qt, .ref qc1, .null, .null, .null, .null, .null, .null, .null, .null, .null, .ref qf1, .ref qf2, .null, .null, .int 0, .int 0, .int 0, .int 0, .int 0])) :: W3) rfl ?_
  refine y_aload_n K dX11_init_48 rfl ?_
  refine y_mkN K ctX1 clX1 tyX1_ok hfX1 p326 p327 p112 rfl rfl p329 p330 (K.nest 1 rfl) (by decide +kernel) (by decide) (by decide) (by decide) rfl dX11_init_49 dX11_init_52 dX11_init_53 (fun qc2 rc2 hrc2 => ?_)
  refine y_is (ws' := (q, .inr (11, [.ref qt, .ref qc1, .null, .null, .null, .null, .null, .null, .null, .null, .null, .ref qf1, .ref qf2, .null, .null, .int 0, .int 0, .int 0, .int 0, .int 0])) :: (W3 ++ sgX1 cy qc2 rc2)) rfl ?_
  obtain ⟨W4, hW4⟩ : ∃ w : va_W, w = W3 ++ sgX1 cy qc2 rc2 := ⟨_, rfl⟩
  rw [← hW4]
  refine y_putF K clX11 tyX11_ok nmX11 0 rfl 2 rfl p502 rfl rfl rfl rfl rfl dX11_init_56 ?_
  refine y_is (ws' := (q, .inr (11, [.ref qt, .ref qc1, .ref qc2, .null, .null, .null, .null, .null, .null, .null, .null, .ref qf1, .ref qf2, .null, .null, .int 0, .int 0, .int 0, .int 0, .int 0])) :: W4) rfl ?_
  refine y_aload_n K dX11_init_59 rfl ?_
  refine y_mkP K ctX7 clX7 tyX7_ok hfX7 p360 p361 p113 rfl rfl p363 p364 p362 (by decide +kernel) (by decide) (by decide) (by decide) rfl dX11_init_60 dX11_init_63 dX11_init_64 (fun qpa rpa hrpa => ?_)
  refine y_is (ws' := (q, .inr (11, [.ref qt, .ref qc1, .ref qc2, .null, .null, .null, .null, .null, .null, .null, .null, .ref qf1, .ref qf2, .null, .null, .int 0, .int 0, .int 0, .int 0, .int 0])) :: (W4 ++ sgX7 cy qpa rpa)) rfl ?_
  obtain ⟨W5, hW5⟩ : ∃ w : va_W, w = W4 ++ sgX7 cy qpa rpa := ⟨_, rfl⟩
  rw [← hW5]
  refine y_putF K clX11 tyX11_ok nmX11 0 rfl 3 rfl p503 rfl rfl rfl rfl rfl dX11_init_67 ?_
  refine y_is (ws' := (q, .inr (11, [.ref qt, .ref qc1, .ref qc2, .ref qpa, .null, .null, .null, .null, .null, .null, .null, .ref qf1, .ref qf2, .null, .null, .int 0, .int 0, .int 0, .int 0, .int 0])) :: W5) rfl ?_
  refine y_aload_n K dX11_init_70 rfl ?_
  refine y_mkN K ctX0 clX0 tyX0_ok hfX0 p380 p381 p114 rfl rfl p383 p384 (K.nest 3 rfl) (by decide +kernel) (by decide) (by decide) (by decide) rfl dX11_init_71 dX11_init_74 dX11_init_75 (fun qbo rbo hrbo => ?_)
  refine y_is (ws' := (q, .inr (11, [.ref qt, .ref qc1, .ref qc2, .ref qpa, .null, .null, .null, .null, .null, .null, .null, .ref qf1, .ref qf2, .null, .null, .int 0, .int 0, .int 0, .int 0, .int 0])) :: (W5 ++ sgX0 cy qbo rbo)) rfl ?_
  obtain ⟨W6, hW6⟩ : ∃ w : va_W, w = W5 ++ sgX0 cy qbo rbo := ⟨_, rfl⟩
  rw [← hW6]
  refine y_putF K clX11 tyX11_ok nmX11 0 rfl 4 rfl p504 rfl rfl rfl rfl rfl dX11_init_78 ?_
  refine y_is (ws' := (q, .inr (11, [.ref qt, .ref qc1, .ref qc2, .ref qpa, .ref qbo, .null, .null, .null, .null, .null, .null, .ref qf1, .ref qf2, .null, .null, .int 0, .int 0, .int 0, .int 0, .int 0])) :: W6) rfl ?_
  refine y_aload_n K dX11_init_81 rfl ?_
  refine y_mkN K ctX6 clX6 tyX6_ok hfX6 p400 p401 p115 rfl rfl p403 p404 (K.nest 4 rfl) (by decide +kernel) (by decide) (by decide) (by decide) rfl dX11_init_82 dX11_init_85 dX11_init_86 (fun qpr rpr hrpr => ?_)
  refine y_is (ws' := (q, .inr (11, [.ref qt, .ref qc1, .ref qc2, .ref qpa, .ref qbo, .null, .null, .null, .null, .null, .null, .ref qf1, .ref qf2, .null, .null, .int 0, .int 0, .int 0, .int 0, .int 0])) :: (W6 ++ sgX6 cy qpr rpr)) rfl ?_
  obtain ⟨W7, hW7⟩ : ∃ w : va_W, w = W6 ++ sgX6 cy qpr rpr := ⟨_, rfl⟩
  rw [← hW7]
  refine y_putF K clX11 tyX11_ok nmX11 0 rfl 5 rfl p505 rfl rfl rfl rfl rfl dX11_init_89 ?_
  refine y_is (ws' := (q, .inr (11, [.ref qt, .ref qc1, .ref qc2, .ref qpa, .ref qbo, .ref qpr, .null, .null, .null, .null, .null, .ref qf1, .ref qf2, .null, .null, .int 0, .int 0, .int 0, .int 0, .int 0])) :: W7) rfl ?_
  refine y_aload_n K dX11_init_92 rfl ?_
  refine y_mkN K ctX4 clX4 tyX4_ok hfX4 p410 p411 p116 rfl rfl p413 p414 (K.nest 5 rfl) (by decide +kernel) (by decide) (by decide) (by decide) rfl dX11_init_93 dX11_init_96 dX11_init_97 (fun qhe rhe hrhe => ?_)
  refine y_is (ws' := (q, .inr (11, [.ref qt, .ref qc1, .ref qc2, .ref qpa, .ref qbo, .ref qpr, .null, .null, .null, .null, .null, .ref qf1, .ref qf2, .null, .null, .int 0, .int 0, .int 0, .int 0, .int 0])) :: (W7 ++ sgX4 cy qhe rhe)) rfl ?_
  obtain ⟨W8, hW8⟩ : ∃ w : va_W, w = W7 ++ sgX4 cy qhe rhe := ⟨_, rfl⟩
  rw [← hW8]
  refine y_putF K clX11 tyX11_ok nmX11 0 rfl 6 rfl p506 rfl rfl rfl rfl rfl dX11_init_100 ?_
  refine y_is (ws' := (q, .inr (11, [.ref qt, .ref qc1, .ref qc2, .ref qpa, .ref qbo, .ref qpr, .ref qhe, .null, .null, .null, .null, .ref qf1, .ref qf2, .null, .null, .int 0, .int 0, .int 0, .int 0, .int 0])) :: W8) rfl ?_
  refine y_aload_n K dX11_init_103 rfl ?_
  refine y_mkN K ctX2 clX2 tyX2_ok hfX2 p422 p423 p117 rfl rfl p425 p426 (K.nest 6 rfl) (by decide +kernel) (by decide) (by decide) (by decide) rfl dX11_init_104 dX11_init_107 dX11_init_108 (fun qdr rdr hrdr => ?_)
  refine y_is (ws' := (q, .inr (11, [.ref qt, .ref qc1, .ref qc2, .ref qpa, .ref qbo, .ref qpr, .ref qhe, .null, .null, .null, .null, .ref qf1, .ref qf2, .null, .null, .int 0, .int 0, .int 0, .int 0, .int 0])) :: (W8 ++ sgX2 cy qdr rdr)) rfl ?_
  obtain ⟨W9, hW9⟩ : ∃ w : va_W, w = W8 ++ sgX2 cy qdr rdr := ⟨_, rfl⟩
  rw [← hW9]
  refine y_putF K clX11 tyX11_ok nmX11 0 rfl 7 rfl p507 rfl rfl rfl rfl rfl dX11_init_111 ?_
  refine y_is (ws' := (q, .inr (11, [.ref qt, .ref qc1, .ref qc2, .ref qpa, .ref qbo, .ref qpr, .ref qhe, .ref qdr, .null, .null, .null, .ref qf1, .ref qf2, .null, .null, .int 0, .int 0, .int 0, .int 0, .int 0])) :: W9) rfl ?_
  refine y_aload_n K dX11_init_114 rfl ?_
  refine y_mkN K ctX9 clX9 tyX9_ok hfX9 p432 p433 p118 rfl rfl p435 p436 (K.nest 7 rfl) (by decide +kernel) (by decide) (by decide) (by decide) rfl dX11_init_115 dX11_init_118 dX11_init_119 (fun qta rta hrta => ?_)
  refine y_is (ws' := (q, .inr (11, [.ref qt, .ref qc1, .ref qc2, .ref qpa, .ref qbo, .ref qpr, .ref qhe, .ref qdr, .null, .null, .null, .ref qf1, .ref qf2, .null, .null, .int 0, .int 0, .int 0, .int 0, .int 0])) :: (W9 ++ sgX9 cy qta rta)) rfl ?_
  obtain ⟨W10, hW10⟩ : ∃ w : va_W, w = W9 ++ sgX9 cy qta rta := ⟨_, rfl⟩
  rw [← hW10]
  refine y_putF K clX11 tyX11_ok nmX11 0 rfl 8 rfl p508 rfl rfl rfl rfl rfl dX11_init_122 ?_
  refine y_is (ws' := (q, .inr (11, [.ref qt, .ref qc1, .ref qc2, .ref qpa, .ref qbo, .ref qpr, .ref qhe, .ref qdr, .ref qta, .null, .null, .ref qf1, .ref qf2, .null, .null, .int 0, .int 0, .int 0, .int 0, .int 0])) :: W10) rfl ?_
  refine y_aload_n K dX11_init_125 rfl ?_
  refine y_mkN K ctX8 clX8 tyX8_ok hfX8 p447 p448 p119 rfl rfl p450 p451 (K.nest 8 rfl) (by decide +kernel) (by decide) (by decide) (by decide) rfl dX11_init_126 dX11_init_129 dX11_init_130 (fun qs1 rs1 hrs1 => ?_)
  refine y_is (ws' := (q, .inr (11, [.ref qt, .ref qc1, .ref qc2, .ref qpa, .ref qbo, .ref qpr, .ref qhe, .ref qdr, .ref qta, .null, .null, .ref qf1, .ref qf2, .null, .null, .int 0, .int 0, .int 0, .int 0, .int 0])) :: (W10 ++ sgX8 cy qs1 rs1)) rfl ?_
  obtain ⟨W11, hW11⟩ : ∃ w : va_W, w = W10 ++ sgX8 cy qs1 rs1 := ⟨_, rfl⟩
  rw [← hW11]
  refine y_put K clX11 tyX11_ok nmX11 0 rfl 13 rfl p513 rfl rfl rfl rfl dX11_init_133 ?_
  refine y_is (ws' := (q, .inr (11, [.ref qt, .ref qc1, .ref qc2, .ref qpa, .ref qbo, .ref qpr, .ref qhe, .ref qdr, .ref qta, .null, .null, .ref qf1, .ref qf2, .ref qs1, .null, .int 0, .int 0, .int 0, .int 0, .int 0])) :: W11) rfl ?_
  refine y_aload_n K dX11_init_136 rfl ?_
  refine y_mkN K ctX8 clX8 tyX8_ok hfX8 p447 p448 p119 rfl rfl p450 p451 (K.nest 8 rfl) (by decide +kernel) (by decide) (by decide) (by decide) rfl dX11_init_137 dX11_init_140 dX11_init_141 (fun qs2 rs2 hrs2 => ?_)
  refine y_is (ws' := (q, .inr (11, [.ref qt, .ref qc1, .ref qc2, .ref qpa, .ref qbo, .ref qpr, .ref qhe, .ref qdr, .ref qta, .null, .null, .ref qf1, .ref qf2, .ref qs1, .null, .int 0, .int 0, .int 0, .int 0, .int 0])) :: (W11 ++ sgX8 cy qs2 rs2)) rfl ?_
  obtain ⟨W12, hW12⟩ : ∃ w : va_W, w = W11 ++ sgX8 cy qs2 rs2 := ⟨_, rfl⟩
  rw [← hW12]
  refine y_put K clX11 tyX11_ok nmX11 0 rfl 14 rfl p514 rfl rfl rfl rfl dX11_init_144 ?_
  refine y_is (ws' := (q, .inr (11, [.ref qt, .ref qc1, .ref qc2, .ref qpa, .ref qbo, .ref qpr, .ref qhe, .ref qdr, .ref qta, .null, .null, .ref qf1, .ref qf2, .ref qs1, .ref qs2, .int 0, .int 0, .int 0, .int 0, .int 0])) :: W12) rfl ?_
  refine y_aload_n K dX11_init_147 rfl ?_
  refine y_iconst K 2 dX11_init_148 rfl ?_
  refine y_newq K 5 (C := RX5) (N' := 2) p471 K.aoI rfl (by decide) rfl (by decide) (by decide) (by decide) dX11_init_149 (fun qi => ?_)
  refine y_is (ws' := (q, .inr (11, [.ref qt, .ref qc1, .ref qc2, .ref qpa, .ref qbo, .ref qpr, .ref qhe, .ref qdr, .ref qta, .null, .null, .ref qf1, .ref qf2, .ref qs1, .ref qs2, .int 0, .int 0, .int 0, .int 0, .int 0])) :: (W12 ++ ((qi, .inl (cy 5, 2, .inr (.inr (.inr (.inr (fun _ => none)))))) :: []))) rfl ?_
  refine y_putF K clX11 tyX11_ok nmX11 0 rfl 9 rfl p509 rfl rfl rfl rfl rfl dX11_init_152 ?_
  refine y_is (ws' := (q, .inr (11, [.ref qt, .ref qc1, .ref qc2, .ref qpa, .ref qbo, .ref qpr, .ref qhe, .ref qdr, .ref qta, .ref qi, .null, .ref qf1, .ref qf2, .ref qs1, .ref qs2, .int 0, .int 0, .int 0, .int 0, .int 0])) :: (W12 ++ ((qi, .inl (cy 5, 2, .inr (.inr (.inr (.inr (fun _ => none)))))) :: []))) rfl ?_
  refine y_aload_n K dX11_init_155 rfl ?_
  refine y_get K clX11 0 rfl 9 rfl p509 rfl dX11_init_156 ?_
  refine y_iconst K 0 dX11_init_159 rfl ?_
  refine y_mkN K ctX5 clX5 tyX5_ok hfX5 p471 p473 p120 rfl rfl p475 p476 (K.nest 9 rfl) (by decide +kernel) (by decide) (by decide) (by decide) rfl dX11_init_160 dX11_init_163 dX11_init_164 (fun qi0 ri0 hri0 => ?_)
  refine y_is (ws' := (q, .inr (11, [.ref qt, .ref qc1, .ref qc2, .ref qpa, .ref qbo, .ref qpr, .ref qhe, .ref qdr, .ref qta, .ref qi, .null, .ref qf1, .ref qf2, .ref qs1, .ref qs2, .int 0, .int 0, .int 0, .int 0, .int 0])) :: (W12 ++ ((qi, .inl (cy 5, 2, .inr (.inr (.inr (.inr (fun _ => none)))))) :: ([] ++ sgX5 cy qi0 ri0)))) c11_app ?_
  refine y_aast K clX5 (W12.length + 1) 5 ((q, .inr (11, [.ref qt, .ref qc1, .ref qc2, .ref qpa, .ref qbo, .ref qpr, .ref qhe, .ref qdr, .ref qta, .ref qi, .null, .ref qf1, .ref qf2, .ref qs1, .ref qs2, .int 0, .int 0, .int 0, .int 0, .int 0])) :: (W12 ++ ((qi, .inl (cy 5, 2, .inr (.inr (.inr (.inr (fun _ => none)))))) :: []))).length c11_mid rfl c11_obj (vp_in_nI (n := 0) (by decide) (by decide)) dX11_init_167 ?_
  refine y_is (ws' := (q, .inr (11, [.ref qt, .ref qc1, .ref qc2, .ref qpa, .ref qbo, .ref qpr, .ref qhe, .ref qdr, .ref qta, .ref qi, .null, .ref qf1, .ref qf2, .ref qs1, .ref qs2, .int 0, .int 0, .int 0, .int 0, .int 0])) :: (W12 ++ ((qi, .inl (cy 5, 2, .inr (.inr (.inr (.inr (va_up (fun _ => none) (nI 0).toNatClampNeg (some qi0))))))) :: ([] ++ sgX5 cy qi0 ri0)))) c11_set ?_
  obtain ⟨S0, hS0⟩ : ∃ w : va_W, w = [] ++ sgX5 cy qi0 ri0 := ⟨_, rfl⟩
  rw [← hS0]
  refine y_aload_n K dX11_init_168 rfl ?_
  refine y_get K clX11 0 rfl 9 rfl p509 rfl dX11_init_169 ?_
  refine y_iconst K 1 dX11_init_172 rfl ?_
  refine y_mkN K ctX5 clX5 tyX5_ok hfX5 p471 p473 p120 rfl rfl p475 p476 (K.nest 9 rfl) (by decide +kernel) (by decide) (by decide) (by decide) rfl dX11_init_173 dX11_init_176 dX11_init_177 (fun qi1 ri1 hri1 => ?_)
  refine y_is (ws' := (q, .inr (11, [.ref qt, .ref qc1, .ref qc2, .ref qpa, .ref qbo, .ref qpr, .ref qhe, .ref qdr, .ref qta, .ref qi, .null, .ref qf1, .ref qf2, .ref qs1, .ref qs2, .int 0, .int 0, .int 0, .int 0, .int 0])) :: (W12 ++ ((qi, .inl (cy 5, 2, .inr (.inr (.inr (.inr (va_up (fun _ => none) (nI 0).toNatClampNeg (some qi0))))))) :: (S0 ++ sgX5 cy qi1 ri1)))) c11_app ?_
  refine y_aast K clX5 (W12.length + 1) 5 ((q, .inr (11, [.ref qt, .ref qc1, .ref qc2, .ref qpa, .ref qbo, .ref qpr, .ref qhe, .ref qdr, .ref qta, .ref qi, .null, .ref qf1, .ref qf2, .ref qs1, .ref qs2, .int 0, .int 0, .int 0, .int 0, .int 0])) :: (W12 ++ ((qi, .inl (cy 5, 2, .inr (.inr (.inr (.inr (va_up (fun _ => none) (nI 0).toNatClampNeg (some qi0))))))) :: S0))).length c11_mid rfl c11_obj (vp_in_nI (n := 1) (by decide) (by decide)) dX11_init_180 ?_
  refine y_is (ws' := (q, .inr (11, [.ref qt, .ref qc1, .ref qc2, .ref qpa, .ref qbo, .ref qpr, .ref qhe, .ref qdr, .ref qta, .ref qi, .null, .ref qf1, .ref qf2, .ref qs1, .ref qs2, .int 0, .int 0, .int 0, .int 0, .int 0])) :: (W12 ++ ((qi, .inl (cy 5, 2, .inr (.inr (.inr (.inr (va_up (va_up (fun _ => none) (nI 0).toNatClampNeg (some qi0)) (nI 1).toNatClampNeg (some qi1))))))) :: (S0 ++ sgX5 cy qi1 ri1)))) c11_set ?_
  obtain ⟨S1, hS1⟩ : ∃ w : va_W, w = S0 ++ sgX5 cy qi1 ri1 := ⟨_, rfl⟩
  rw [← hS1]
  refine y_aload_n K dX11_init_181 rfl ?_
  refine y_iconst K 4 dX11_init_182 rfl ?_
  refine y_newa K 1 (4, .inl (fun _ => 0)) p236 rfl rfl (fun _ => rfl) (by decide) rfl (by decide) (by decide) (by decide) dX11_init_183 (fun qo => ?_)
  obtain ⟨V, hV⟩ : ∃ w : va_W, w = W12 ++ ((qi, .inl (cy 5, 2, .inr (.inr (.inr (.inr (va_up (va_up (fun _ => none) (nI 0).toNatClampNeg (some qi0)) (nI 1).toNatClampNeg (some qi1))))))) :: S1) := ⟨_, rfl⟩
  rw [← hV]
  refine y_is (ws' := (q, .inr (11, [.ref qt, .ref qc1, .ref qc2, .ref qpa, .ref qbo, .ref qpr, .ref qhe, .ref qdr, .ref qta, .ref qi, .null, .ref qf1, .ref qf2, .ref qs1, .ref qs2, .int 0, .int 0, .int 0, .int 0, .int 0])) :: (V ++ ((qo, .inl (cy 1, 4, .inl (fun _ => 0))) :: []))) rfl ?_
  refine y_putF K clX11 tyX11_ok nmX11 0 rfl 10 rfl p510 rfl rfl rfl rfl rfl dX11_init_185 ?_
  refine y_is (ws' := (q, .inr (11, [.ref qt, .ref qc1, .ref qc2, .ref qpa, .ref qbo, .ref qpr, .ref qhe, .ref qdr, .ref qta, .ref qi, .ref qo, .ref qf1, .ref qf2, .ref qs1, .ref qs2, .int 0, .int 0, .int 0, .int 0, .int 0])) :: (V ++ ((qo, .inl (cy 1, 4, .inl (fun _ => 0))) :: []))) rfl ?_
  refine y_aload_n K dX11_init_188 rfl ?_
  refine y_get K clX11 0 rfl 10 rfl p510 rfl dX11_init_189 ?_
  refine y_iconst K 0 dX11_init_192 rfl ?_
  refine y_iconst K (-1) dX11_init_193 rfl ?_
  refine y_iast K (V.length + 1) 1 c11_mid rfl (vp_in_nI (n := 0) (by decide) (by decide)) dX11_init_194 ?_
  refine y_is (ws' := (q, .inr (11, [.ref qt, .ref qc1, .ref qc2, .ref qpa, .ref qbo, .ref qpr, .ref qhe, .ref qdr, .ref qta, .ref qi, .ref qo, .ref qf1, .ref qf2, .ref qs1, .ref qs2, .int 0, .int 0, .int 0, .int 0, .int 0])) :: (V ++ ((qo, .inl (cy 1, 4, .inl (upd (fun _ => 0) (nI 0).toNatClampNeg (-1)))) :: []))) c11_set ?_
  refine y_aload_n K dX11_init_195 rfl ?_
  refine y_get K clX11 0 rfl 10 rfl p510 rfl dX11_init_196 ?_
  refine y_iconst K 1 dX11_init_199 rfl ?_
  refine y_iconst K (-1) dX11_init_200 rfl ?_
  refine y_iast K (V.length + 1) 1 c11_mid rfl (vp_in_nI (n := 1) (by decide) (by decide)) dX11_init_201 ?_
  refine y_is (ws' := (q, .inr (11, [.ref qt, .ref qc1, .ref qc2, .ref qpa, .ref qbo, .ref qpr, .ref qhe, .ref qdr, .ref qta, .ref qi, .ref qo, .ref qf1, .ref qf2, .ref qs1, .ref qs2, .int 0, .int 0, .int 0, .int 0, .int 0])) :: (V ++ ((qo, .inl (cy 1, 4, .inl (upd (upd (fun _ => 0) (nI 0).toNatClampNeg (-1)) (nI 1).toNatClampNeg (-1)))) :: []))) c11_set ?_
  refine y_aload_n K dX11_init_202 rfl ?_
  refine y_get K clX11 0 rfl 10 rfl p510 rfl dX11_init_203 ?_
  refine y_iconst K 2 dX11_init_206 rfl ?_
  refine y_iconst K (-1) dX11_init_207 rfl ?_
  refine y_iast K (V.length + 1) 1 c11_mid rfl (vp_in_nI (n := 2) (by decide) (by decide)) dX11_init_208 ?_
  refine y_is (ws' := (q, .inr (11, [.ref qt, .ref qc1, .ref qc2, .ref qpa, .ref qbo, .ref qpr, .ref qhe, .ref qdr, .ref qta, .ref qi, .ref qo, .ref qf1, .ref qf2, .ref qs1, .ref qs2, .int 0, .int 0, .int 0, .int 0, .int 0])) :: (V ++ ((qo, .inl (cy 1, 4, .inl (upd (upd (upd (fun _ => 0) (nI 0).toNatClampNeg (-1)) (nI 1).toNatClampNeg (-1)) (nI 2).toNatClampNeg (-1)))) :: []))) c11_set ?_
  refine y_aload_n K dX11_init_209 rfl ?_
  refine y_get K clX11 0 rfl 10 rfl p510 rfl dX11_init_210 ?_
  refine y_iconst K 3 dX11_init_213 rfl ?_
  refine y_iconst K (-1) dX11_init_214 rfl ?_
  refine y_iast K (V.length + 1) 1 c11_mid rfl (vp_in_nI (n := 3) (by decide) (by decide)) dX11_init_215 ?_
  refine y_is (ws' := (q, .inr (11, [.ref qt, .ref qc1, .ref qc2, .ref qpa, .ref qbo, .ref qpr, .ref qhe, .ref qdr, .ref qta, .ref qi, .ref qo, .ref qf1, .ref qf2, .ref qs1, .ref qs2, .int 0, .int 0, .int 0, .int 0, .int 0])) :: (V ++ ((qo, .inl (cy 1, 4, .inl (upd (upd (upd (upd (fun _ => 0) (nI 0).toNatClampNeg (-1)) (nI 1).toNatClampNeg (-1)) (nI 2).toNatClampNeg (-1)) (nI 3).toNatClampNeg (-1)))) :: []))) c11_set ?_
  refine y_aload_n K dX11_init_216 rfl ?_
  refine y_iconst K (-1) dX11_init_217 rfl ?_
  refine y_put K clX11 tyX11_ok nmX11 0 rfl 16 rfl p516 rfl rfl rfl rfl dX11_init_218 ?_
  refine y_is (ws' := (q, .inr (11, [.ref qt, .ref qc1, .ref qc2, .ref qpa, .ref qbo, .ref qpr, .ref qhe, .ref qdr, .ref qta, .ref qi, .ref qo, .ref qf1, .ref qf2, .ref qs1, .ref qs2, .int 0, .int (-1), .int 0, .int 0, .int 0])) :: (V ++ ((qo, .inl (cy 1, 4, .inl (upd (upd (upd (upd (fun _ => 0) (nI 0).toNatClampNeg (-1)) (nI 1).toNatClampNeg (-1)) (nI 2).toNatClampNeg (-1)) (nI 3).toNatClampNeg (-1)))) :: []))) rfl ?_
  refine y_aload_n K dX11_init_221 rfl ?_
  refine y_iconst K (-1) dX11_init_222 rfl ?_
  refine y_put K clX11 tyX11_ok nmX11 0 rfl 17 rfl p517 rfl rfl rfl rfl dX11_init_223 ?_
  refine y_is (ws' := (q, .inr (11, [.ref qt, .ref qc1, .ref qc2, .ref qpa, .ref qbo, .ref qpr, .ref qhe, .ref qdr, .ref qta, .ref qi, .ref qo, .ref qf1, .ref qf2, .ref qs1, .ref qs2, .int 0, .int (-1), .int (-1), .int 0, .int 0])) :: (V ++ ((qo, .inl (cy 1, 4, .inl (upd (upd (upd (upd (fun _ => 0) (nI 0).toNatClampNeg (-1)) (nI 1).toNatClampNeg (-1)) (nI 2).toNatClampNeg (-1)) (nI 3).toNatClampNeg (-1)))) :: []))) rfl ?_
  refine y_aload_n K dX11_init_226 rfl ?_
  refine y_iconst K (-1) dX11_init_227 rfl ?_
  refine y_put K clX11 tyX11_ok nmX11 0 rfl 18 rfl p518 rfl rfl rfl rfl dX11_init_228 ?_
  refine y_is (ws' := (q, .inr (11, [.ref qt, .ref qc1, .ref qc2, .ref qpa, .ref qbo, .ref qpr, .ref qhe, .ref qdr, .ref qta, .ref qi, .ref qo, .ref qf1, .ref qf2, .ref qs1, .ref qs2, .int 0, .int (-1), .int (-1), .int (-1), .int 0])) :: (V ++ ((qo, .inl (cy 1, 4, .inl (upd (upd (upd (upd (fun _ => 0) (nI 0).toNatClampNeg (-1)) (nI 1).toNatClampNeg (-1)) (nI 2).toNatClampNeg (-1)) (nI 3).toNatClampNeg (-1)))) :: []))) rfl ?_
  refine y_aload_n K dX11_init_231 rfl ?_
  refine y_iconst K (-1) dX11_init_232 rfl ?_
  refine y_put K clX11 tyX11_ok nmX11 0 rfl 19 rfl p519 rfl rfl rfl rfl dX11_init_233 ?_
  refine y_is (ws' := (q, .inr (11, [.ref qt, .ref qc1, .ref qc2, .ref qpa, .ref qbo, .ref qpr, .ref qhe, .ref qdr, .ref qta, .ref qi, .ref qo, .ref qf1, .ref qf2, .ref qs1, .ref qs2, .int 0, .int (-1), .int (-1), .int (-1), .int (-1)])) :: (V ++ ((qo, .inl (cy 1, 4, .inl (upd (upd (upd (upd (fun _ => 0) (nI 0).toNatClampNeg (-1)) (nI 1).toNatClampNeg (-1)) (nI 2).toNatClampNeg (-1)) (nI 3).toNatClampNeg (-1)))) :: []))) rfl ?_
  exact y_vret K ((fun k => match k with | 0 => qt | 1 => qf1 | 2 => qf2 | 3 => qc1 | 4 => qc2 | 5 => qpa | 6 => qbo | 7 => qpr | 8 => qhe | 9 => qdr | 10 => qta | 11 => qs1 | 12 => qs2 | 13 => qi | 14 => qi0 | 15 => qi1 | _ => qo), (fun k => match k with | 0 => at_ | 1 => rf1 | 2 => rf2 | 3 => rc1 | 4 => rc2 | 5 => rpa | 6 => rbo | 7 => rpr | 8 => rhe | 9 => rdr | 10 => rta | 11 => rs1 | 12 => rs2 | 13 => (fun _ => 0) | 14 => ri0 | 15 => ri1 | _ => (fun _ => 0)), Tt) rfl (by subst hV hS1 hS0 hW12 hW11 hW10 hW9 hW8 hW7 hW6 hW5 hW4 hW3 hW2 hW1 hW0; rfl) dX11_init_236
