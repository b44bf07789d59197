/-! string constants: their lengths and bytes; what holds of them; the members of String that are called on them -/
/-- the facts of constants, for a world whose cells lie from sz on -/
def SH (g : Gl) (adK adV : Nat → Nat) (sz : Nat) : Prop := (∀ U : State, g.2.2.2.2 U → SX adK adV (fun q => sz ≤ q) U U.heap) ∧ ∀ q : Nat, Aw g q → sz ≤ q
section ZS
variable {X : Cx} {g : Gl} {l : Launch} {cc : ByteArray} {own : String} {nL : Nat} {ret : Option FieldType} {rm : Room} {Q : State → Prop} {R : Rf} {T : Mm} {lv : List (Option Value)} {st : List Value} {pc : Nat} {adK adV : Nat → Nat} {sz : Nat}
theorem sx_of (K : Ok X g l cc own nL ret rm) (hS : SH g adK adV sz) : SX adK adV (fun q => sz ≤ q) X.2.2.2.2.1 X.2.2.2.2.1.heap := hS.1 _ K.2.2.2.2.2.2.2.2.2.2.1
theorem vs_of (hA : ∀ q : Nat, X.2.2.2.2.2.2.2.2.2.2.2.2 q → sz ≤ q) {H : Heap} {locs : List Loc} (hw : Wo X g R T H locs) : va_S (fun q => sz ≤ q) X.2.2.2.2.1.heap H locs := ⟨hw.2.2.1.1, fun q h1 h2 => hw.2.2.1.2.1 q h1 (fun a => h2 (hA q a)), fun q hq => hA _ (hw.2.2.1.2.2 q hq)⟩
theorem z_sget {o n d : String} {idx q : Nat} {v : Value} (K : Ok X g l cc own nL ret rm) (hA : ∀ q : Nat, X.2.2.2.2.2.2.2.2.2.2.2.2 q → sz ≤ q) (hO : va_OF o n d v q (fun q => sz ≤ q) X.2.2.2.2.1 X.2.2.2.2.1.heap) (hm : Cond.fieldLink own idx o n d ∈ gtb) (hd : decode cc pc = .ok (.getfield idx, 3)) (kk : Zj X g nL Q R T lv (v :: st) (pc + 3)) : Zj X g nL Q R T lv (.ref q :: st) pc := fun H locs ls hw h => vk_getf K.1.1 K.1.2.1 hO (vs_of hA hw) K.1.2.2.2.1 (K.ts hm) (fun _ h => h) hd (kk H locs ls hw h)
theorem z_gets {C n d : String} {idx : Nat} {v : Value} (K : Ok X g l cc own nL ret rm) (hA : ∀ q : Nat, X.2.2.2.2.2.2.2.2.2.2.2.2 q → sz ≤ q) (hZ : va_Z C n d v (fun q => sz ≤ q) X.2.2.2.2.1 X.2.2.2.2.1.heap) (hm : Cond.fieldLink own idx C n d ∈ gtb) (hd : decode cc pc = .ok (.getstatic idx, 3)) (kk : Zj X g nL Q R T lv (v :: st) (pc + 3)) : Zj X g nL Q R T lv st pc := fun H locs ls hw h => va_gets K.1.1 K.1.2.1 hZ (vs_of hA hw) K.1.2.2.2.1 (K.ts hm) (fun _ h => h) hd (kk H locs ls hw h)
theorem z_tlen {ty : FieldType} {t N : Nat} {f : Nat → Value} (K : Ok X g l cc own nL ret rm) (hA : ∀ q : Nat, X.2.2.2.2.2.2.2.2.2.2.2.2 q → sz ≤ q) (hT : va_T ty t N f (fun q => sz ≤ q) X.2.2.2.2.1 X.2.2.2.2.1.heap) (hd : decode cc pc = .ok (.arraylength, 1)) (kk : Zj X g nL Q R T lv (.int (nI N) :: st) (pc + 1)) : Zj X g nL Q R T lv (.ref t :: st) pc := fun H locs ls hw h => va_tlen K.1.1 K.1.2.1 hT (vs_of hA hw) rfl hd (kk H locs ls hw h)
theorem z_tb {t N : Nat} {f : Nat → Value} {i : Int32} {v : Value} (K : Ok X g l cc own nL ret rm) (hA : ∀ q : Nat, X.2.2.2.2.2.2.2.2.2.2.2.2 q → sz ≤ q) (hT : va_T .byte t N f (fun q => sz ≤ q) X.2.2.2.2.1 X.2.2.2.2.1.heap) (hin : vp_in i N) (hv : f i.toNatClampNeg = v) (hd : decode cc pc = .ok (.baload, 1)) (kk : Zj X g nL Q R T lv (v :: st) (pc + 1)) : Zj X g nL Q R T lv (.int i :: .ref t :: st) pc := fun H locs ls hw h => va_tb K.1.1 K.1.2.1 hT (vs_of hA hw) hin hv hd (kk H locs ls hw h)
theorem z_ldcS {tx : String} {idx q : Nat} (K : Ok X g l cc own nL ret rm) (hR : vk_R own idx tx q X.2.2.2.2.1) (hd : decode cc pc = .ok (.ldc idx, 2)) (kk : Zj X g nL Q R T lv (.ref q :: st) (pc + 2)) : Zj X g nL Q R T lv st pc := fun H locs ls hw h => va_ldcS K.1.1 K.1.2.1 K.1.2.2.2.1 hR hd (kk H locs ls hw h)
theorem z_i2c (K : Ok X g l cc own nL ret rm) {a : Int32} (v : Int32) (hd : decode cc pc = .ok (.i2c, 1)) (hv : (a.toUInt32 % 65536).toInt32 = v) (kk : Zj X g nL Q R T lv (.int v :: st) (pc + 1)) : Zj X g nL Q R T lv (.int a :: st) pc := fun H locs ls hw h => lv_i2c K.1.1 K.1.2.1 hd hv (kk H locs ls hw h)
theorem z_metIX {y : MethodName} {v : Int32} {R' : Rf} {T' : Mm} {av : List Value} (hy : plainName y.cls = true) (ho : y.cls = own) (hlen : Nat.ble (lg_sl av).length nL = true) (hlv : avl av ++ List.replicate (nL - (avl av).length) none = lv) (body : ∀ X : Cx, Ok X g l cc own nL ret rm → (∀ q : Nat, X.2.2.2.2.2.2.2.2.2.2.2.2 q → Aw g q) → Zj X g nL (QI X g v R' T') R T lv [] 0) : MI l g y cc nL ret rm av R T v R' T' := by
  refine Met.ofW (cc := cc) (maxL := nL) (ret := ret) hy rfl ?_
  intro p e s m args below meth c s₁ B hml hv
  obtain ⟨rfl, hP, hD, hK, hTy, hKp, hE⟩ := hv
  subst ho
  rw [lg_entry_eq]
  exact body (p, l, e, rm, s, m, av.toArray, below, meth, c, 0, 0, Aw g) ⟨⟨B.exec, B.bytes, hml, findClass_of_methodNamed B.named, fun w hw => atoms_spec (ws := wsU y cc nL ret) B.pre w (List.mem_cons_of_mem _ hw)⟩, B.returns, B.notSynchronized, hK, rfl, rfl, Nat.zero_le _, Nat.zero_le _, fun _ h => h, hKp, hE, fun _ _ h => h⟩ (fun _ h => h) s.heap [] _ ⟨hP, hD, va_S.rf, hTy⟩ (lh_entry (Nat.le_of_ble_eq_true hlen) hlv)
theorem z_metVX {y : MethodName} {R' : Rf} {T' : Mm} {av : List Value} (hy : plainName y.cls = true) (ho : y.cls = own) (hlen : Nat.ble (lg_sl av).length nL = true) (hlv : avl av ++ List.replicate (nL - (avl av).length) none = lv) (body : ∀ X : Cx, Ok X g l cc own nL ret rm → (∀ q : Nat, X.2.2.2.2.2.2.2.2.2.2.2.2 q → Aw g q) → Zj X g nL (QV X g R' T') R T lv [] 0) : MV l g y cc nL ret rm av R T R' T' := by
  refine Met.ofW (cc := cc) (maxL := nL) (ret := ret) hy rfl ?_
  intro p e s m args below meth c s₁ B hml hv
  obtain ⟨rfl, hP, hD, hK, hTy, hKp, hE⟩ := hv
  subst ho
  rw [lg_entry_eq]
  exact body (p, l, e, rm, s, m, av.toArray, below, meth, c, 0, 0, Aw g) ⟨⟨B.exec, B.bytes, hml, findClass_of_methodNamed B.named, fun w hw => atoms_spec (ws := wsU y cc nL ret) B.pre w (List.mem_cons_of_mem _ hw)⟩, B.returns, B.notSynchronized, hK, rfl, rfl, Nat.zero_le _, Nat.zero_le _, fun _ h => h, hKp, hE, fun _ _ h => h⟩ (fun _ h => h) s.heap [] _ ⟨hP, hD, va_S.rf, hTy⟩ (lh_entry (Nat.le_of_ble_eq_true hlen) hlv)
/-- a call of an instance method on a cell that is no cell of the world: a constant -/
theorem z_callVIr {y' : MethodName} {cc' : ByteArray} {nL' n idx b : Nat} {ret' : Option FieldType} {C : String} {rm' : Room} {R' : Rf} {T' : Mm} {As rest : List Value} {v : Int32} (K : Ok X g l cc own nL ret rm) (hM : MI l g y' cc' nL' ret' rm' (.ref b :: As) R T v R' T') (hrec : ∀ (H : Heap) (locs : List Loc), Wo X g R T H locs → ∃ cellB : Cell, H[b]? = some cellB ∧ cellB.vm.isStatics = false ∧ X.2.2.2.2.1.vm.findClass C = some cellB.cls) (e : CE y' cc' nL' ret' C n) (hm : Cond.methodLink own idx y' ∈ gtb) (hr : fitR rm' rm nL') (hn : As.length = n) (hst : st = As.reverse ++ .ref b :: rest) (hW : Nat.ble (2 * 0 + (rest.map fun v => v.category).sum) 8 = true) (hd : decode cc pc = .ok (.invokevirtual idx, 3)) (kk : Zj X g nL Q R' T' lv (.int v :: rest) (pc + 3)) : Zj X g nL Q R T lv st pc := by
  intro H locs ls hw h
  have hl := K.2.2.2.2.2.1
  subst hl
  refine va_calli (va_runV (As := As) (rest := rest) K.1 hM (z_cw K e hm hr) ⟨wp_blind, hrec H locs hw, fun U hU hW => ⟨rfl, by rw [hU]; exact hw.1, awD hw.2.1, va_K.moved hW.alike K.2.2.2.1, hw.2.2.2, K.2.2.2.2.2.2.2.2.2.1, okE K hw hU hW⟩⟩ rfl hn h.1 hst (Nat.le_of_ble_eq_true hW) hd ⟨by rw [K.2.2.2.2.1]; exact K.2.2.2.2.2.2.1, by rw [K.2.2.2.2.1]; exact K.2.2.2.2.2.2.2.1⟩) hw.2.2.1 (fun q _ h => K.2.2.2.2.2.2.2.2.1 q h) (fun q h => K.2.2.2.2.2.2.2.2.1 q h) (fun r u t H1 locs1 ht hvm hp hB hz1 hk1 hS => ?_)
  obtain ⟨rfl, rfl⟩ := hp
  exact kk H1 locs1 ls (wo_call K ht hB hS) h
theorem z_callSV {y' : MethodName} {cc' : ByteArray} {nL' n idx : Nat} {ret' : Option FieldType} {rm' : Room} {R' : Rf} {T' : Mm} {As rest : List Value} (K : Ok X g l cc own nL ret rm) (hM : MV l g y' cc' nL' ret' rm' As R T R' T') (e : CS y' cc' nL' ret' n) (hm : Cond.methodLink own idx y' ∈ gtb) (hr : fitR rm' rm nL') (hn : As.length = n) (hst : st = As.reverse ++ rest) (hW : Nat.ble (2 * 0 + (rest.map fun v => v.category).sum) 8 = true) (hd : decode cc pc = .ok (.invokestatic idx, 3)) (kk : Zj X g nL Q R' T' lv rest (pc + 3)) : Zj X g nL Q R T lv st pc := by
  intro H locs ls hw h
  have hl := K.2.2.2.2.2.1
  subst hl
  refine va_callv (va_runS (As := As) (rest := rest) K.1 hM (z_cb K e hm hr) ⟨wp_blind, fun U hU hW => ⟨rfl, by rw [hU]; exact hw.1, awD hw.2.1, va_K.moved hW.alike K.2.2.2.1, hw.2.2.2, K.2.2.2.2.2.2.2.2.2.1, okE K hw hU hW⟩⟩ rfl hn h.1 hst (Nat.le_of_ble_eq_true hW) hd ⟨by rw [K.2.2.2.2.1]; exact K.2.2.2.2.2.2.1, by rw [K.2.2.2.2.1]; exact K.2.2.2.2.2.2.2.1⟩) hw.2.2.1 (fun q _ h => K.2.2.2.2.2.2.2.2.1 q h) (fun q h => K.2.2.2.2.2.2.2.2.1 q h) (fun u t H1 locs1 ht hvm hp hB hz1 hk1 hS => ?_)
  subst hp
  exact kk H1 locs1 ls (wo_call K ht hB hS) h
theorem s_recv (K : Ok X g l cc own nL ret rm) (hS : SH g adK adV sz) (hA : ∀ q : Nat, X.2.2.2.2.2.2.2.2.2.2.2.2 q → sz ≤ q) {i : Nat} (hi : i < 5) (H : Heap) (locs : List Loc) (hw : Wo X g R T H locs) : ∃ cellB : Cell, H[adK i]? = some cellB ∧ cellB.vm.isStatics = false ∧ X.2.2.2.2.1.vm.findClass RJ0 = some cellB.cls := vk_recv (sx_of K hS).1 hi (vs_of hA hw)
end ZS
theorem sq1 : Cond.fieldLink RJ0 9 "java/lang/String" "value" "[B" ∈ gtb := tb 1970 (by decide +kernel) rfl
theorem sq2 : Cond.fieldLink RJ0 15 "java/lang/String" "coder" "B" ∈ gtb := tb 1971 (by decide +kernel) rfl
theorem sq3 : Cond.fieldLink RJ0 38 "java/lang/String" "COMPACT_STRINGS" "Z" ∈ gtb := tb 152 (by decide +kernel) rfl
theorem sq4 : Cond.fieldLink RJ0 1053 "jdk/internal/util/Preconditions" "SIOOBE_FORMATTER" "Ljava/util/function/BiFunction;" ∈ gtb := tb 168 (by decide +kernel) rfl
theorem sm1 : Cond.methodLink RJ0 335 yJ0_coder_7d493 ∈ gtb := tb 148 (by decide +kernel) rfl
theorem sm2 : Cond.methodLink RJ0 492 yJ0_isLatin1_aae02 ∈ gtb := tb 158 (by decide +kernel) rfl
theorem sm3 : Cond.methodLink RJ0 495 yJ1_charAt_3b067 ∈ gtb := tb 162 (by decide +kernel) rfl
theorem sm4 : Cond.methodLink RJ1 9 yJ0_checkIndex_df160 ∈ gtb := tb 165 (by decide +kernel) rfl
theorem sm5 : Cond.methodLink RJ0 1059 yJ3_checkIndex_8e157 ∈ gtb := tb 170 (by decide +kernel) rfl
theorem ceJ0_length_8abf5 : CE yJ0_length_8abf5 cJ0_length_8abf5 1 (some .int) RJ0 0 := ⟨⟨tb 145 (by decide +kernel) rfl, tb 146 (by decide +kernel) rfl, tb 107 (by decide +kernel) rfl, tb 147 (by decide +kernel) rfl⟩, by decide +kernel⟩
theorem ceJ0_charAt_5068e : CE yJ0_charAt_5068e cJ0_charAt_5068e 2 (some .char) RJ0 1 := ⟨⟨tb 155 (by decide +kernel) rfl, tb 156 (by decide +kernel) rfl, tb 107 (by decide +kernel) rfl, tb 157 (by decide +kernel) rfl⟩, by decide +kernel⟩
theorem ceJ0_coder_7d493 : CE yJ0_coder_7d493 cJ0_coder_7d493 1 (some .byte) RJ0 0 := ⟨⟨tb 149 (by decide +kernel) rfl, tb 150 (by decide +kernel) rfl, tb 107 (by decide +kernel) rfl, tb 151 (by decide +kernel) rfl⟩, by decide +kernel⟩
theorem ceJ0_isLatin1_aae02 : CE yJ0_isLatin1_aae02 cJ0_isLatin1_aae02 1 (some .boolean) RJ0 0 := ⟨⟨tb 159 (by decide +kernel) rfl, tb 160 (by decide +kernel) rfl, tb 107 (by decide +kernel) rfl, tb 161 (by decide +kernel) rfl⟩, by decide +kernel⟩
theorem ceJ0_checkIndex_df160 : CS yJ0_checkIndex_df160 cJ0_checkIndex_df160 2 none 2 := ⟨⟨tb 166 (by decide +kernel) rfl, tb 107 (by decide +kernel) rfl, tb 167 (by decide +kernel) rfl⟩, by decide +kernel⟩
theorem ceJ1_charAt_3b067 : CS yJ1_charAt_3b067 cJ1_charAt_3b067 2 (some .char) 2 := ⟨⟨tb 163 (by decide +kernel) rfl, tb 108 (by decide +kernel) rfl, tb 164 (by decide +kernel) rfl⟩, by decide +kernel⟩
theorem ceJ3_checkIndex_8e157 : CS yJ3_checkIndex_8e157 cJ3_checkIndex_8e157 3 (some .int) 3 := ⟨⟨tb 171 (by decide +kernel) rfl, tb 109 (by decide +kernel) rfl, tb 172 (by decide +kernel) rfl⟩, by decide +kernel⟩
section ZJ
variable {g : Gl} {l : Launch} {R : Rf} {T : Mm} {adK adV : Nat → Nat} {sz : Nat}
abbrev rmJa : Room := { frames := 0, cells := 0, slots := 0, locals := 0 }
abbrev rmJb : Room := { frames := 1, cells := 0, slots := 0, locals := 40 }
abbrev rmJc : Room := { frames := 2, cells := 0, slots := 0, locals := 80 }
abbrev rmJd : Room := { frames := 3, cells := 0, slots := 0, locals := 120 }
abbrev rmJe : Room := { frames := 4, cells := 0, slots := 0, locals := 160 }
theorem mJ_coder (hS : SH g adK adV sz) {i : Nat} (hi : i < 5) : MI l g yJ0_coder_7d493 cJ0_coder_7d493 1 (some .byte) rmJa [.ref (adK i)] R T 0 R T := by
  refine z_metIX (own := RJ0) (lv := [some (.ref (adK i))]) (by decide +kernel) rfl rfl rfl (fun X K hXA => ?_)
  have hA : ∀ q : Nat, X.2.2.2.2.2.2.2.2.2.2.2.2 q → sz ≤ q := fun q h => hS.2 q (hXA q h)
  have hx := sx_of K hS
  refine z_gets K hA hx.2.1 sq3 dJ0_coder_7d493_0 ?_
  refine z_if_eq K 13 dJ0_coder_7d493_3 (by decide) (fun c => absurd c (by decide)) (fun _ => ?_)
  refine z_aload_n K dJ0_coder_7d493_6 rfl ?_
  refine z_sget K hA (hx.1.1 i hi).2.1 sq2 dJ0_coder_7d493_7 ?_
  refine z_goto K 14 dJ0_coder_7d493_10 (by decide) ?_
  exact z_zret K rfl dJ0_coder_7d493_14
theorem mJ_isLatin1 (hS : SH g adK adV sz) {i : Nat} (hi : i < 5) : MI l g yJ0_isLatin1_aae02 cJ0_isLatin1_aae02 1 (some .boolean) rmJa [.ref (adK i)] R T 1 R T := by
  refine z_metIX (own := RJ0) (lv := [some (.ref (adK i))]) (by decide +kernel) rfl rfl rfl (fun X K hXA => ?_)
  have hA : ∀ q : Nat, X.2.2.2.2.2.2.2.2.2.2.2.2 q → sz ≤ q := fun q h => hS.2 q (hXA q h)
  have hx := sx_of K hS
  refine z_gets K hA hx.2.1 sq3 dJ0_isLatin1_aae02_0 ?_
  refine z_if_eq K 17 dJ0_isLatin1_aae02_3 (by decide) (fun c => absurd c (by decide)) (fun _ => ?_)
  refine z_aload_n K dJ0_isLatin1_aae02_6 rfl ?_
  refine z_sget K hA (hx.1.1 i hi).2.1 sq2 dJ0_isLatin1_aae02_7 ?_
  refine z_if_ne K 17 dJ0_isLatin1_aae02_10 (by decide) (fun c => absurd rfl c) (fun _ => ?_)
  refine z_iconst K 1 dJ0_isLatin1_aae02_13 rfl ?_
  refine z_goto K 18 dJ0_isLatin1_aae02_14 (by decide) ?_
  exact z_zret K rfl dJ0_isLatin1_aae02_18
theorem lnS_lt : ∀ i, i < 5 → lnS i < 2 ^ 31 := by decide
theorem mJ_length (hS : SH g adK adV sz) {i : Nat} (hi : i < 5) : MI l g yJ0_length_8abf5 cJ0_length_8abf5 1 (some .int) rmJb [.ref (adK i)] R T (nI (lnS i)) R T := by
  refine z_metIX (own := RJ0) (lv := [some (.ref (adK i))]) (by decide +kernel) rfl rfl rfl (fun X K hXA => ?_)
  have hA : ∀ q : Nat, X.2.2.2.2.2.2.2.2.2.2.2.2 q → sz ≤ q := fun q h => hS.2 q (hXA q h)
  have hx := sx_of K hS
  refine z_aload_n K dJ0_length_8abf5_0 rfl ?_
  refine z_sget K hA (hx.1.1 i hi).2.2.1 sq1 dJ0_length_8abf5_1 ?_
  refine z_tlen K hA (hx.1.1 i hi).2.2.2 dJ0_length_8abf5_4 ?_
  refine z_aload_n K dJ0_length_8abf5_5 rfl ?_
  refine z_callVIr K (mJ_coder hS hi) (s_recv K hS hA hi) ceJ0_coder_7d493 sm1 ⟨rfl, rfl, rfl, rfl⟩ rfl rfl rfl dJ0_length_8abf5_6 ?_
  refine z_ishr K dJ0_length_8abf5_9 ?_
  have e : nI (lenS.getD i 0) >>> ((0 : Int32) &&& 31) = nI (lnS i) := sc_shr0 (lnS_lt i hi)
  rw [e]
  exact z_iret K dJ0_length_8abf5_10
theorem mJ_check3 {x n : Int32} {a : Value} (ha : a.isRef = true) (h0 : ¬ x < 0) (h1 : x < n) : MI l g yJ3_checkIndex_8e157 cJ3_checkIndex_8e157 3 (some .int) rmJa [.int x, .int n, a] R T x R T := by
  have hc : a.category = 1 := by cases a <;> first | rfl | cases ha
  refine z_metI (own := RJ3) (lv := [some (.int x), some (.int n), some a]) (by decide +kernel) rfl (by show Nat.ble (lg_sl [.int x, .int n, a]).length 3 = true; cases a <;> first | rfl | cases ha) (by cases a <;> first | rfl | cases ha) (fun X K => ?_)
  refine z_iload_n K dJ3_checkIndex_8e157_0 rfl ?_
  refine z_if_lt K 9 dJ3_checkIndex_8e157_1 (by decide) (fun c => absurd c h0) (fun _ => ?_)
  refine z_iload_n K dJ3_checkIndex_8e157_4 rfl ?_
  refine z_iload_n K dJ3_checkIndex_8e157_5 rfl ?_
  refine z_icmp_lt K 16 dJ3_checkIndex_8e157_6 (by decide) (fun _ => ?_) (fun c => absurd h1 c)
  refine z_iload_n K dJ3_checkIndex_8e157_16 rfl ?_
  exact z_iret K dJ3_checkIndex_8e157_17
theorem mJ_check (hS : SH g adK adV sz) {x n : Int32} (h0 : ¬ x < 0) (h1 : x < n) : MV l g yJ0_checkIndex_df160 cJ0_checkIndex_df160 2 none rmJb [.int x, .int n] R T R T := by
  refine z_metVX (own := RJ0) (lv := [some (.int x), some (.int n)]) (by decide +kernel) rfl rfl rfl (fun X K hXA => ?_)
  have hA : ∀ q : Nat, X.2.2.2.2.2.2.2.2.2.2.2.2 q → sz ≤ q := fun q h => hS.2 q (hXA q h)
  have hx := sx_of K hS
  refine z_iload_n K dJ0_checkIndex_df160_0 rfl ?_
  refine z_iload_n K dJ0_checkIndex_df160_1 rfl ?_
  rcases hx.2.2.1 with hz | ⟨t, hz⟩
  · refine z_gets K hA hz sq4 dJ0_checkIndex_df160_2 ?_
    refine z_callSI K (mJ_check3 (a := .null) rfl h0 h1) ceJ3_checkIndex_8e157 sm5 ⟨rfl, rfl, rfl, rfl⟩ rfl rfl rfl dJ0_checkIndex_df160_5 ?_
    refine z_pop K dJ0_checkIndex_df160_8 rfl ?_
    exact z_vret K dJ0_checkIndex_df160_9
  · refine z_gets K hA hz sq4 dJ0_checkIndex_df160_2 ?_
    refine z_callSI K (mJ_check3 (a := .ref t) rfl h0 h1) ceJ3_checkIndex_8e157 sm5 ⟨rfl, rfl, rfl, rfl⟩ rfl rfl rfl dJ0_checkIndex_df160_5 ?_
    refine z_pop K dJ0_checkIndex_df160_8 rfl ?_
    exact z_vret K dJ0_checkIndex_df160_9
theorem mJ_charAt1 (hS : SH g adK adV sz) {i : Nat} (hi : i < 5) {x : Int32} (hx1 : vp_in x (lnS i)) : MI l g yJ1_charAt_3b067 cJ1_charAt_3b067 2 (some .char) rmJc [.ref (adV i), .int x] R T (chS i x.toNatClampNeg) R T := by
  have h0 : ¬ x < 0 := fun c => hx1 (Or.inl c)
  have h1 : x < nI (lnS i) := by
    obtain ⟨j, hj, rfl⟩ := vp_in_of hx1 (lnS_lt i hi)
    exact nI_lt hj (lnS_lt i hi)
  refine z_metIX (own := RJ1) (lv := [some (.ref (adV i)), some (.int x)]) (by decide +kernel) rfl rfl rfl (fun X K hXA => ?_)
  have hA : ∀ q : Nat, X.2.2.2.2.2.2.2.2.2.2.2.2 q → sz ≤ q := fun q h => hS.2 q (hXA q h)
  have hx := sx_of K hS
  refine z_iload_n K dJ1_charAt_3b067_0 rfl ?_
  refine z_aload_n K dJ1_charAt_3b067_1 rfl ?_
  refine z_tlen K hA (hx.1.1 i hi).2.2.2 dJ1_charAt_3b067_2 ?_
  refine z_callSV K (mJ_check hS h0 h1) ceJ0_checkIndex_df160 sm4 ⟨rfl, rfl, rfl, rfl⟩ rfl rfl rfl dJ1_charAt_3b067_3 ?_
  refine z_aload_n K dJ1_charAt_3b067_6 rfl ?_
  refine z_iload_n K dJ1_charAt_3b067_7 rfl ?_
  refine z_tb K hA (hx.1.1 i hi).2.2.2 hx1 rfl dJ1_charAt_3b067_8 ?_
  refine z_sipush K 255 dJ1_charAt_3b067_9 rfl ?_
  refine z_iand K dJ1_charAt_3b067_12 ?_
  refine z_i2c K (chS i x.toNatClampNeg) dJ1_charAt_3b067_13 (sc_c2 _) ?_
  exact z_zret K (sc_nar _) dJ1_charAt_3b067_14
theorem mJ_charAt (hS : SH g adK adV sz) {i : Nat} (hi : i < 5) {x : Int32} (hx1 : vp_in x (lnS i)) : MI l g yJ0_charAt_5068e cJ0_charAt_5068e 2 (some .char) rmJd [.ref (adK i), .int x] R T (chS i x.toNatClampNeg) R T := by
  refine z_metIX (own := RJ0) (lv := [some (.ref (adK i)), some (.int x)]) (by decide +kernel) rfl rfl rfl (fun X K hXA => ?_)
  have hA : ∀ q : Nat, X.2.2.2.2.2.2.2.2.2.2.2.2 q → sz ≤ q := fun q h => hS.2 q (hXA q h)
  have hx := sx_of K hS
  refine z_aload_n K dJ0_charAt_5068e_0 rfl ?_
  refine z_callVIr K (mJ_isLatin1 hS hi) (s_recv K hS hA hi) ceJ0_isLatin1_aae02 sm2 ⟨rfl, rfl, rfl, rfl⟩ rfl rfl rfl dJ0_charAt_5068e_1 ?_
  refine z_if_eq K 16 dJ0_charAt_5068e_4 (by decide) (fun c => absurd c (by decide)) (fun _ => ?_)
  refine z_aload_n K dJ0_charAt_5068e_7 rfl ?_
  refine z_sget K hA (hx.1.1 i hi).2.2.1 sq1 dJ0_charAt_5068e_8 ?_
  refine z_iload_n K dJ0_charAt_5068e_11 rfl ?_
  refine z_callSI K (mJ_charAt1 hS hi hx1) ceJ1_charAt_3b067 sm3 ⟨rfl, rfl, rfl, rfl⟩ rfl rfl rfl dJ0_charAt_5068e_12 ?_
  exact z_zret K (sc_nar _) dJ0_charAt_5068e_15
end ZJ
