/-! the class's person and mean, which throw -/
abbrev rmPx : Room := { frames := 6, cells := 1, slots := 6, locals := 130 }
theorem qpStraw : Cond.fieldLink RX11 149 (TX3 5).1 (TX3 5).2.1 (TX3 5).2.2.1 ∈ gtb := List.mem_filter.mpr ⟨by decide +kernel, rfl⟩
theorem qpCommon : Cond.methodLink RX11 312 yX11_commonOf ∈ gtb := List.mem_filter.mpr ⟨by decide +kernel, rfl⟩
def pX11_person (R : Rf) (T : Mm) (a0 : Nat) (x1 : Int32) (x2 : Int32) : Option (Option Int32 × Mm) :=
  bd1 (pX3_hasPerson R T (R a0 11) x1) (fun (u1 : Int32) => if u1 = 0 then some (none, T) else if x2 = 0 then ix x1 5 (some (some (T.1 (R (R a0 11) 5) x1.toNatClampNeg), T)) else if x2 = 1 then ix x1 5 (some (some (T.1 (R (R a0 1) 4) x1.toNatClampNeg), T)) else if x2 = 2 then bd1 (pX1_weight R T (R a0 1) (R a0 11) x1) (fun (u2 : Int32) => some (some u2, T)) else if x2 = 3 then bd2 (pX6_asTheyAre R T (R a0 5) (R a0 11) (R a0 1) x1) (fun (u3 : Int32) (T3 : Mm) => some (some u3, T3)) else if x2 = 4 then bd1 (pX3_itemsOf R T (R a0 11) x1) (fun (u4 : Int32) => some (some ((T.1 (R a0 1) 1) &&& u4), T)) else if x2 = 5 then bd1 (pX3_itemsOf R T (R a0 11) x1) (fun (u5 : Int32) => some (some u5, T)) else some (none, T))
def pX11_mean (R : Rf) (T : Mm) (a0 : Nat) (x1 : Int32) (x2 : Int32) : Option (Option Int32 × Mm) :=
  bd1 (pX3_hasPerson R T (R a0 11) x1) (fun (u1 : Int32) => if u1 = 0 then some (none, T) else bd1 (pX1_weight R T (R a0 1) (R a0 11) x1) (fun (u2 : Int32) => bd1 (pX3_itemsOf R T (R a0 11) x1) (fun (u3 : Int32) => bd1 (pJ6_bitCount_0f7a4 R T ((T.1 (R a0 1) 1) &&& u3)) (fun (u4 : Int32) => if u4 = 0 then some (none, T) else bd1 (pX11_commonOf R T u2 u4) (fun (u5 : Int32) => if x2 = 0 then nz u5 (some (some (u2 / u5), T)) else if x2 = 1 then nz u5 (some (some (u4 / u5), T)) else some (none, T))))))
theorem z_look {X : Cx} {g : Gl} {l : Launch} {cc : ByteArray} {own : String} {nL : Nat} {ret : Option FieldType} {rm : Room} {Q : State → Prop} {R : Rf} {T : Mm} {lv : List (Option Value)} {st : List Value} {pc : Nat} (K : Ok X g l cc own nL ret rm) {dflt : Int} {ps : Array (Int × Int)} {len : Nat} {x : Int32} {off : Int} (tgt : Nat) (hd : decode cc pc = .ok (.lookupswitch dflt ps, len)) (hp : (ps.toList.zip (ps.toList.drop 1)).all (fun (a, next) => a.1 < next.1) = true) (ho : Op.lookupswitch.offset ps.toList dflt x.toInt = off) (ht : (pc : Int) + off = (tgt : Int)) (kk : Zj X g nL Q R T lv st tgt) : Zj X g nL Q R T lv (.int x :: st) pc := fun H locs ls hw h => lv_lookup K.1.1 K.1.2.1 hd hp ho ht (kk H locs ls hw h)
set_option maxRecDepth 100000 in
set_option maxHeartbeats 4000000 in
theorem mX11_person {g : Gl} {R : Rf} {T : Mm} {a0 : Nat} {x1 : Int32} {x2 : Int32} {l : Launch} {ad : Nat → Nat} {sz : Nat} (hT : TH g ad sz) (hl : l.stackTraces = false) (hR : Ty g R) (k0 : kd g a0 = 11) {r : Option Int32 × Mm} (h : pX11_person R T a0 x1 x2 = some r) : MPx l g yX11_person cX11_person 3 (some .int) rmPx [.ref (g.2.2.1 a0), .int x1, .int x2] R T r.1 R r.2 := by
  refine z_metP (own := RX11) (lv := [some (.ref (g.2.2.1 a0)), some (.int x1), some (.int x2)]) (by decide +kernel) rfl rfl rfl (fun X K hP => ?_)
  unfold pX11_person at h
  refine z_aload_n K dX11_person_0 rfl ?_
  refine z_getR K clX11 k0 11 rfl rfl q511 dX11_person_1 ?_
  refine z_iload_n K dX11_person_4 rfl ?_
  obtain ⟨u1, hc, h⟩ := bd1_e h
  refine z_callVI K (mX3_hasPerson l hR (hR.at (k := 11) (t := 3) k0 rfl rfl) hc) clX3 (hR.at (k := 11) (t := 3) k0 rfl rfl) ceX3_hasPerson q786 ⟨rfl, rfl, rfl, rfl⟩ rfl rfl rfl dX11_person_5 ?_
  refine z_if_ne K 21 dX11_person_8 (by decide) (fun c => ?_) (fun c => ?_)
  · have h := ite_f h c
    refine z_iload_n K dX11_person_21 rfl ?_
    rcases ite_or h with ⟨c0, h⟩ | ⟨c0, h⟩
    · refine z_tin K 60 0 c0 dX11_person_22 (by decide) (by decide) rfl (by decide) ?_
      refine z_aload_n K dX11_person_60 rfl ?_
      refine z_getR K clX11 k0 11 rfl rfl q511 dX11_person_61 ?_
      refine z_getR K clX3 (hR.at (k := 11) (t := 3) k0 rfl rfl) 5 rfl rfl qpStraw dX11_person_64 ?_
      refine z_iload_n K dX11_person_67 rfl ?_
      obtain ⟨hi, h⟩ := ix_e h
      refine z_iald K (hR.at (k := 5) (t := 20005) (hR.at (k := 11) (t := 3) k0 rfl rfl) rfl rfl) rfl rfl rfl hi dX11_person_68 ?_
      obtain rfl := Option.some.inj h
      exact z_retP K hP dX11_person_69
    rcases ite_or h with ⟨c1, h⟩ | ⟨c1, h⟩
    · refine z_tin K 70 1 c1 dX11_person_22 (by decide) (by decide) rfl (by decide) ?_
      refine z_aload_n K dX11_person_70 rfl ?_
      refine z_getR K clX11 k0 1 rfl rfl q501 dX11_person_71 ?_
      refine z_getR K clX1 (hR.at (k := 1) (t := 1) k0 rfl rfl) 4 rfl rfl q347 dX11_person_74 ?_
      refine z_iload_n K dX11_person_77 rfl ?_
      obtain ⟨hi, h⟩ := ix_e h
      refine z_iald K (hR.at (k := 4) (t := 20005) (hR.at (k := 1) (t := 1) k0 rfl rfl) rfl rfl) rfl rfl rfl hi dX11_person_78 ?_
      obtain rfl := Option.some.inj h
      exact z_retP K hP dX11_person_79
    rcases ite_or h with ⟨c2, h⟩ | ⟨c2, h⟩
    · refine z_tin K 80 2 c2 dX11_person_22 (by decide) (by decide) rfl (by decide) ?_
      refine z_aload_n K dX11_person_80 rfl ?_
      refine z_getR K clX11 k0 1 rfl rfl q501 dX11_person_81 ?_
      refine z_aload_n K dX11_person_84 rfl ?_
      refine z_getR K clX11 k0 11 rfl rfl q511 dX11_person_85 ?_
      refine z_iload_n K dX11_person_88 rfl ?_
      obtain ⟨u2, hc, h⟩ := bd1_e h
      refine z_callVI K (mX1_weight l hR (hR.at (k := 1) (t := 1) k0 rfl rfl) (hR.at (k := 11) (t := 3) k0 rfl rfl) hc) clX1 (hR.at (k := 1) (t := 1) k0 rfl rfl) ceX1_weight q964 ⟨rfl, rfl, rfl, rfl⟩ rfl rfl rfl dX11_person_89 ?_
      obtain rfl := Option.some.inj h
      exact z_retP K hP dX11_person_92
    rcases ite_or h with ⟨c3, h⟩ | ⟨c3, h⟩
    · refine z_tin K 93 3 c3 dX11_person_22 (by decide) (by decide) rfl (by decide) ?_
      refine z_aload_n K dX11_person_93 rfl ?_
      refine z_getR K clX11 k0 5 rfl rfl q505 dX11_person_94 ?_
      refine z_aload_n K dX11_person_97 rfl ?_
      refine z_getR K clX11 k0 11 rfl rfl q511 dX11_person_98 ?_
      refine z_aload_n K dX11_person_101 rfl ?_
      refine z_getR K clX11 k0 1 rfl rfl q501 dX11_person_102 ?_
      refine z_iload_n K dX11_person_105 rfl ?_
      obtain ⟨u3, T3, hc, h⟩ := bd2_e h
      refine z_callVI K (mX6_asTheyAre l hR (hR.at (k := 5) (t := 6) k0 rfl rfl) (hR.at (k := 11) (t := 3) k0 rfl rfl) (hR.at (k := 1) (t := 1) k0 rfl rfl) hc) clX6 (hR.at (k := 5) (t := 6) k0 rfl rfl) ceX6_asTheyAre q1019 ⟨rfl, rfl, rfl, rfl⟩ rfl rfl rfl dX11_person_106 ?_
      obtain rfl := Option.some.inj h
      exact z_retP K hP dX11_person_109
    rcases ite_or h with ⟨c4, h⟩ | ⟨c4, h⟩
    · refine z_tin K 110 4 c4 dX11_person_22 (by decide) (by decide) rfl (by decide) ?_
      refine z_aload_n K dX11_person_110 rfl ?_
      refine z_getR K clX11 k0 1 rfl rfl q501 dX11_person_111 ?_
      refine z_getI K clX1 (hR.at (k := 1) (t := 1) k0 rfl rfl) 1 rfl rfl q339 dX11_person_114 ?_
      refine z_aload_n K dX11_person_117 rfl ?_
      refine z_getR K clX11 k0 11 rfl rfl q511 dX11_person_118 ?_
      refine z_iload_n K dX11_person_121 rfl ?_
      obtain ⟨u4, hc, h⟩ := bd1_e h
      refine z_callVI K (mX3_itemsOf l hR (hR.at (k := 11) (t := 3) k0 rfl rfl) hc) clX3 (hR.at (k := 11) (t := 3) k0 rfl rfl) ceX3_itemsOf q910 ⟨rfl, rfl, rfl, rfl⟩ rfl rfl rfl dX11_person_122 ?_
      refine z_iand K dX11_person_125 ?_
      obtain rfl := Option.some.inj h
      exact z_retP K hP dX11_person_126
    rcases ite_or h with ⟨c5, h⟩ | ⟨c5, h⟩
    · refine z_tin K 127 5 c5 dX11_person_22 (by decide) (by decide) rfl (by decide) ?_
      refine z_aload_n K dX11_person_127 rfl ?_
      refine z_getR K clX11 k0 11 rfl rfl q511 dX11_person_128 ?_
      refine z_iload_n K dX11_person_131 rfl ?_
      obtain ⟨u5, hc, h⟩ := bd1_e h
      refine z_callVI K (mX3_itemsOf l hR (hR.at (k := 11) (t := 3) k0 rfl rfl) hc) clX3 (hR.at (k := 11) (t := 3) k0 rfl rfl) ceX3_itemsOf q910 ⟨rfl, rfl, rfl, rfl⟩ rfl rfl rfl dX11_person_132 ?_
      obtain rfl := Option.some.inj h
      exact z_retP K hP dX11_person_135
    refine z_tout K 136 6 (lt_p (lt_s (lt_s (lt_s (lt_s (lt_s (lt_s lt_0 c0) c1) c2) c3) c4) c5)) dX11_person_22 (by decide) (by decide) (by decide) ?_
    obtain rfl := Option.some.inj h
    exact z_throw K hP hT hl (fun _ h => h.2.1.2.1) ⟨rfl, rfl, rfl, rfl⟩ dX11_person_136 dX11_person_139 dX11_person_140 dX11_person_142 dX11_person_145
  · have h := ite_t h c
    obtain rfl := Option.some.inj h
    exact z_throw K hP hT hl (fun _ h => h.2.1.1) ⟨rfl, rfl, rfl, rfl⟩ dX11_person_11 dX11_person_14 dX11_person_15 dX11_person_17 dX11_person_20
set_option maxRecDepth 100000 in
set_option maxHeartbeats 4000000 in
theorem mX11_mean {g : Gl} {R : Rf} {T : Mm} {a0 : Nat} {x1 : Int32} {x2 : Int32} {l : Launch} {ad : Nat → Nat} {sz : Nat} (hT : TH g ad sz) (hl : l.stackTraces = false) (hR : Ty g R) (k0 : kd g a0 = 11) {r : Option Int32 × Mm} (h : pX11_mean R T a0 x1 x2 = some r) : MPx l g yX11_mean cX11_mean 6 (some .int) rmPx [.ref (g.2.2.1 a0), .int x1, .int x2] R T r.1 R r.2 := by
  refine z_metP (own := RX11) (lv := [some (.ref (g.2.2.1 a0)), some (.int x1), some (.int x2), none, none, none]) (by decide +kernel) rfl rfl rfl (fun X K hP => ?_)
  unfold pX11_mean at h
  refine z_aload_n K dX11_mean_0 rfl ?_
  refine z_getR K clX11 k0 11 rfl rfl q511 dX11_mean_1 ?_
  refine z_iload_n K dX11_mean_4 rfl ?_
  obtain ⟨u1, hc, h⟩ := bd1_e h
  refine z_callVI K (mX3_hasPerson l hR (hR.at (k := 11) (t := 3) k0 rfl rfl) hc) clX3 (hR.at (k := 11) (t := 3) k0 rfl rfl) ceX3_hasPerson q786 ⟨rfl, rfl, rfl, rfl⟩ rfl rfl rfl dX11_mean_5 ?_
  refine z_if_ne K 21 dX11_mean_8 (by decide) (fun c => ?_) (fun c => ?_)
  · have h := ite_f h c
    refine z_aload_n K dX11_mean_21 rfl ?_
    refine z_getR K clX11 k0 1 rfl rfl q501 dX11_mean_22 ?_
    refine z_aload_n K dX11_mean_25 rfl ?_
    refine z_getR K clX11 k0 11 rfl rfl q511 dX11_mean_26 ?_
    refine z_iload_n K dX11_mean_29 rfl ?_
    obtain ⟨u2, hc, h⟩ := bd1_e h
    refine z_callVI K (mX1_weight l hR (hR.at (k := 1) (t := 1) k0 rfl rfl) (hR.at (k := 11) (t := 3) k0 rfl rfl) hc) clX1 (hR.at (k := 1) (t := 1) k0 rfl rfl) ceX1_weight q964 ⟨rfl, rfl, rfl, rfl⟩ rfl rfl rfl dX11_mean_30 ?_
    refine z_istore_n K dX11_mean_33 rfl rfl ?_
    refine z_aload_n K dX11_mean_34 rfl ?_
    refine z_getR K clX11 k0 1 rfl rfl q501 dX11_mean_35 ?_
    refine z_getI K clX1 (hR.at (k := 1) (t := 1) k0 rfl rfl) 1 rfl rfl q339 dX11_mean_38 ?_
    refine z_aload_n K dX11_mean_41 rfl ?_
    refine z_getR K clX11 k0 11 rfl rfl q511 dX11_mean_42 ?_
    refine z_iload_n K dX11_mean_45 rfl ?_
    obtain ⟨u3, hc, h⟩ := bd1_e h
    refine z_callVI K (mX3_itemsOf l hR (hR.at (k := 11) (t := 3) k0 rfl rfl) hc) clX3 (hR.at (k := 11) (t := 3) k0 rfl rfl) ceX3_itemsOf q910 ⟨rfl, rfl, rfl, rfl⟩ rfl rfl rfl dX11_mean_46 ?_
    refine z_iand K dX11_mean_49 ?_
    obtain ⟨u4, hc, h⟩ := bd1_e h
    refine z_callSI K (mJ6_bitCount_0f7a4 l hR hc) ceJ6_bitCount_0f7a4 q930 ⟨rfl, rfl, rfl, rfl⟩ rfl rfl rfl dX11_mean_50 ?_
    refine z_istore K dX11_mean_53 rfl rfl ?_
    refine z_iload K dX11_mean_55 rfl ?_
    refine z_if_ne K 71 dX11_mean_57 (by decide) (fun c => ?_) (fun c => ?_)
    · have h := ite_f h c
      refine z_iload_n K dX11_mean_71 rfl ?_
      refine z_iload K dX11_mean_72 rfl ?_
      obtain ⟨u5, hc, h⟩ := bd1_e h
      refine z_callSI K (mX11_commonOf l hR hc) ceX11_commonOf qpCommon ⟨rfl, rfl, rfl, rfl⟩ rfl rfl rfl dX11_mean_74 ?_
      refine z_istore K dX11_mean_77 rfl rfl ?_
      refine z_iload_n K dX11_mean_79 rfl ?_
      rcases ite_or h with ⟨c0, h⟩ | ⟨c0, h⟩
      · refine z_look K 108 dX11_mean_80 rfl (off := 28) (by rw [c0]; rfl) (by decide) ?_
        refine z_iload_n K dX11_mean_108 rfl ?_
        refine z_iload K dX11_mean_109 rfl ?_
        obtain ⟨hz, h⟩ := nz_e h
        refine z_idiv K dX11_mean_111 hz ?_
        obtain rfl := Option.some.inj h
        exact z_retP K hP dX11_mean_112
      rcases ite_or h with ⟨c1, h⟩ | ⟨c1, h⟩
      · refine z_look K 113 dX11_mean_80 rfl (off := 33) (by rw [c1]; rfl) (by decide) ?_
        refine z_iload K dX11_mean_113 rfl ?_
        refine z_iload K dX11_mean_115 rfl ?_
        obtain ⟨hz, h⟩ := nz_e h
        refine z_idiv K dX11_mean_117 hz ?_
        obtain rfl := Option.some.inj h
        exact z_retP K hP dX11_mean_118
      refine z_look K 119 dX11_mean_80 rfl (off := 39) ((lv_osw c0 (by decide)).trans ((lv_osw c1 (by decide)).trans rfl)) (by decide) ?_
      obtain rfl := Option.some.inj h
      exact z_throwW K hP hT hl (fun _ h => h.2.1.2.2.2) ⟨rfl, rfl, rfl, rfl⟩ dX11_mean_119 dX11_mean_122 dX11_mean_123 dX11_mean_126 dX11_mean_129
    · have h := ite_t h c
      obtain rfl := Option.some.inj h
      exact z_throwW K hP hT hl (fun _ h => h.2.1.2.2.1) ⟨rfl, rfl, rfl, rfl⟩ dX11_mean_60 dX11_mean_63 dX11_mean_64 dX11_mean_67 dX11_mean_70
  · have h := ite_t h c
    obtain rfl := Option.some.inj h
    exact z_throw K hP hT hl (fun _ h => h.2.1.1) ⟨rfl, rfl, rfl, rfl⟩ dX11_mean_11 dX11_mean_14 dX11_mean_15 dX11_mean_17 dX11_mean_20
