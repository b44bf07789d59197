/-! the law's own person and mean: they catch -/
def Xg (X : Cx) (k n : Nat) : Cx := (X.1, X.2.1, X.2.2.1, X.2.2.2.1, X.2.2.2.2.1, X.2.2.2.2.2.1, X.2.2.2.2.2.2.1, X.2.2.2.2.2.2.2.1, X.2.2.2.2.2.2.2.2.1, X.2.2.2.2.2.2.2.2.2.1, X.2.2.2.2.2.2.2.2.2.2.1 + k, X.2.2.2.2.2.2.2.2.2.2.2.1 + n, X.2.2.2.2.2.2.2.2.2.2.2.2)
abbrev rmLw : Room := { frames := 8, cells := 1, slots := 6, locals := 160 }
def tabL : List (Nat × Nat × Nat × Nat) := [(0, 10, 13, 13)]
def MLw (l : Launch) (g : Gl) (y : MethodName) (cc : ByteArray) (av : List Value) (R : Rf) (T : Mm) (r : Int32) (R' : Rf) (T' : Mm) : Prop := vx_Met l y (Cond.codeWith y cc 5 (some .int) tabL :: gtb) rmLw (va_Pc av (Wp g R T)) (va_Qi (fun (r' : Int32) (u : Rf × Mm) => r' = r ∧ u = (R', T')) (fun u t => Wp g u.1 u.2 t) (Aw g)) (vx_X (fun (_ : Unit) => False) (fun _ _ _ => True) (Aw g)) 1 6 (Aw g)
def QLw (X : Cx) (g : Gl) (r : Int32) (R' : Rf) (T' : Mm) : State → Prop := vx_MQ X.2.2.2.2.2.2.2.1 (va_Qi (fun (r' : Int32) (u : Rf × Mm) => r' = r ∧ u = (R', T')) (fun u t => Wp g u.1 u.2 t) X.2.2.2.2.2.2.2.2.2.2.2.2) (vx_X (fun (_ : Unit) => False) (fun _ _ _ => True) X.2.2.2.2.2.2.2.2.2.2.2.2) X.2.2.2.2.2.2.1 X.2.2.2.2.1 1 6 X.2.2.2.2.2.2.2.2.2.2.2.2
section ZL
variable {X : Cx} {g : Gl} {l : Launch} {cc : ByteArray} {own : String} {nL : Nat} {ret : Option FieldType} {rm : Room} {Q : State → Prop} {R R' : Rf} {T T' : Mm} {lv : List (Option Value)} {st : List Value} {pc : Nat} {ad : Nat → Nat} {sz : Nat}
theorem Ok.grow {k n : Nat} (K : Ok X g l cc own nL ret rm) (h1 : X.2.2.2.2.2.2.2.2.2.2.1 + k ≤ rm.cells) (h2 : X.2.2.2.2.2.2.2.2.2.2.2.1 + n ≤ rm.slots) : Ok (Xg X k n) g l cc own nL ret rm := ⟨K.1, K.2.1, K.2.2.1, K.2.2.2.1, K.2.2.2.2.1, K.2.2.2.2.2.1, h1, h2, K.2.2.2.2.2.2.2.2⟩
theorem z_cwP {y' : MethodName} {cc' : ByteArray} {nL' n idx : Nat} {ret' : Option FieldType} {C : String} {rm' : Room} (K : Ok X g l cc own nL ret rm) (e : CE y' cc' nL' ret' C n) (hm : Cond.methodLink own idx y' ∈ gtb) (hr : rm'.cells = 1 ∧ rm'.slots = 6 ∧ Nat.ble (rm'.frames + 1) rm.frames = true ∧ Nat.ble (8 + (nL' + 11) + rm'.locals) rm.locals = true) : CallW X.2.2.2.1 X.2.2.2.2.1 X.2.2.2.2.2.2.1 own C idx y' cc' nL' ret' (wsU y' cc' nL' ret') rm' 1 6 n := by
  refine cwV n K.1.2.2.2.2 (good_V e hm) rfl hr.1 hr.2.1 e.2 ?_
  rw [K.2.2.2.2.1]
  exact ⟨Nat.le_of_ble_eq_true hr.2.2.1, Nat.le_of_ble_eq_true hr.2.2.2⟩
theorem z_callPx {y' : MethodName} {cc' : ByteArray} {nL' n idx a ci N : Nat} {ret' : Option FieldType} {C : String} {Tt : u_T} {rm' : Room} {As rest : List Value} {o : Option Int32} (K : Ok X g l cc own nL ret rm) (hT : TH g ad sz) (htab : X.2.2.2.2.2.2.2.2.2.1.exceptionTable.toList = tableOf tabL) (hcl : Cond.classLink own 13 nsN ∈ gtb) (hpc : pc = 5) (hM : MPx l g y' cc' nL' ret' rm' (.ref (g.2.2.1 a) :: As) R T o R' T') (c : CL ci C Tt N) (hk : kd g a = ci) (e : CE y' cc' nL' ret' C n) (hm : Cond.methodLink own idx y' ∈ gtb) (hr : rm'.cells = 1 ∧ rm'.slots = 6 ∧ Nat.ble (rm'.frames + 1) rm.frames = true ∧ Nat.ble (8 + (nL' + 11) + rm'.locals) rm.locals = true) (hroom : X.2.2.2.2.2.2.2.2.2.2.1 + 1 ≤ rm.cells ∧ X.2.2.2.2.2.2.2.2.2.2.2.1 + 6 ≤ rm.slots) (hn : As.length = n) (hst : st = As.reverse ++ .ref (g.2.2.1 a) :: rest) (hW : Nat.ble (2 * 0 + (rest.map fun v => v.category).sum) 8 = true) (hd : decode cc pc = .ok (.invokevirtual idx, 3)) (kx : o = none → ∀ q : Nat, Zj (Xg X 1 6) g nL Q R' T' lv [.ref q] 13) (kk : ∀ v, o = some v → Zj (Xg X 1 6) g nL Q R' T' lv (.int v :: rest) (pc + 3)) : Zj X g nL Q R T lv st pc := by
  intro H locs ls hw h
  have hl := K.2.2.2.2.2.1
  subst hl
  have hx := hT.1 _ K.2.2.2.2.2.2.2.2.2.2.1
  refine vx_calli (vx_runV (As := As) (rest := rest) K.1 hM (z_cwP K e hm hr) (z_preV K c hk hw) rfl hn h.1 hst (Nat.le_of_ble_eq_true hW) hd ⟨by rw [K.2.2.2.2.1]; exact hroom.1, by rw [K.2.2.2.2.1]; exact hroom.2⟩) hw.2.2.1 (fun q _ h => K.2.2.2.2.2.2.2.2.1 q h) (fun q h => K.2.2.2.2.2.2.2.2.1 q h) (fun q _ h => K.2.2.2.2.2.2.2.2.1 q h) (fun E ce q9 u t H1 locs1 ht hvm hp hB hz1 hk1 hS hce hcv hcE => ?_) (fun r u t H1 locs1 ht hvm hp hB hz1 hk1 hS => ?_)
  · obtain ⟨ho, rfl⟩ := hp
    obtain ⟨rfl, hB⟩ := hB
    refine vx_catch (own := own) (name := nsN) K.1.2.2.2.1 [] { startPc := 0, endPc := 10, handlerPc := 13, catchType := 13 } [] (htab.trans rfl) (fun z hz => nomatch hz) (by rw [hpc]; decide) (by decide) (K.ts hcl) (isC.use (w := .castable cNS nsN) rfl (hx.1 _ List.mem_cons_self)) hce hcv hcE ?_
    exact kx ho q9 H1 locs1 ls ⟨by rw [← ht]; exact hB.1, hB.2.1.weaken (fun _ q _ h => K.2.2.2.2.2.2.2.2.1 q.1 h), hS, hB.2.2⟩ h
  · obtain ⟨ho, rfl⟩ := hp
    have hw1 := wo_call (X := X) K ht hB hS
    exact kk r ho H1 locs1 ls hw1 h
theorem z_retL (K : Ok X g l cc own nL (some .int) rm) (hc : X.2.2.2.2.2.2.2.2.2.2.1 = 1 ∧ X.2.2.2.2.2.2.2.2.2.2.2.1 = 6) {v : Int32} (hd : decode cc pc = .ok (.ireturn, 1)) : Zj X g nL (QLw X g v R T) R T lv [.int v] pc := by
  intro H locs ls hw h
  obtain ⟨h1, h2⟩ := hc
  refine vx_ret ?_
  rw [h1, h2]
  exact W.iret K.1.1 K.1.2.1 K.2.1 (fun t ht hW => ⟨⟨v, (R, T), rfl, ⟨rfl, rfl⟩, ⟨by rw [ht]; exact hw.1, awD hw.2.1, va_K.moved hW.alike K.2.2.2.1, hw.2.2.2, K.2.2.2.2.2.2.2.2.2.1, okE K hw ht hW⟩⟩, hw.2.2.1.F ht⟩) hw.2.2.1.2.2 hd K.2.2.1
def outL (o : Option Int32) (V : Mm) : Mm := match o with
  | none => V
  | some v => wJ V 124 (0 : Int32).toNatClampNeg v.toInt64
theorem mL_gen {y y' : MethodName} {cc' : ByteArray} {nL' idx : Nat} {x1 x2 : Int32} {o : Option Int32} {V : Mm} (hT : TH g ad sz) (k0 : kd g 0 = 11) (k124 : kd g 124 = 30001) (hy : plainName y.cls = true) (ho : y.cls = own) (e' : CE y' cc' nL' (some .int) RX11 2) (hm : Cond.methodLink own idx y' ∈ gtb) (hcl : Cond.classLink own 13 nsN ∈ gtb) (hr : Nat.ble (8 + (nL' + 11) + 130) 160 = true) (hM : MPx l g y' cc' nL' (some .int) rmPx [.ref (g.2.2.1 0), .int x1, .int x2] R T o R V)
    (d0 : decode cc 0 = .ok (.aload_n 3, 1)) (d1 : decode cc 1 = .ok (.iconst 0, 1)) (d2 : decode cc 2 = .ok (.aload_n 0, 1)) (d3 : decode cc 3 = .ok (.iload_n 1, 1)) (d4 : decode cc 4 = .ok (.iload_n 2, 1)) (d5 : decode cc 5 = .ok (.invokevirtual idx, 3)) (d8 : decode cc 8 = .ok (.i2l, 1)) (d9 : decode cc 9 = .ok (.lastore, 1)) (d10 : decode cc 10 = .ok (.goto 7, 3)) (d13 : decode cc 13 = .ok (.astore 4, 2)) (d15 : decode cc 15 = .ok (.iconst 1, 1)) (d16 : decode cc 16 = .ok (.ireturn, 1)) (d17 : decode cc 17 = .ok (.iconst 0, 1)) (d18 : decode cc 18 = .ok (.ireturn, 1)) : MLw l g y cc [.ref (g.2.2.1 0), .int x1, .int x2, .ref (g.2.2.1 124)] R T (if o = none then 1 else 0) R (outL o V) := by
  refine vx_ofWH (cc := cc) (maxL := 5) (ret := some .int) hy rfl ?_
  intro p e s m args below meth c s₁ B hml hv
  have htab : c.exceptionTable.toList = tableOf tabL := vx_table (x := y) B (atoms_spec (ws := Cond.codeWith y cc 5 (some .int) tabL :: gtb) B.pre _ List.mem_cons_self)
  obtain ⟨rfl, hP, hD, hK, hTy, hKp, hE⟩ := hv
  subst ho
  rw [lg_entry_eq]
  obtain ⟨X, hX⟩ : ∃ X : Cx, X = (p, l, e, rmLw, s, m, ([.ref (g.2.2.1 0), .int x1, .int x2, .ref (g.2.2.1 124)] : List Value).toArray, below, meth, c, 0, 0, Aw g) := ⟨_, rfl⟩
  have K : Ok X g l cc y.cls 5 (some .int) rmLw := by
    rw [hX]
    exact ⟨⟨B.exec, B.bytes, hml, findClass_of_methodNamed B.named, fun w hw => atoms_spec (ws := Cond.codeWith y cc 5 (some .int) tabL :: gtb) B.pre w (List.mem_cons_of_mem _ hw)⟩, B.returns, B.notSynchronized, hK, rfl, rfl, Nat.zero_le _, Nat.zero_le _, fun _ h => h, hKp, hE, fun _ _ h => h⟩
  have z1 : X.2.2.2.2.2.2.2.2.2.2.1 + 1 ≤ rmLw.cells := by rw [hX]; exact Nat.le_refl 1
  have z2 : X.2.2.2.2.2.2.2.2.2.2.2.1 + 6 ≤ rmLw.slots := by rw [hX]; exact Nat.le_refl 6
  have z3 : X.2.2.2.2.2.2.2.2.2.2.1 + 1 = 1 ∧ X.2.2.2.2.2.2.2.2.2.2.2.1 + 6 = 6 := by rw [hX]; exact ⟨rfl, rfl⟩
  have hXt : X.2.2.2.2.2.2.2.2.2.1.exceptionTable.toList = tableOf tabL := by rw [hX]; exact htab
  have K' := K.grow (k := 1) (n := 6) z1 z2
  have J : Zj X g 5 (QLw X g (if o = none then 1 else 0) R (outL o V)) R T [some (.ref (g.2.2.1 0)), some (.int x1), some (.int x2), some (.ref (g.2.2.1 124)), none] [] 0 := by
    refine z_aload_n K d0 rfl ?_
    refine z_iconst K 0 d1 rfl ?_
    refine z_aload_n K d2 rfl ?_
    refine z_iload_n K d3 rfl ?_
    refine z_iload_n K d4 rfl ?_
    refine z_callPx (As := [.int x1, .int x2]) (rest := [.int 0, .ref (g.2.2.1 124)]) K hT hXt hcl rfl hM clX11 k0 e' hm ⟨rfl, rfl, rfl, hr⟩ ⟨z1, z2⟩ rfl rfl rfl d5 (fun ho q => ?_) (fun v ho => ?_)
    · subst ho
      refine z_astore K' d13 rfl rfl ?_
      refine z_iconst K' 1 d15 rfl ?_
      exact z_retL K' z3 d16
    · subst ho
      refine z_i2l K' d8 ?_
      refine z_last K' k124 rfl rfl rfl (by unfold vp_in; decide) d9 ?_
      refine z_goto K' 17 d10 (by decide) ?_
      refine z_iconst K' 0 d17 rfl ?_
      exact z_retL K' z3 d18
  rw [hX] at J
  exact J s.heap [] _ ⟨hP, hD, va_S.rf, hTy⟩ (lh_entry (Nat.le_of_ble_eq_true rfl) rfl)
/-- a static call of such a one -/
theorem z_callSx {y' : MethodName} {cc' : ByteArray} {n idx : Nat} {As rest : List Value} {r : Int32} (K : Ok X g l cc own nL ret rm) (hM : MLw l g y' cc' As R T r R' T') (hcw : Cond.codeWith y' cc' 5 (some .int) tabL ∈ gtb) (hs : Cond.static y' ∈ gtb) (hi : Cond.initialized y'.cls ∈ gtb) (hm : Cond.methodLink own idx y' ∈ gtb) (he : y'.cls ≠ "java/lang/invoke/MethodHandle" ∧ y'.cls ≠ "java/lang/invoke/VarHandle" ∧ (parseMethodDescriptor y'.desc).map (fun d => d.parameters.length) = some n) (hr : Nat.ble 9 rm.frames = true ∧ Nat.ble 184 rm.locals = true) (hroom : X.2.2.2.2.2.2.2.2.2.2.1 + 1 ≤ rm.cells ∧ X.2.2.2.2.2.2.2.2.2.2.2.1 + 6 ≤ rm.slots) (hn : As.length = n) (hst : st = As.reverse ++ rest) (hW : Nat.ble (2 * 0 + (rest.map fun v => v.category).sum) 8 = true) (hd : decode cc pc = .ok (.invokestatic idx, 3)) (kk : Zj (Xg X 1 6) g nL Q R' T' lv (.int r :: rest) (pc + 3)) : Zj X g nL Q R T lv st pc := by
  intro H locs ls hw h
  have hl := K.2.2.2.2.2.1
  subst hl
  have cw : vx_CSW X.2.2.2.1 X.2.2.2.2.1 X.2.2.2.2.2.2.1 own idx y' cc' 5 (some .int) tabL (Cond.codeWith y' cc' 5 (some .int) tabL :: gtb) rmLw 1 6 n := by
    refine ⟨⟨rfl, rfl, ?_, ?_, fun w hw a' U hU => ?_, List.mem_cons_self⟩, K.ts hcw, K.ts hi, ⟨he.1, he.2.1⟩, fun sig hs => ?_, K.ts hm, K.ts hs⟩
    · rw [K.2.2.2.2.1]; exact Nat.le_of_ble_eq_true hr.1
    · rw [K.2.2.2.2.1]; exact Nat.le_of_ble_eq_true hr.2
    · have hg : w ∈ gtb := by
        rcases List.mem_cons.mp hw with rfl | h
        · exact hcw
        · exact h
      obtain ⟨h1, h2⟩ := good_in hg
      exact word_at hU h2 (K.1.2.2.2.2 w h1)
    · have := he.2.2
      rw [hs] at this
      simpa using this.symm
  refine vx_calli (vx_runSX (As := As) (rest := rest) K.1 hM cw ⟨wp_blind, fun U hU hW => ⟨rfl, by rw [hU]; exact hw.1, awD hw.2.1, va_K.moved hW.alike K.2.2.2.1, hw.2.2.2, K.2.2.2.2.2.2.2.2.2.1, okE K hw hU hW⟩⟩ rfl hn h.1 hst (Nat.le_of_ble_eq_true hW) hd ⟨by rw [K.2.2.2.2.1]; exact hroom.1, by rw [K.2.2.2.2.1]; exact hroom.2⟩) hw.2.2.1 (fun q _ h => K.2.2.2.2.2.2.2.2.1 q h) (fun q h => K.2.2.2.2.2.2.2.2.1 q h) (fun q _ h => K.2.2.2.2.2.2.2.2.1 q h) (fun E ce q9 u t H1 locs1 ht hvm hp hB hz1 hk1 hS hce hcv hcE => hp.elim) (fun r' u t H1 locs1 ht hvm hp hB hz1 hk1 hS => ?_)
  obtain ⟨rfl, rfl⟩ := hp
  have hw1 := wo_call (X := X) K ht hB hS
  exact kk H1 locs1 ls hw1 h
end ZL
theorem qlNs : Cond.classLink RL 13 nsN ∈ gtb := List.mem_filter.mpr ⟨by decide +kernel, rfl⟩
theorem qlP7 : Cond.methodLink RL 7 yX11_person ∈ gtb := List.mem_filter.mpr ⟨by decide +kernel, rfl⟩
theorem qlM15 : Cond.methodLink RL 15 yX11_mean ∈ gtb := List.mem_filter.mpr ⟨by decide +kernel, rfl⟩
theorem qlP41 : Cond.methodLink RL 41 yL_person ∈ gtb := List.mem_filter.mpr ⟨by decide +kernel, rfl⟩
theorem qlM147 : Cond.methodLink RL 147 yL_mean ∈ gtb := List.mem_filter.mpr ⟨by decide +kernel, rfl⟩
theorem qlPs : Cond.static yL_person ∈ gtb := List.mem_filter.mpr ⟨by decide +kernel, rfl⟩
theorem qlMs : Cond.static yL_mean ∈ gtb := List.mem_filter.mpr ⟨by decide +kernel, rfl⟩
theorem qlPc : Cond.codeWith yL_person cL_person 5 (some .int) tabL ∈ gtb := List.mem_filter.mpr ⟨by decide +kernel, rfl⟩
theorem qlMc : Cond.codeWith yL_mean cL_mean 5 (some .int) tabL ∈ gtb := List.mem_filter.mpr ⟨by decide +kernel, rfl⟩
theorem qlI : Cond.initialized RL ∈ gtb := List.mem_filter.mpr ⟨by decide +kernel, rfl⟩
theorem ceX11_person : CE yX11_person cX11_person 3 (some .int) RX11 2 := ⟨⟨List.mem_filter.mpr ⟨by decide +kernel, rfl⟩, List.mem_filter.mpr ⟨by decide +kernel, rfl⟩, List.mem_filter.mpr ⟨by decide +kernel, rfl⟩, List.mem_filter.mpr ⟨by decide +kernel, rfl⟩⟩, by decide +kernel⟩
theorem ceX11_mean : CE yX11_mean cX11_mean 6 (some .int) RX11 2 := ⟨⟨List.mem_filter.mpr ⟨by decide +kernel, rfl⟩, List.mem_filter.mpr ⟨by decide +kernel, rfl⟩, List.mem_filter.mpr ⟨by decide +kernel, rfl⟩, List.mem_filter.mpr ⟨by decide +kernel, rfl⟩⟩, by decide +kernel⟩
theorem mL_person {g : Gl} {l : Launch} {R : Rf} {T : Mm} {ad : Nat → Nat} {sz : Nat} {x1 x2 : Int32} {o : Option Int32} {V : Mm} (hT : TH g ad sz) (hl : l.stackTraces = false) (hR : Ty g R) (k0 : kd g 0 = 11) (k124 : kd g 124 = 30001) (h : pX11_person R T 0 x1 x2 = some (o, V)) : MLw l g yL_person cL_person [.ref (g.2.2.1 0), .int x1, .int x2, .ref (g.2.2.1 124)] R T (if o = none then 1 else 0) R (outL o V) :=
  mL_gen (own := RL) hT k0 k124 (by decide +kernel) rfl ceX11_person qlP7 qlNs rfl (mX11_person hT hl hR k0 h) dL_person_0 dL_person_1 dL_person_2 dL_person_3 dL_person_4 dL_person_5 dL_person_8 dL_person_9 dL_person_10 dL_person_13 dL_person_15 dL_person_16 dL_person_17 dL_person_18
theorem mL_mean {g : Gl} {l : Launch} {R : Rf} {T : Mm} {ad : Nat → Nat} {sz : Nat} {x1 x2 : Int32} {o : Option Int32} {V : Mm} (hT : TH g ad sz) (hl : l.stackTraces = false) (hR : Ty g R) (k0 : kd g 0 = 11) (k124 : kd g 124 = 30001) (h : pX11_mean R T 0 x1 x2 = some (o, V)) : MLw l g yL_mean cL_mean [.ref (g.2.2.1 0), .int x1, .int x2, .ref (g.2.2.1 124)] R T (if o = none then 1 else 0) R (outL o V) :=
  mL_gen (own := RL) hT k0 k124 (by decide +kernel) rfl ceX11_mean qlM15 qlNs rfl (mX11_mean hT hl hR k0 h) dL_mean_0 dL_mean_1 dL_mean_2 dL_mean_3 dL_mean_4 dL_mean_5 dL_mean_8 dL_mean_9 dL_mean_10 dL_mean_13 dL_mean_15 dL_mean_16 dL_mean_17 dL_mean_18
