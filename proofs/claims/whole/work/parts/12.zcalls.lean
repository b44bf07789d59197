/-! ends, calls, contracts -/
def QI (X : Cx) (g : Gl) (v : Int32) (R' : Rf) (T' : Mm) : State → Prop := MQ X.2.2.2.2.2.2.2.1 (va_Qi (fun (r : Int32) (u : Rf × Mm) => r = v ∧ u = (R', T')) (fun u t => Wp g u.1 u.2 t) X.2.2.2.2.2.2.2.2.2.2.2.2) X.2.2.2.2.2.2.1 X.2.2.2.2.1 X.2.2.2.2.2.2.2.2.2.2.1 X.2.2.2.2.2.2.2.2.2.2.2.1 X.2.2.2.2.2.2.2.2.2.2.2.2
def QL (X : Cx) (g : Gl) (v : Int64) (R' : Rf) (T' : Mm) : State → Prop := MQ X.2.2.2.2.2.2.2.1 (va_Ql (fun (r : Int64) (u : Rf × Mm) => r = v ∧ u = (R', T')) (fun u t => Wp g u.1 u.2 t) X.2.2.2.2.2.2.2.2.2.2.2.2) X.2.2.2.2.2.2.1 X.2.2.2.2.1 X.2.2.2.2.2.2.2.2.2.2.1 X.2.2.2.2.2.2.2.2.2.2.2.1 X.2.2.2.2.2.2.2.2.2.2.2.2
def QV (X : Cx) (g : Gl) (R' : Rf) (T' : Mm) : State → Prop := MQ X.2.2.2.2.2.2.2.1 (va_Qv (fun (u : Rf × Mm) => u = (R', T')) (fun u t => Wp g u.1 u.2 t) X.2.2.2.2.2.2.2.2.2.2.2.2) X.2.2.2.2.2.2.1 X.2.2.2.2.1 X.2.2.2.2.2.2.2.2.2.2.1 X.2.2.2.2.2.2.2.2.2.2.2.1 X.2.2.2.2.2.2.2.2.2.2.2.2
def MI (l : Launch) (g : Gl) (y : MethodName) (cc : ByteArray) (nL : Nat) (ret : Option FieldType) (rm : Room) (av : List Value) (R : Rf) (T : Mm) (v : Int32) (R' : Rf) (T' : Mm) : Prop := Met l y (wsU y cc nL ret) rm (va_Pc av (Wp g R T)) (va_Qi (fun (r : Int32) (u : Rf × Mm) => r = v ∧ u = (R', T')) (fun u t => Wp g u.1 u.2 t) (Aw g)) 0 0 (Aw g)
def ML (l : Launch) (g : Gl) (y : MethodName) (cc : ByteArray) (nL : Nat) (ret : Option FieldType) (rm : Room) (av : List Value) (R : Rf) (T : Mm) (v : Int64) (R' : Rf) (T' : Mm) : Prop := Met l y (wsU y cc nL ret) rm (va_Pc av (Wp g R T)) (va_Ql (fun (r : Int64) (u : Rf × Mm) => r = v ∧ u = (R', T')) (fun u t => Wp g u.1 u.2 t) (Aw g)) 0 0 (Aw g)
def MV (l : Launch) (g : Gl) (y : MethodName) (cc : ByteArray) (nL : Nat) (ret : Option FieldType) (rm : Room) (av : List Value) (R : Rf) (T : Mm) (R' : Rf) (T' : Mm) : Prop := Met l y (wsU y cc nL ret) rm (va_Pc av (Wp g R T)) (va_Qv (fun (u : Rf × Mm) => u = (R', T')) (fun u t => Wp g u.1 u.2 t) (Aw g)) 0 0 (Aw g)
section ZC
variable {X : Cx} {g : Gl} {l : Launch} {cc : ByteArray} {own : String} {y : MethodName} {nL : Nat} {ret : Option FieldType} {rm : Room} {Q : State → Prop} {R : Rf} {T : Mm} {lv : List (Option Value)} {st : List Value} {pc : Nat}
theorem z_iret (K : Ok X g l cc own nL (some .int) rm) {v : Int32} (hd : decode cc pc = .ok (.ireturn, 1)) : Zj X g nL (QI X g v R T) R T lv [.int v] pc := by
  intro H locs ls hw h
  exact W.iret K.1.1 K.1.2.1 K.2.1 (fun t ht hW => ⟨⟨v, (R, T), rfl, ⟨rfl, rfl⟩, ⟨by rw [ht]; exact hw.1, awD hw.2.1, va_K.moved hW.alike K.2.2.2.1, hw.2.2.2, K.2.2.2.2.2.2.2.2.2.1, okE K hw ht hW⟩⟩, hw.2.2.1.F ht⟩) hw.2.2.1.2.2 hd K.2.2.1
theorem z_zret {ty : FieldType} (K : Ok X g l cc own nL (some ty) rm) {v : Int32} (hn : narrow ty (.int v) = .int v) (hd : decode cc pc = .ok (.ireturn, 1)) : Zj X g nL (QI X g v R T) R T lv [.int v] pc := by
  intro H locs ls hw h
  exact W.zret K.1.1 K.1.2.1 K.2.1 hn (fun t ht hW => ⟨⟨v, (R, T), rfl, ⟨rfl, rfl⟩, ⟨by rw [ht]; exact hw.1, awD hw.2.1, va_K.moved hW.alike K.2.2.2.1, hw.2.2.2, K.2.2.2.2.2.2.2.2.2.1, okE K hw ht hW⟩⟩, hw.2.2.1.F ht⟩) hw.2.2.1.2.2 hd K.2.2.1
theorem z_lret (K : Ok X g l cc own nL (some .long) rm) {v : Int64} (hd : decode cc pc = .ok (.lreturn, 1)) : Zj X g nL (QL X g v R T) R T lv [.long v] pc := by
  intro H locs ls hw h
  exact W.lret K.1.1 K.1.2.1 K.2.1 (fun t ht hW => ⟨⟨v, (R, T), rfl, ⟨rfl, rfl⟩, ⟨by rw [ht]; exact hw.1, awD hw.2.1, va_K.moved hW.alike K.2.2.2.1, hw.2.2.2, K.2.2.2.2.2.2.2.2.2.1, okE K hw ht hW⟩⟩, hw.2.2.1.F ht⟩) hw.2.2.1.2.2 hd K.2.2.1
theorem z_vret (K : Ok X g l cc own nL none rm) (hd : decode cc pc = .ok (.return_, 1)) : Zj X g nL (QV X g R T) R T lv [] pc := by
  intro H locs ls hw h
  exact W.vret K.1.1 K.1.2.1 K.2.1 (fun t ht hW => ⟨⟨(R, T), rfl, rfl, ⟨by rw [ht]; exact hw.1, awD hw.2.1, va_K.moved hW.alike K.2.2.2.1, hw.2.2.2, K.2.2.2.2.2.2.2.2.2.1, okE K hw ht hW⟩⟩, hw.2.2.1.F ht⟩) hw.2.2.1.2.2 hd K.2.2.1
def avl : List Value → List (Option Value)
  | [] => []
  | v :: vs => if v.category = 2 then some v :: none :: avl vs else some v :: avl vs
theorem avl_in {v : Value} : ∀ (av : List Value) (k j : Nat), (avl av)[j]? = some (some v) → (k + j, v) ∈ lv_args k av
  | [], k, j, h => by simp [avl] at h
  | w :: ws, k, j, h => by
    rw [show lv_args k (w :: ws) = (k, w) :: lv_args (if w.category = 2 then k + 2 else k + 1) ws from rfl]
    by_cases c : w.category = 2
    · rw [show avl (w :: ws) = some w :: none :: avl ws by simp [avl, c]] at h
      rw [if_pos c]
      match j, h with
      | 0, h =>
        simp at h
        subst h
        exact List.mem_cons_self
      | 1, h => simp at h
      | j + 2, h =>
        have h1 : (avl ws)[j]? = some (some v) := by simpa using h
        have h2 := avl_in ws (k + 2) j h1
        rw [show k + 2 + j = k + (j + 2) by omega] at h2
        exact List.mem_cons_of_mem _ h2
    · rw [show avl (w :: ws) = some w :: avl ws by simp [avl, c]] at h
      rw [if_neg c]
      match j, h with
      | 0, h =>
        simp at h
        subst h
        exact List.mem_cons_self
      | j + 1, h =>
        have h1 : (avl ws)[j]? = some (some v) := by simpa using h
        have h2 := avl_in ws (k + 1) j h1
        rw [show k + 1 + j = k + (j + 1) by omega] at h2
        exact List.mem_cons_of_mem _ h2
theorem lh_entry {av : List Value} {nL : Nat} {lv : List (Option Value)} (hlen : (lg_sl av).length ≤ nL) (hlv : avl av ++ List.replicate (nL - (avl av).length) none = lv) : lh ((lg_sl av ++ List.replicate (nL - (lg_sl av).length) Slot.unset).toArray) nL lv := by
  have h := lv_entry av hlen
  refine ⟨h.1, h.2.1, fun q hq => h.2.2 q ?_⟩
  obtain ⟨i, v⟩ := q
  obtain ⟨j, e, hj⟩ := (mem_asl lv 0 i).mp hq
  have e' : i = j := by omega
  subst e'
  rw [← hlv, List.getElem?_append] at hj
  split at hj
  · have := avl_in av 0 i hj
    rwa [Nat.zero_add] at this
  · rw [List.getElem?_replicate] at hj
    split at hj <;> simp at hj
theorem z_metI {v : Int32} {R' : Rf} {T' : Mm} {av : List Value} (hy : plainName y.cls = true) (ho : y.cls = own) (hlen : Nat.ble (lg_sl av).length nL = true) (hlv : avl av ++ List.replicate (nL - (avl av).length) none = lv) (body : ∀ X : Cx, Ok X g l cc own nL ret rm → Zj X g nL (QI X g v R' T') R T lv [] 0) : MI l g y cc nL ret rm av R T v R' T' := by
  refine Met.ofW (cc := cc) (maxL := nL) (ret := ret) hy rfl ?_
  intro p e s m args below meth c s₁ B hml hv
  obtain ⟨rfl, hP, hD, hK, hTy, hKp, hE⟩ := hv
  subst ho
  rw [lg_entry_eq]
  exact body (p, l, e, rm, s, m, av.toArray, below, meth, c, 0, 0, Aw g) ⟨⟨B.exec, B.bytes, hml, findClass_of_methodNamed B.named, fun w hw => atoms_spec (ws := wsU y cc nL ret) B.pre w (List.mem_cons_of_mem _ hw)⟩, B.returns, B.notSynchronized, hK, rfl, rfl, Nat.zero_le _, Nat.zero_le _, fun _ h => h, hKp, hE, fun _ _ h => h⟩ s.heap [] _ ⟨hP, hD, va_S.rf, hTy⟩ (lh_entry (Nat.le_of_ble_eq_true hlen) hlv)
theorem z_metL {v : Int64} {R' : Rf} {T' : Mm} {av : List Value} (hy : plainName y.cls = true) (ho : y.cls = own) (hlen : Nat.ble (lg_sl av).length nL = true) (hlv : avl av ++ List.replicate (nL - (avl av).length) none = lv) (body : ∀ X : Cx, Ok X g l cc own nL ret rm → Zj X g nL (QL X g v R' T') R T lv [] 0) : ML l g y cc nL ret rm av R T v R' T' := by
  refine Met.ofW (cc := cc) (maxL := nL) (ret := ret) hy rfl ?_
  intro p e s m args below meth c s₁ B hml hv
  obtain ⟨rfl, hP, hD, hK, hTy, hKp, hE⟩ := hv
  subst ho
  rw [lg_entry_eq]
  exact body (p, l, e, rm, s, m, av.toArray, below, meth, c, 0, 0, Aw g) ⟨⟨B.exec, B.bytes, hml, findClass_of_methodNamed B.named, fun w hw => atoms_spec (ws := wsU y cc nL ret) B.pre w (List.mem_cons_of_mem _ hw)⟩, B.returns, B.notSynchronized, hK, rfl, rfl, Nat.zero_le _, Nat.zero_le _, fun _ h => h, hKp, hE, fun _ _ h => h⟩ s.heap [] _ ⟨hP, hD, va_S.rf, hTy⟩ (lh_entry (Nat.le_of_ble_eq_true hlen) hlv)
theorem z_metV {R' : Rf} {T' : Mm} {av : List Value} (hy : plainName y.cls = true) (ho : y.cls = own) (hlen : Nat.ble (lg_sl av).length nL = true) (hlv : avl av ++ List.replicate (nL - (avl av).length) none = lv) (body : ∀ X : Cx, Ok X g l cc own nL ret rm → Zj X g nL (QV X g R' T') R T lv [] 0) : MV l g y cc nL ret rm av R T R' T' := by
  refine Met.ofW (cc := cc) (maxL := nL) (ret := ret) hy rfl ?_
  intro p e s m args below meth c s₁ B hml hv
  obtain ⟨rfl, hP, hD, hK, hTy, hKp, hE⟩ := hv
  subst ho
  rw [lg_entry_eq]
  exact body (p, l, e, rm, s, m, av.toArray, below, meth, c, 0, 0, Aw g) ⟨⟨B.exec, B.bytes, hml, findClass_of_methodNamed B.named, fun w hw => atoms_spec (ws := wsU y cc nL ret) B.pre w (List.mem_cons_of_mem _ hw)⟩, B.returns, B.notSynchronized, hK, rfl, rfl, Nat.zero_le _, Nat.zero_le _, fun _ h => h, hKp, hE, fun _ _ h => h⟩ s.heap [] _ ⟨hP, hD, va_S.rf, hTy⟩ (lh_entry (Nat.le_of_ble_eq_true hlen) hlv)
theorem wp_blind {av : List Value} : FrameBlind (va_Pc av (Wp g R T)) := fun a U g' mk q => ⟨q.1, q.2.1, q.2.2.1, va_K.moved (u := U) (U := U.calling g' mk a) (Vm.Alike.refl U.vm) q.2.2.2.1, q.2.2.2.2.1, q.2.2.2.2.2.1, q.2.2.2.2.2.1.2 U _ rfl rfl q.2.2.2.2.2.2⟩
/-- what a called method's words are: instance ones -/
def CE (y : MethodName) (cc : ByteArray) (nL : Nat) (ret : Option FieldType) (C : String) (n : Nat) : Prop := (Cond.instanceMethod y ∈ gtb ∧ Cond.selects C y y ∈ gtb ∧ Cond.initialized C ∈ gtb ∧ Cond.code y cc nL ret ∈ gtb) ∧ (y.cls = C ∧ y.cls ≠ "java/lang/invoke/MethodHandle" ∧ y.cls ≠ "java/lang/invoke/VarHandle" ∧ (parseMethodDescriptor y.desc).map (fun d => d.parameters.length) = some n)
/-- static ones -/
def CS (y : MethodName) (cc : ByteArray) (nL : Nat) (ret : Option FieldType) (n : Nat) : Prop := (Cond.static y ∈ gtb ∧ Cond.initialized y.cls ∈ gtb ∧ Cond.code y cc nL ret ∈ gtb) ∧ (y.cls ≠ "java/lang/invoke/MethodHandle" ∧ y.cls ≠ "java/lang/invoke/VarHandle" ∧ (parseMethodDescriptor y.desc).map (fun d => d.parameters.length) = some n)
theorem good_in {w : Cond} (h : w ∈ gtb) : w ∈ gtb ∧ ((w.onTables && w.keeps) = true ∨ ∃ ty, w = .arrayClass ty) := ⟨h, good_of_word (List.mem_filter.mp h).2⟩
theorem good_V {y' : MethodName} {cc' : ByteArray} {nL' n idx : Nat} {ret' : Option FieldType} {C : String} (c : CE y' cc' nL' ret' C n) (hm : Cond.methodLink own idx y' ∈ gtb) : GoodIn gtb (wsV own idx C y' (wsU y' cc' nL' ret')) := by
  intro w hw
  refine good_in ?_
  rcases List.mem_append.mp hw with h | h
  · simp only [List.mem_cons, List.not_mem_nil, or_false] at h
    rcases h with rfl | rfl | rfl | rfl
    · exact hm
    · exact c.1.1
    · exact c.1.2.1
    · exact c.1.2.2.1
  · rcases List.mem_cons.mp h with rfl | h
    · exact c.1.2.2.2
    · exact h
theorem good_U {y' : MethodName} {cc' : ByteArray} {nL' : Nat} {ret' : Option FieldType} (c : Cond.code y' cc' nL' ret' ∈ gtb) : GoodIn gtb (wsU y' cc' nL' ret') := by
  intro w hw
  refine good_in ?_
  rcases List.mem_cons.mp hw with rfl | h
  · exact c
  · exact h
/-- the room of a callee in its caller's -/
def fitR (rm' rm : Room) (nL' : Nat) : Prop := rm'.cells = 0 ∧ rm'.slots = 0 ∧ Nat.ble (rm'.frames + 1) rm.frames = true ∧ Nat.ble (8 + (nL' + 11) + rm'.locals) rm.locals = true
section
variable {y' : MethodName} {cc' : ByteArray} {nL' n idx ci a : Nat} {ret' : Option FieldType} {C : String} {rm' : Room} {R' : Rf} {T' : Mm} {As rest : List Value} {Tt : u_T} {N : Nat}
theorem z_preV {H : Heap} {locs : List Loc} (K : Ok X g l cc own nL ret rm) (c : CL ci C Tt N) (hk : kd g a = ci) (hw : Wo X g R T H locs) : PreV X.2.2.2.2.1 H C (g.2.2.1 a) (va_Pc (.ref (g.2.2.1 a) :: As) (Wp g R T)) As := by
  have h1 := ws_at (g := g) (R := R) (T := T) (kd_lt hk c.2.2.2)
  rw [ce_obj hk c.2.2.1] at h1
  exact ⟨wp_blind, va_recv K.2.2.2.1 hw.1 c.1 h1, fun U hU hW => ⟨rfl, by rw [hU]; exact hw.1, awD hw.2.1, va_K.moved hW.alike K.2.2.2.1, hw.2.2.2, K.2.2.2.2.2.2.2.2.2.1, okE K hw hU hW⟩⟩
theorem z_cw (K : Ok X g l cc own nL ret rm) (e : CE y' cc' nL' ret' C n) (hm : Cond.methodLink own idx y' ∈ gtb) (hr : fitR rm' rm nL') : CallW X.2.2.2.1 X.2.2.2.2.1 X.2.2.2.2.2.2.1 own C idx y' cc' nL' ret' (wsU y' cc' nL' ret') rm' 0 0 n := by
  refine cwV n K.1.2.2.2.2 (good_V e hm) rfl hr.1 hr.2.1 e.2 ?_
  rw [K.2.2.2.2.1]
  exact ⟨Nat.le_of_ble_eq_true hr.2.2.1, Nat.le_of_ble_eq_true hr.2.2.2⟩
theorem z_cb (K : Ok X g l cc own nL ret rm) (e : CS y' cc' nL' ret' n) (hm : Cond.methodLink own idx y' ∈ gtb) (hr : fitR rm' rm nL') : CallB X.2.2.2.1 X.2.2.2.2.1 X.2.2.2.2.2.2.1 own idx y' cc' nL' ret' (wsU y' cc' nL' ret') rm' 0 0 n ∧ (Cond.static y').before X.2.2.2.2.2.2.1 X.2.2.2.2.1 = true := by
  refine ⟨⟨hr.1, hr.2.1, ?_, ?_, fun w hw a' U hU => ?_, List.mem_cons_self, K.ts e.1.2.2, K.ts e.1.2.1, ⟨e.2.1, e.2.2.1⟩, fun sig hs => ?_, K.ts hm⟩, K.ts e.1.1⟩
  · rw [K.2.2.2.2.1]; exact Nat.le_of_ble_eq_true hr.2.2.1
  · rw [K.2.2.2.2.1]; exact Nat.le_of_ble_eq_true hr.2.2.2
  · obtain ⟨h1, h2⟩ := good_U e.1.2.2 w hw
    exact word_at hU h2 (K.1.2.2.2.2 w h1)
  · have := e.2.2.2
    rw [hs] at this
    simpa using this.symm
theorem wo_call {H1 : Heap} {locs1 : List Loc} {t : State} (K : Ok X g l cc own nL ret rm) (ht : t.heap = H1) (hB : Wp g R' T' t) (hS : va_S X.2.2.2.2.2.2.2.2.2.2.2.2 X.2.2.2.2.1.heap H1 locs1) : Wo X g R' T' H1 locs1 := ⟨by rw [← ht]; exact hB.1, hB.2.1.weaken (fun _ q _ h => K.2.2.2.2.2.2.2.2.1 q.1 h), hS, hB.2.2.2.1⟩
theorem z_callVI {v : Int32} (K : Ok X g l cc own nL ret rm) (hM : MI l g y' cc' nL' ret' rm' (.ref (g.2.2.1 a) :: As) R T v R' T') (c : CL ci C Tt N) (hk : kd g a = ci) (e : CE y' cc' nL' ret' C n) (hm : Cond.methodLink own idx y' ∈ gtb) (hr : fitR rm' rm nL') (hn : As.length = n) (hst : st = As.reverse ++ .ref (g.2.2.1 a) :: rest) (hW : Nat.ble (2 * 0 + (rest.map fun v => v.category).sum) 8 = true) (hd : decode cc pc = .ok (.invokevirtual idx, 3)) (kk : Zj X g nL Q R' T' lv (.int v :: rest) (pc + 3)) : Zj X g nL Q R T lv st pc := by
  intro H locs ls hw h
  have hl := K.2.2.2.2.2.1
  subst hl
  refine va_calli (va_runV (As := As) (rest := rest) K.1 hM (z_cw K e hm hr) (z_preV K c hk hw) rfl hn h.1 hst (Nat.le_of_ble_eq_true hW) hd ⟨by rw [K.2.2.2.2.1]; exact K.2.2.2.2.2.2.1, by rw [K.2.2.2.2.1]; exact K.2.2.2.2.2.2.2.1⟩) hw.2.2.1 (fun q _ h => K.2.2.2.2.2.2.2.2.1 q h) (fun q h => K.2.2.2.2.2.2.2.2.1 q h) (fun r u t H1 locs1 ht hvm hp hB hz1 hk1 hS => ?_)
  obtain ⟨rfl, rfl⟩ := hp
  exact kk H1 locs1 ls (wo_call K ht hB hS) h
theorem z_callVL {v : Int64} (K : Ok X g l cc own nL ret rm) (hM : ML l g y' cc' nL' ret' rm' (.ref (g.2.2.1 a) :: As) R T v R' T') (c : CL ci C Tt N) (hk : kd g a = ci) (e : CE y' cc' nL' ret' C n) (hm : Cond.methodLink own idx y' ∈ gtb) (hr : fitR rm' rm nL') (hn : As.length = n) (hst : st = As.reverse ++ .ref (g.2.2.1 a) :: rest) (hW : Nat.ble (2 * 0 + (rest.map fun v => v.category).sum) 8 = true) (hd : decode cc pc = .ok (.invokevirtual idx, 3)) (kk : Zj X g nL Q R' T' lv (.long v :: rest) (pc + 3)) : Zj X g nL Q R T lv st pc := by
  intro H locs ls hw h
  have hl := K.2.2.2.2.2.1
  subst hl
  refine va_calll (va_runV (As := As) (rest := rest) K.1 hM (z_cw K e hm hr) (z_preV K c hk hw) rfl hn h.1 hst (Nat.le_of_ble_eq_true hW) hd ⟨by rw [K.2.2.2.2.1]; exact K.2.2.2.2.2.2.1, by rw [K.2.2.2.2.1]; exact K.2.2.2.2.2.2.2.1⟩) hw.2.2.1 (fun q _ h => K.2.2.2.2.2.2.2.2.1 q h) (fun q h => K.2.2.2.2.2.2.2.2.1 q h) (fun r u t H1 locs1 ht hvm hp hB hz1 hk1 hS => ?_)
  obtain ⟨rfl, rfl⟩ := hp
  exact kk H1 locs1 ls (wo_call K ht hB hS) h
theorem z_callVV (K : Ok X g l cc own nL ret rm) (hM : MV l g y' cc' nL' ret' rm' (.ref (g.2.2.1 a) :: As) R T R' T') (c : CL ci C Tt N) (hk : kd g a = ci) (e : CE y' cc' nL' ret' C n) (hm : Cond.methodLink own idx y' ∈ gtb) (hr : fitR rm' rm nL') (hn : As.length = n) (hst : st = As.reverse ++ .ref (g.2.2.1 a) :: rest) (hW : Nat.ble (2 * 0 + (rest.map fun v => v.category).sum) 8 = true) (hd : decode cc pc = .ok (.invokevirtual idx, 3)) (kk : Zj X g nL Q R' T' lv rest (pc + 3)) : Zj X g nL Q R T lv st pc := by
  intro H locs ls hw h
  have hl := K.2.2.2.2.2.1
  subst hl
  refine va_callv (va_runV (As := As) (rest := rest) K.1 hM (z_cw K e hm hr) (z_preV K c hk hw) rfl hn h.1 hst (Nat.le_of_ble_eq_true hW) hd ⟨by rw [K.2.2.2.2.1]; exact K.2.2.2.2.2.2.1, by rw [K.2.2.2.2.1]; exact K.2.2.2.2.2.2.2.1⟩) hw.2.2.1 (fun q _ h => K.2.2.2.2.2.2.2.2.1 q h) (fun q h => K.2.2.2.2.2.2.2.2.1 q h) (fun u t H1 locs1 ht hvm hp hB hz1 hk1 hS => ?_)
  subst hp
  exact kk H1 locs1 ls (wo_call K ht hB hS) h
theorem z_callSI {v : Int32} (K : Ok X g l cc own nL ret rm) (hM : MI l g y' cc' nL' ret' rm' As R T v R' T') (e : CS y' cc' nL' ret' n) (hm : Cond.methodLink own idx y' ∈ gtb) (hr : fitR rm' rm nL') (hn : As.length = n) (hst : st = As.reverse ++ rest) (hW : Nat.ble (2 * 0 + (rest.map fun v => v.category).sum) 8 = true) (hd : decode cc pc = .ok (.invokestatic idx, 3)) (kk : Zj X g nL Q R' T' lv (.int v :: rest) (pc + 3)) : Zj X g nL Q R T lv st pc := by
  intro H locs ls hw h
  have hl := K.2.2.2.2.2.1
  subst hl
  refine va_calli (va_runS (As := As) (rest := rest) K.1 hM (z_cb K e hm hr) ⟨wp_blind, fun U hU hW => ⟨rfl, by rw [hU]; exact hw.1, awD hw.2.1, va_K.moved hW.alike K.2.2.2.1, hw.2.2.2, K.2.2.2.2.2.2.2.2.2.1, okE K hw hU hW⟩⟩ rfl hn h.1 hst (Nat.le_of_ble_eq_true hW) hd ⟨by rw [K.2.2.2.2.1]; exact K.2.2.2.2.2.2.1, by rw [K.2.2.2.2.1]; exact K.2.2.2.2.2.2.2.1⟩) hw.2.2.1 (fun q _ h => K.2.2.2.2.2.2.2.2.1 q h) (fun q h => K.2.2.2.2.2.2.2.2.1 q h) (fun r u t H1 locs1 ht hvm hp hB hz1 hk1 hS => ?_)
  obtain ⟨rfl, rfl⟩ := hp
  exact kk H1 locs1 ls (wo_call K ht hB hS) h
theorem z_callSL {v : Int64} (K : Ok X g l cc own nL ret rm) (hM : ML l g y' cc' nL' ret' rm' As R T v R' T') (e : CS y' cc' nL' ret' n) (hm : Cond.methodLink own idx y' ∈ gtb) (hr : fitR rm' rm nL') (hn : As.length = n) (hst : st = As.reverse ++ rest) (hW : Nat.ble (2 * 0 + (rest.map fun v => v.category).sum) 8 = true) (hd : decode cc pc = .ok (.invokestatic idx, 3)) (kk : Zj X g nL Q R' T' lv (.long v :: rest) (pc + 3)) : Zj X g nL Q R T lv st pc := by
  intro H locs ls hw h
  have hl := K.2.2.2.2.2.1
  subst hl
  refine va_calll (va_runS (As := As) (rest := rest) K.1 hM (z_cb K e hm hr) ⟨wp_blind, fun U hU hW => ⟨rfl, by rw [hU]; exact hw.1, awD hw.2.1, va_K.moved hW.alike K.2.2.2.1, hw.2.2.2, K.2.2.2.2.2.2.2.2.2.1, okE K hw hU hW⟩⟩ rfl hn h.1 hst (Nat.le_of_ble_eq_true hW) hd ⟨by rw [K.2.2.2.2.1]; exact K.2.2.2.2.2.2.1, by rw [K.2.2.2.2.1]; exact K.2.2.2.2.2.2.2.1⟩) hw.2.2.1 (fun q _ h => K.2.2.2.2.2.2.2.2.1 q h) (fun q h => K.2.2.2.2.2.2.2.2.1 q h) (fun r u t H1 locs1 ht hvm hp hB hz1 hk1 hS => ?_)
  obtain ⟨rfl, rfl⟩ := hp
  exact kk H1 locs1 ls (wo_call K ht hB hS) h
end
end ZC
