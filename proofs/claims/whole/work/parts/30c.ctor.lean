/-! CONSTRUCTORS: a judgement over explicit lists of cells, with cells and slots counted -/
def Yj (X : Cx) (D : va_G) (A : Nat → Prop) (nL : Nat) (Q : State → Prop) (ws : va_W) (cn sn : Nat) (lv : List (Option Value)) (st : List Value) (pc : Nat) : Prop :=
  ∀ (H : Heap) (locs : List Loc) (ls : Array Slot), va_P D vwCl ws H → va_D A ws → va_S A X.2.2.2.2.1.heap H locs → lh ls nL lv →
    W X.1 X.2.1 X.2.2.1 X.2.2.2.1 X.2.2.2.2.1 X.2.2.2.2.2.1 X.2.2.2.2.2.2.1 X.2.2.2.2.2.2.2.1 X.2.2.2.2.2.2.2.2.1 X.2.2.2.2.2.2.2.2.2.1 H locs cn sn Q (F0 X.2.2.2.2.2.1 pc ls st)
def OkY (z : (Nat → Nat) × (Nat → Nat) × Nat) (X : Cx) (l : Launch) (D : va_G) (cy : Nat → ClassId) (A : Nat → Prop) (cc : ByteArray) (own : String) (nL : Nat) (rm : Room) : Prop :=
  CallFix X.1 X.2.2.2.2.2.1 X.2.2.2.2.2.2.2.2.2.1 cc nL X.2.2.2.2.1 X.2.2.2.2.2.2.1 gtb own ∧ X.2.2.2.2.2.2.2.2.1.sig.returnType = none ∧ X.2.2.2.2.2.2.2.2.1.locks = false ∧ va_K D vwCl (tyL cy) X.2.2.2.2.1 ∧ X.2.2.2.1 = rm ∧ X.2.1 = l ∧ (∀ q : Nat, X.2.2.2.2.1.heap.size ≤ q → A q) ∧ X.2.2.2.2.2.2.2.2.1.name = "<init>" ∧ EX z X.2.2.2.2.1 ∧ X.2.2.2.2.2.2.2.2.2.2.2.2 = A ∧ ∀ q : Nat, A q → z.2.2 ≤ q
section YR
variable {zz : (Nat → Nat) × (Nat → Nat) × Nat} {X : Cx} {l : Launch} {D : va_G} {cy : Nat → ClassId} {A : Nat → Prop} {cc : ByteArray} {own : String} {nL : Nat} {rm : Room} {Q : State → Prop} {ws : va_W} {cn sn : Nat} {lv : List (Option Value)} {st : List Value} {pc : Nat}
theorem OkY.ts (K : OkY zz X l D cy A cc own nL rm) {w : Cond} (h : w ∈ gtb) : w.before X.2.2.2.2.2.2.1 X.2.2.2.2.1 = true := K.1.2.2.2.2 w h
theorem OkY.aoC (K : OkY zz X l D cy A cc own nL rm) : va_AO "GoingOver$Course" X.2.2.2.2.1 := K.2.2.2.2.2.2.2.2.1.1.1
theorem OkY.aoI (K : OkY zz X l D cy A cc own nL rm) : va_AO "GoingOver$Image" X.2.2.2.2.1 := K.2.2.2.2.2.2.2.2.1.1.2.1
theorem OkY.aoA (K : OkY zz X l D cy A cc own nL rm) : va_AOA .int X.2.2.2.2.1 := K.2.2.2.2.2.2.2.2.1.1.2.2.1
theorem OkY.xa (K : OkY zz X l D cy A cc own nL rm) : X.2.2.2.2.2.2.2.2.2.2.2.2 = A := K.2.2.2.2.2.2.2.2.2.1
theorem OkY.az (K : OkY zz X l D cy A cc own nL rm) : ∀ q : Nat, A q → zz.2.2 ≤ q := K.2.2.2.2.2.2.2.2.2.2
theorem OkY.nest (K : OkY zz X l D cy A cc own nL rm) {ow : String} {i : Nat} {y : MethodName} (k : Nat) (hk : nestL[k]? = some (ow, i, y)) : va_Nw (.methodLinkNest ow i y "GoingOver") X.2.2.2.2.1 := K.2.2.2.2.2.2.2.2.1.1.2.2.2 (ow, i, y) (List.mem_of_getElem? hk)
theorem y_aload_n (K : OkY zz X l D cy A cc own nL rm) {k : Fin 4} {x : Nat} (hd : decode cc pc = .ok (.aload_n k, 1)) (hl : lv[(k : Nat)]? = some (some (.ref x))) (kk : Yj X D A nL Q ws cn sn lv (.ref x :: st) (pc + 1)) : Yj X D A nL Q ws cn sn lv st pc := fun H locs ls hP hD hS h => lv_aload_n K.1.1 K.1.2.1 hd rfl (lh_at h hl) (kk H locs ls hP hD hS h)
theorem y_iconst (K : OkY zz X l D cy A cc own nL rm) {n : Int} (v : Int32) (hd : decode cc pc = .ok (.iconst n, 1)) (hv : Int32.ofInt n = v) (kk : Yj X D A nL Q ws cn sn lv (.int v :: st) (pc + 1)) : Yj X D A nL Q ws cn sn lv st pc := fun H locs ls hP hD hS h => lv_iconst K.1.1 K.1.2.1 hd hv (kk H locs ls hP hD hS h)
theorem y_bipush (K : OkY zz X l D cy A cc own nL rm) {n : Int} (v : Int32) (hd : decode cc pc = .ok (.bipush n, 2)) (hv : (Int8.ofInt n).toInt32 = v) (kk : Yj X D A nL Q ws cn sn lv (.int v :: st) (pc + 2)) : Yj X D A nL Q ws cn sn lv st pc := fun H locs ls hP hD hS h => lv_bipush K.1.1 K.1.2.1 hd hv (kk H locs ls hP hD hS h)
theorem y_sipush (K : OkY zz X l D cy A cc own nL rm) {n : Int} (v : Int32) (hd : decode cc pc = .ok (.sipush n, 3)) (hv : (Int16.ofInt n).toInt32 = v) (kk : Yj X D A nL Q ws cn sn lv (.int v :: st) (pc + 3)) : Yj X D A nL Q ws cn sn lv st pc := fun H locs ls hP hD hS h => lv_sipush K.1.1 K.1.2.1 hd hv (kk H locs ls hP hD hS h)
theorem y_dup (K : OkY zz X l D cy A cc own nL rm) {v : Value} (hd : decode cc pc = .ok (.dup, 1)) (hv : v.category = 1) (kk : Yj X D A nL Q ws cn sn lv (v :: v :: st) (pc + 1)) : Yj X D A nL Q ws cn sn lv (v :: st) pc := fun H locs ls hP hD hS h => lv_dup K.1.1 K.1.2.1 hd hv (kk H locs ls hP hD hS h)
theorem y_objInit (K : OkY zz X l D cy A cc own nL rm) {idx a : Nat} (hm : Cond.methodLink own idx Lib.objectInit ∈ gtb) (hi : Cond.instanceMethod Lib.objectInit ∈ gtb) (hc : Cond.code Lib.objectInit ⟨#[0xb1]⟩ 1 none ∈ gtb) (hd : decode cc pc = .ok (.invokespecial idx, 3)) (hf : 1 ≤ rm.frames) (hlo : (st.map fun v => v.category).sum + 12 ≤ rm.locals) (kk : Yj X D A nL Q ws cn sn lv st (pc + 3)) : Yj X D A nL Q ws cn sn lv (.ref a :: st) pc := fun H locs ls hP hD hS h => W.objInit K.1.1 K.1.2.1 K.1.2.2.2.1 (K.ts hm) (K.ts hi) (K.ts hc) rfl (h.1.trans K.1.2.2.1.symm) rfl hd (by rw [K.2.2.2.2.1]; exact hf) (by rw [K.2.2.2.2.1]; show 2 * 0 + _ + 12 ≤ _; omega) (kk H locs ls hP hD hS h)
theorem tyS {s : State} {t : Nat} {ty : FieldType} {cA : ClassId} (hK : va_K D vwCl (tyL cy) s) (hK2 : va_K D vwCl (tyL cy ++ [(cA, ty)]) s) (ht : (tyL cy)[t]? = some (cy t, ty)) : cA = cy t := by
  have h1 := (hK.2 t _ ht).2
  have h2 := (hK2.2 7 (cA, ty) rfl).2
  have key : s.vm.findClass ("[" ++ ty.toString) = some (cy t) ∧ s.vm.findClass ("[" ++ ty.toString) = some cA := by
    unfold va_RA at h1 h2
    cases ty
    all_goals first | exact ⟨h1, h2⟩ | (obtain ⟨_, _, -, -, -, e1⟩ := h1; obtain ⟨_, _, -, -, -, e2⟩ := h2; exact ⟨e1, e2⟩)
  exact Option.some.inj (key.2.symm.trans key.1)
theorem y_newa (K : OkY zz X l D cy A cc own nL rm) (t : Nat) {atype : ArrayType} {ty : FieldType} {n : Int32} {N' : Nat} (a0 : vp_A) (hw : Cond.arrayClass ty ∈ gtb) (hty : newarray.typeOf atype = ty) (ht : (tyL cy)[t]? = some (cy t, ty)) (ha : ∀ cA : ClassId, vp_cell cA a0 = arrV cA N' (fun _ => defaultValue ty)) (hn : ¬ n < 0) (hN : n.toNatClampNeg = N') (hb : N' * componentBytes ty ≤ 536870912) (hc : cn + 1 ≤ rm.cells) (hs : sn + N' ≤ rm.slots) (hd : decode cc pc = .ok (.newarray atype, 2)) (kk : ∀ q : Nat, Yj X D A nL Q (ws ++ [(q, .inl (cy t, a0))]) (cn + 1) (sn + N') lv (.ref q :: st) (pc + 2)) : Yj X D A nL Q ws cn sn lv (.int n :: st) pc := by
  intro H locs ls hP hD hS h
  refine va_newa K.1.1 K.1.2.1 (by rw [hty]; exact K.ts hw) hty K.2.2.2.1 hP hD hS K.2.2.2.2.2.2.1 ha hn hN hb (by rw [K.2.2.2.2.1]; exact hc) (by rw [K.2.2.2.2.1]; exact hs) hd (fun q cA H1 hK2 hP1 hD1 hS1 => ?_)
  have e := tyS K.2.2.2.1 hK2 ht
  subst e
  exact kk q H1 locs ls hP1 hD1 hS1 h
theorem y_newq (K : OkY zz X l D cy A cc own nL rm) (t : Nat) {C : String} {idx : Nat} {n : Int32} {N' : Nat} (hcl : Cond.classLink own idx C ∈ gtb) (hao : va_AO C X.2.2.2.2.1) (ht : (tyL cy)[t]? = some (cy t, .object C)) (hn : ¬ n < 0) (hN : n.toNatClampNeg = N') (hb : N' * 4 ≤ 536870912) (hc : cn + 1 ≤ rm.cells) (hs : sn + N' ≤ rm.slots) (hd : decode cc pc = .ok (.anewarray idx, 3)) (kk : ∀ q : Nat, Yj X D A nL Q (ws ++ [(q, .inl (cy t, N', .inr (.inr (.inr (.inr (fun _ => none))))))]) (cn + 1) (sn + N') lv (.ref q :: st) (pc + 3)) : Yj X D A nL Q ws cn sn lv (.int n :: st) pc := by
  intro H locs ls hP hD hS h
  refine va_newq K.1.1 K.1.2.1 K.1.2.2.2.1 (K.ts hcl) hao K.2.2.2.1 hP hD hS K.2.2.2.2.2.2.1 hn hN hb (by rw [K.2.2.2.2.1]; exact hc) (by rw [K.2.2.2.2.1]; exact hs) hd (fun q cA H1 hK2 hP1 hD1 hS1 => ?_)
  have e := tyS K.2.2.2.1 hK2 ht
  subst e
  exact kk q H1 locs ls hP1 hD1 hS1 h
theorem y_putF {C : String} {Tt : u_T} {N ci a idx : Nat} {fs : List Value} {v : Value} {ty0 : Nat → FieldType} (K : OkY zz X l D cy A cc own nL rm) (c : CL ci C Tt N) (hty : ∀ k, k < N → parseFieldDescriptor (Tt k).2.2.1 = some (ty0 k)) (hnm : ∀ a, a < N → ∀ b, b < N → a ≠ b → (Tt a).2.1 ≠ (Tt b).2.1) (q0 : Nat) (he : ws[q0]? = some (a, .inr (ci, fs))) (k : Nat) (hN : Nat.blt k N = true) (hm : Cond.fieldLink own idx (Tt k).1 (Tt k).2.1 (Tt k).2.2.1 ∈ gtb) (hfin : (Tt k).2.2.2 = true) (hdecl : (Tt k).1 = own) (hn : narrow (ty0 k) v = v) (hfit : fits (ty0 k) v = true) (hl : Nat.blt k fs.length = true) (hd : decode cc pc = .ok (.putfield idx, 3)) (kk : Yj X D A nL Q (ws.set q0 (a, .inr (ci, fs.set k v))) cn sn lv st (pc + 3)) : Yj X D A nL Q ws cn sn lv (v :: .ref a :: st) pc := fun H locs ls hP hD hS h =>
  va_putF K.1.1 K.1.2.1 K.1.2.2.2.2 c.2.1 ty0 hty hnm K.1.2.2.2.1 K.2.2.2.1 hP hD hS q0 he c.1 k (Nat.blt_eq.mp hN) (K.ts hm) (fun _ h9 => h9) hfin K.2.2.2.2.2.2.2.1 hdecl (hty k (Nat.blt_eq.mp hN)) hn hfit (Nat.blt_eq.mp hl) hd (fun H1 locs1 hP1 hD1 hS1 => kk H1 locs1 ls hP1 hD1 hS1 h)
theorem y_put {C : String} {Tt : u_T} {N ci a idx : Nat} {fs : List Value} {v : Value} {ty0 : Nat → FieldType} (K : OkY zz X l D cy A cc own nL rm) (c : CL ci C Tt N) (hty : ∀ k, k < N → parseFieldDescriptor (Tt k).2.2.1 = some (ty0 k)) (hnm : ∀ a, a < N → ∀ b, b < N → a ≠ b → (Tt a).2.1 ≠ (Tt b).2.1) (q0 : Nat) (he : ws[q0]? = some (a, .inr (ci, fs))) (k : Nat) (hN : Nat.blt k N = true) (hm : Cond.fieldLink own idx (Tt k).1 (Tt k).2.1 (Tt k).2.2.1 ∈ gtb) (hfin : (Tt k).2.2.2 = false) (hn : narrow (ty0 k) v = v) (hfit : fits (ty0 k) v = true) (hl : Nat.blt k fs.length = true) (hd : decode cc pc = .ok (.putfield idx, 3)) (kk : Yj X D A nL Q (ws.set q0 (a, .inr (ci, fs.set k v))) cn sn lv st (pc + 3)) : Yj X D A nL Q ws cn sn lv (v :: .ref a :: st) pc := fun H locs ls hP hD hS h =>
  va_put K.1.1 K.1.2.1 K.1.2.2.2.2 c.2.1 ty0 hty hnm K.1.2.2.2.1 K.2.2.2.1 hP hD hS q0 he c.1 k (Nat.blt_eq.mp hN) (K.ts hm) (fun _ h9 => h9) hfin (hty k (Nat.blt_eq.mp hN)) hn hfit (Nat.blt_eq.mp hl) hd (fun H1 locs1 hP1 hD1 hS1 => kk H1 locs1 ls hP1 hD1 hS1 h)
/-- what a constructor owes: the cells seg q r, r the addresses of what it made -/
def YQ {S : Type} (X : Cx) (D : va_G) (A : Nat → Prop) (mc ms : Nat) (post : S → Prop) (seg : S → va_W) : State → Prop := MQ X.2.2.2.2.2.2.2.1 (va_Qv post (fun r t => va_P D vwCl (seg r) t.heap ∧ va_D A (seg r)) A) X.2.2.2.2.2.2.1 X.2.2.2.2.1 mc ms A
theorem y_vret {S : Type} {post : S → Prop} {seg : S → va_W} (K : OkY zz X l D cy A cc own nL rm) (r : S) (hp : post r) (hw : ws = seg r) (hd : decode cc pc = .ok (.return_, 1)) : Yj X D A nL (YQ X D A cn sn post seg) ws cn sn lv [] pc := by
  intro H locs ls hP hD hS h
  subst hw
  exact W.vret K.1.1 K.1.2.1 K.2.1 (fun t ht hW => ⟨⟨r, rfl, hp, by rw [ht]; exact hP, hD⟩, hS.F ht⟩) hS.2.2 hd K.2.2.1
/-- a constructor's contract -/
def CT {S : Type} (z : (Nat → Nat) × (Nat → Nat) × Nat) (l : Launch) (D : va_G) (cy : Nat → ClassId) (y : MethodName) (cc : ByteArray) (nL : Nat) (rm : Room) (ci : Nat) (fs : List Value) (post : S → Prop) (seg : Nat → S → va_W) : Prop := ∀ q sz : Nat,
  Met l y (wsU y cc nL none) rm (va_Pc [.ref q] (fun U => U.heap.size = sz ∧ va_P D vwCl [(q, .inr (ci, fs))] U.heap ∧ va_K D vwCl (tyL cy) U ∧ va_D (fun _ => True) [(q, .inr (ci, fs))] ∧ EX z U ∧ z.2.2 ≤ q)) (va_Qv post (fun r t => va_P D vwCl (seg q r) t.heap ∧ va_D (va_A [(q, .inr (ci, fs))] sz) (seg q r)) (va_A [(q, .inr (ci, fs))] sz)) rm.cells rm.slots (va_A [(q, .inr (ci, fs))] sz)
theorem y_ct {S : Type} {y : MethodName} {ci : Nat} {fs : List Value} {post : S → Prop} {seg : Nat → S → va_W} (hy : plainName y.cls = true) (ho : y.cls = own) (hn : y.name = "<init>") (hlen : Nat.ble 1 nL = true) (body : ∀ (X : Cx) (A : Nat → Prop) (q : Nat), OkY zz X l D cy A cc own nL rm → Yj X D A nL (YQ X D A rm.cells rm.slots post (seg q)) [(q, .inr (ci, fs))] 0 0 (some (.ref q) :: List.replicate (nL - 1) none) [] 0) : CT zz l D cy y cc nL rm ci fs post seg := by
  intro q sz
  refine Met.ofW (cc := cc) (maxL := nL) (ret := none) hy rfl ?_
  intro p e s m args below meth c s₁ B hml hv
  obtain ⟨rfl, hsz, hP, hK, hD0, hE, hzq⟩ := hv
  subst ho
  subst hsz
  rw [lg_entry_eq]
  exact body (p, l, e, rm, s, m, [Value.ref q].toArray, below, meth, c, 0, 0, va_A [(q, .inr (ci, fs))] s.heap.size) (va_A [(q, .inr (ci, fs))] s.heap.size) q ⟨⟨B.exec, B.bytes, hml, findClass_of_methodNamed B.named, fun w hw => atoms_spec (ws := wsU y cc nL none) B.pre w (List.mem_cons_of_mem _ hw)⟩, B.returns, B.notSynchronized, hK, rfl, rfl, fun q h => Or.inr h, (name_of_methodNamed B.named B.method).1.trans hn, hE, rfl, fun z hz => by
    rcases hz with ⟨k, e, h⟩ | h
    · cases k with
      | zero =>
        have e1 : (q, (.inr (ci, fs) : va_E)) = (z, e) := by simpa using h
        rw [show z = q from (congrArg Prod.fst e1).symm]
        exact hzq
      | succ k => simp at h
    · exact Nat.le_trans hE.2.2 h⟩ s.heap [] _ hP hD0.self va_S.rf (lh_entry (av := [.ref q]) (Nat.le_of_ble_eq_true hlen) rfl)
theorem y_join {x : Nat × va_E} {w1 : va_W} {H H1 : Heap} (hP : va_P D vwCl (ws ++ [x]) H) (hD : va_D A (ws ++ [x])) (hk : ∀ q : Nat, q < H.size → ¬ va_A [x] H.size q → H1[q]? = H[q]?) (hF : ∀ q, va_A [x] H.size q → A q) (hP1 : va_P D vwCl w1 H1) (hD1 : va_D (va_A [x] H.size) w1) : va_P D vwCl (ws ++ w1) H1 ∧ va_D A (ws ++ w1) := by
  have hx : (ws ++ [x])[ws.length]? = some x := by simp
  have hin : ∀ (k : Nat) (q : Nat × va_E), ws[k]? = some q → (ws ++ [x])[k]? = some q := fun k q h => by
    rw [List.getElem?_append_left (List.getElem?_eq_some_iff.mp h).1]
    exact h
  have apart : ∀ (k : Nat) (q : Nat × va_E), ws[k]? = some q → q.1 < H.size ∧ ¬ va_A [x] H.size q.1 := by
    intro k q hq
    have hl := (hP k q (hin k q hq)).lt
    refine ⟨hl, fun h => ?_⟩
    rcases h with ⟨j, e, h⟩ | h
    · cases j with
      | zero =>
        have e1 : x = (q.1, e) := by simpa using h
        have := hD.1 k ws.length q x (hin k q hq) hx (by rw [e1])
        have hlt := (List.getElem?_eq_some_iff.mp hq).1
        omega
      | succ j => simp at h
    · omega
  refine ⟨va_P.app (fun k q hq => ?_) hP1, va_D.app ⟨fun i j p q hi hj e => hD.1 i j p q (hin i p hi) (hin j q hj) e, fun k q hq => hD.2 k q (hin k q hq)⟩ (hD1.weaken (fun k q _ h => hF q.1 h)) (fun i j x' y' hx' hy' hxy => ?_)⟩
  · obtain ⟨g1, g2⟩ := apart k q hq
    exact (hP k q (hin k q hq)).kept (hk q.1 g1 g2)
  · exact (apart i x' hx').2 (by rw [hxy]; exact hD1.2 j y' hy')
/-- 'new C(): new; dup; invokespecial': the callee a private constructor of a nest mate -/
theorem y_mkN {S : Type} {post : S → Prop} {y : MethodName} {C host : String} {Tt : u_T} {N ci : Nat} {ib : ByteArray} {iL ix ii : Nat} {rmc : Room} {fs : List Value} {seg : Nat → S → va_W} {ty0 : Nat → FieldType} (K : OkY zz X l D cy A cc own nL rm) (hC : CT zz l D cy y ib iL rmc ci fs post seg) (c : CL ci C Tt N) (hty : ∀ k, k < N → parseFieldDescriptor (Tt k).2.2.1 = some (ty0 k)) (hfs : ∀ j, j < N → defaultValue (ty0 j) = vp_V fs j) (hcl : Cond.classLink own ix C ∈ gtb) (hinst : Cond.instantiable C N ∈ gtb) (hini : Cond.initialized C ∈ gtb) (hyc : y.cls = C) (hyn : y.name = "<init>") (him : Cond.instanceMethod y ∈ gtb) (hcode : Cond.code y ib iL none ∈ gtb) (hln : va_Nw (.methodLinkNest own ii y host) X.2.2.2.2.1) (hdd : y.cls ≠ "java/lang/invoke/MethodHandle" ∧ y.cls ≠ "java/lang/invoke/VarHandle" ∧ (parseMethodDescriptor y.desc).map (fun d => d.parameters.length) = some 0) (hr : rmc.frames + 1 ≤ rm.frames ∧ 8 + (iL + 11) + rmc.locals ≤ rm.locals) (hcc : cn + 1 + rmc.cells ≤ rm.cells) (hss : sn + N + rmc.slots ≤ rm.slots) (hW : Nat.ble (2 * 0 + (((Value.ref 0) :: st).map fun v => v.category).sum) 8 = true) (hd1 : decode cc pc = .ok (.new ix, 3)) (hd2 : decode cc (pc + 3) = .ok (.dup, 1)) (hd3 : decode cc (pc + 4) = .ok (.invokespecial ii, 3)) (kk : ∀ (q : Nat) (r : S), post r → Yj X D A nL Q (ws ++ seg q r) (cn + 1 + rmc.cells) (sn + N + rmc.slots) lv (.ref q :: st) (pc + 7)) : Yj X D A nL Q ws cn sn lv st pc := by
  intro H locs ls hP hD hS h
  have hl := K.2.2.2.2.2.1
  subst hl
  refine va_new K.1.1 K.1.2.1 K.1.2.2.2.2 c.2.1 ty0 hty K.1.2.2.2.1 (K.ts hcl) (K.ts hinst) (K.ts hini) K.2.2.2.1 hP hD hS K.2.2.2.2.2.2.1 c.1 hfs (by rw [K.2.2.2.2.1]; omega) (by rw [K.2.2.2.2.1]; omega) hd1 (fun q H1 hP1 hD1 hS1 => ?_)
  refine lv_dup K.1.1 K.1.2.1 hd2 rfl ?_
  have hx : (ws ++ [(q, (.inr (ci, fs) : va_E))])[ws.length]? = some (q, .inr (ci, fs)) := by simp
  have hPc : va_P D vwCl [(q, .inr (ci, fs))] H1 := fun k z hz => by
    cases k with
    | zero =>
      have e1 : (q, (.inr (ci, fs) : va_E)) = z := by simpa using hz
      subst e1
      exact hP1 ws.length _ hx
    | succ k => simp at hz
  have hDc : va_D (fun _ => True) [(q, (.inr (ci, fs) : va_E))] := ⟨fun i j p z hi hj _ => by
    have h1 := (List.getElem?_eq_some_iff.mp hi).1
    have h2 := (List.getElem?_eq_some_iff.mp hj).1
    simp at h1 h2
    omega, fun _ _ _ => trivial⟩
  have hFc : ∀ z, va_A [(q, (.inr (ci, fs) : va_E))] H1.size z → A z := by
    intro z hz
    rcases hz with ⟨k, e, hz⟩ | hz
    · cases k with
      | zero =>
        have e1 : (q, (.inr (ci, fs) : va_E)) = (z, e) := by simpa using hz
        have e2 := congrArg Prod.fst e1
        dsimp only at e2
        rw [← e2]
        exact hD1.2 ws.length _ hx
      | succ k => simp at hz
    · exact K.2.2.2.2.2.2.1 z (Nat.le_trans hS1.1 hz)
  refine va_callv (va_runIN (As := []) (rest := .ref q :: st) K.1 (hC q H1.size) ⟨va_cnB 0 K.1.2.2.2.2 (good_U hcode) rfl rfl rfl hln (by rw [hyc]; exact K.ts hini) hdd (by rw [K.2.2.2.2.1]; exact hr), hyn, K.ts him⟩ ⟨fun a U g mk w => by obtain ⟨w0, w1, wP, wK, wD, wE, wz⟩ := w; exact ⟨w0, w1, wP, va_K.moved (u := U) (U := U.calling g mk a) (Vm.Alike.refl U.vm) wK, wD, EX.same (s := U) (U := U.calling g mk a) rfl rfl wE, wz⟩, fun U hU hW => ⟨rfl, by rw [hU], by rw [hU]; exact hPc, va_K.moved hW.alike K.2.2.2.1, hDc, EX.keep hW (fun a ha hna => by rw [hU]; exact hS1.2.1 a ha (fun h => hna (K.az a h))) (by rw [hU]; exact hS1.1) K.2.2.2.2.2.2.2.2.1, K.az q (hD1.2 ws.length _ hx)⟩⟩ rfl rfl h.1 rfl (Nat.le_of_ble_eq_true hW) hd3 ⟨by rw [K.2.2.2.2.1]; exact hcc, by rw [K.2.2.2.2.1]; exact hss⟩) hS1 (fun z _ h => hFc z h) hFc (fun r t H2 locs2 ht hvm hw hB hz1 hk1 hS2 => ?_)
  obtain ⟨hP2, hD2⟩ := hB
  rw [ht] at hP2
  obtain ⟨hP3, hD3⟩ := y_join hP1 hD1 hk1 hFc hP2 hD2
  exact kk q r hw H2 locs2 ls hP3 hD3 hS2 h
/-- 'new C(): new; dup; invokespecial': the callee a constructor that the tables link plainly -/
theorem y_mkP {S : Type} {post : S → Prop} {y : MethodName} {C : String} {Tt : u_T} {N ci : Nat} {ib : ByteArray} {iL ix ii : Nat} {rmc : Room} {fs : List Value} {seg : Nat → S → va_W} {ty0 : Nat → FieldType} (K : OkY zz X l D cy A cc own nL rm) (hC : CT zz l D cy y ib iL rmc ci fs post seg) (c : CL ci C Tt N) (hty : ∀ k, k < N → parseFieldDescriptor (Tt k).2.2.1 = some (ty0 k)) (hfs : ∀ j, j < N → defaultValue (ty0 j) = vp_V fs j) (hcl : Cond.classLink own ix C ∈ gtb) (hinst : Cond.instantiable C N ∈ gtb) (hini : Cond.initialized C ∈ gtb) (hyc : y.cls = C) (hyn : y.name = "<init>") (him : Cond.instanceMethod y ∈ gtb) (hcode : Cond.code y ib iL none ∈ gtb) (hln : Cond.methodLink own ii y ∈ gtb) (hdd : y.cls ≠ "java/lang/invoke/MethodHandle" ∧ y.cls ≠ "java/lang/invoke/VarHandle" ∧ (parseMethodDescriptor y.desc).map (fun d => d.parameters.length) = some 0) (hr : rmc.frames + 1 ≤ rm.frames ∧ 8 + (iL + 11) + rmc.locals ≤ rm.locals) (hcc : cn + 1 + rmc.cells ≤ rm.cells) (hss : sn + N + rmc.slots ≤ rm.slots) (hW : Nat.ble (2 * 0 + (((Value.ref 0) :: st).map fun v => v.category).sum) 8 = true) (hd1 : decode cc pc = .ok (.new ix, 3)) (hd2 : decode cc (pc + 3) = .ok (.dup, 1)) (hd3 : decode cc (pc + 4) = .ok (.invokespecial ii, 3)) (kk : ∀ (q : Nat) (r : S), post r → Yj X D A nL Q (ws ++ seg q r) (cn + 1 + rmc.cells) (sn + N + rmc.slots) lv (.ref q :: st) (pc + 7)) : Yj X D A nL Q ws cn sn lv st pc := by
  intro H locs ls hP hD hS h
  have hl := K.2.2.2.2.2.1
  subst hl
  refine va_new K.1.1 K.1.2.1 K.1.2.2.2.2 c.2.1 ty0 hty K.1.2.2.2.1 (K.ts hcl) (K.ts hinst) (K.ts hini) K.2.2.2.1 hP hD hS K.2.2.2.2.2.2.1 c.1 hfs (by rw [K.2.2.2.2.1]; omega) (by rw [K.2.2.2.2.1]; omega) hd1 (fun q H1 hP1 hD1 hS1 => ?_)
  refine lv_dup K.1.1 K.1.2.1 hd2 rfl ?_
  have hx : (ws ++ [(q, (.inr (ci, fs) : va_E))])[ws.length]? = some (q, .inr (ci, fs)) := by simp
  have hPc : va_P D vwCl [(q, .inr (ci, fs))] H1 := fun k z hz => by
    cases k with
    | zero =>
      have e1 : (q, (.inr (ci, fs) : va_E)) = z := by simpa using hz
      subst e1
      exact hP1 ws.length _ hx
    | succ k => simp at hz
  have hDc : va_D (fun _ => True) [(q, (.inr (ci, fs) : va_E))] := ⟨fun i j p z hi hj _ => by
    have h1 := (List.getElem?_eq_some_iff.mp hi).1
    have h2 := (List.getElem?_eq_some_iff.mp hj).1
    simp at h1 h2
    omega, fun _ _ _ => trivial⟩
  have hFc : ∀ z, va_A [(q, (.inr (ci, fs) : va_E))] H1.size z → A z := by
    intro z hz
    rcases hz with ⟨k, e, hz⟩ | hz
    · cases k with
      | zero =>
        have e1 : (q, (.inr (ci, fs) : va_E)) = (z, e) := by simpa using hz
        have e2 := congrArg Prod.fst e1
        dsimp only at e2
        rw [← e2]
        exact hD1.2 ws.length _ hx
      | succ k => simp at hz
    · exact K.2.2.2.2.2.2.1 z (Nat.le_trans hS1.1 hz)
  refine va_callv (va_runI (As := []) (rest := .ref q :: st) K.1 (hC q H1.size) (cwI 0 K.1.2.2.2.2 (good_U hcode) rfl rfl rfl (by rw [hyc]; exact K.ts hini) (K.ts hln) (K.ts him) hyn hdd (by rw [K.2.2.2.2.1]; exact hr)) ⟨fun a U g mk w => by obtain ⟨w0, w1, wP, wK, wD, wE, wz⟩ := w; exact ⟨w0, w1, wP, va_K.moved (u := U) (U := U.calling g mk a) (Vm.Alike.refl U.vm) wK, wD, EX.same (s := U) (U := U.calling g mk a) rfl rfl wE, wz⟩, fun U hU hW => ⟨rfl, by rw [hU], by rw [hU]; exact hPc, va_K.moved hW.alike K.2.2.2.1, hDc, EX.keep hW (fun a ha hna => by rw [hU]; exact hS1.2.1 a ha (fun h => hna (K.az a h))) (by rw [hU]; exact hS1.1) K.2.2.2.2.2.2.2.2.1, K.az q (hD1.2 ws.length _ hx)⟩⟩ rfl rfl h.1 rfl (Nat.le_of_ble_eq_true hW) hd3 ⟨by rw [K.2.2.2.2.1]; exact hcc, by rw [K.2.2.2.2.1]; exact hss⟩) hS1 (fun z _ h => hFc z h) hFc (fun r t H2 locs2 ht hvm hw hB hz1 hk1 hS2 => ?_)
  obtain ⟨hP2, hD2⟩ := hB
  rw [ht] at hP2
  obtain ⟨hP3, hD3⟩ := y_join hP1 hD1 hk1 hFc hP2 hD2
  exact kk q r hw H2 locs2 ls hP3 hD3 hS2 h
end YR
