/-! a method of the class that throws: what it needs of the start, and its ends -/
def cNS : String := "java/util/NoSuchElementException"
def nsL : List Cond := vx_atS RX11 146 "java/util/NoSuchElementException" ["java/lang/RuntimeException", "java/lang/Exception"]
def nsB : List Cond := nsL.filter (fun w => !goodWord w)
def isC : Cond → Bool
  | .castable _ _ => true
  | _ => false
theorem nsB_c : ∀ w ∈ nsB, isC w = true := by decide +kernel
theorem nsL_t : ∀ w ∈ nsL.filter goodWord, w ∈ lw_tbl := by decide +kernel
theorem nsL_g : ∀ w ∈ nsL.filter goodWord, w ∈ gtb := fun w hw => List.mem_filter.mpr ⟨nsL_t w hw, (List.mem_filter.mp hw).2⟩
theorem nsL_o : ∀ w ∈ Cond.classLink RX11 142 "java/util/NoSuchElementException" :: Cond.initialized "java/util/NoSuchElementException" :: nsL, vx_ot w = true := by decide +kernel
theorem ns_k : Cond.classLink RX11 142 "java/util/NoSuchElementException" ∈ gtb := List.mem_filter.mpr ⟨by decide +kernel, rfl⟩
theorem ns_i : Cond.initialized "java/util/NoSuchElementException" ∈ gtb := List.mem_filter.mpr ⟨by decide +kernel, rfl⟩
theorem isC.warm {w : Cond} (h : isC w = true) {s U : State} (hW : s.WarmedH U.vm) (hZ : va_Nw w s) : va_Nw w U := by
  cases w <;> first | (exact va_Nw.warmC hW hZ) | (cases h)
theorem isC.same {w : Cond} (h : isC w = true) {s U : State} (hv : s.vm = U.vm) (hZ : va_Nw w s) : va_Nw w U := by
  cases w <;> first | (exact va_Nw.same rfl hv hZ) | (cases h)
theorem isC.use {w : Cond} (h : isC w = true) {A : Array Value} {U : State} (hZ : va_Nw w U) : w.before A U = true := by
  cases w <;> first | (exact va_Nw.use rfl hZ) | (cases h)
def XT (ad : Nat → Nat) (sz : Nat) (U : State) : Prop := (∀ w ∈ nsB, va_Nw w U) ∧ (vk_R RX11 144 "no such person" (ad 0) U ∧ vk_R RX11 170 "no such thing of a person" (ad 1) U ∧ vk_R RX11 310 "nothing is in the barrel" (ad 2) U ∧ vk_R RX11 315 "no such number of a fraction" (ad 3) U) ∧ vx_Zq Bundle.tN "UNASSIGNED_STACK" Bundle.steD (fun q => sz ≤ q) U U.heap ∧ vx_Zq Bundle.tN "SUPPRESSED_SENTINEL" Bundle.listD (fun q => sz ≤ q) U U.heap
theorem XT.keep {ad : Nat → Nat} {sz : Nat} {s U : State} (hW : s.WarmedH U.vm) (hq : ∀ a : Nat, a < s.heap.size → ¬ sz ≤ a → U.heap[a]? = s.heap[a]?) (h : XT ad sz s) : XT ad sz U :=
  ⟨fun w hw => isC.warm (nsB_c w hw) hW (h.1 w hw), ⟨vk_R.warm hW h.2.1.1, vk_R.warm hW h.2.1.2.1, vk_R.warm hW h.2.1.2.2.1, vk_R.warm hW h.2.1.2.2.2⟩, vx_Zq.moved hW.alike (h.2.2.1.kept hq), vx_Zq.moved hW.alike (h.2.2.2.kept hq)⟩
theorem XT.same {ad : Nat → Nat} {sz : Nat} {s U : State} (hv : U.vm = s.vm) (hh : U.heap = s.heap) (h : XT ad sz s) : XT ad sz U := by
  have ha : s.vm.Alike U.vm := by rw [hv]; exact Vm.Alike.refl s.vm
  refine ⟨fun w hw => isC.same (nsB_c w hw) hv.symm (h.1 w hw), ⟨vk_R.same hv h.2.1.1, vk_R.same hv h.2.1.2.1, vk_R.same hv h.2.1.2.2.1, vk_R.same hv h.2.1.2.2.2⟩, ?_, ?_⟩
  · rw [hh]; exact vx_Zq.moved ha h.2.2.1
  · rw [hh]; exact vx_Zq.moved ha h.2.2.2
def TH (g : Gl) (ad : Nat → Nat) (sz : Nat) : Prop := (∀ U : State, g.2.2.2.2 U → XT ad sz U) ∧ ∀ q : Nat, Aw g q → sz ≤ q
/-- the world, less what is said of a state's constants -/
def Wq (g : Gl) (R : Rf) (T : Mm) (H : Heap) : Prop := va_P g.1 vwCl (wsOf g R T) H ∧ va_D (Aw g) (wsOf g R T) ∧ Ty g R
def QP (X : Cx) (g : Gl) (o : Option Int32) (R' : Rf) (T' : Mm) : State → Prop := vx_MQ X.2.2.2.2.2.2.2.1 (va_Qi (fun (r : Int32) (u : Rf × Mm) => o = some r ∧ u = (R', T')) (fun u t => Wp g u.1 u.2 t) X.2.2.2.2.2.2.2.2.2.2.2.2) (vx_X (fun (u : Rf × Mm) => o = none ∧ u = (R', T')) (fun E u t => E = cNS ∧ Wq g u.1 u.2 t.heap) X.2.2.2.2.2.2.2.2.2.2.2.2) X.2.2.2.2.2.2.1 X.2.2.2.2.1 1 6 X.2.2.2.2.2.2.2.2.2.2.2.2
/-- its contract -/
def MP (l : Launch) (g : Gl) (y : MethodName) (cc : ByteArray) (nL : Nat) (ret : Option FieldType) (rm : Room) (av : List Value) (R : Rf) (T : Mm) (o : Option Int32) (R' : Rf) (T' : Mm) : Prop := vx_Met l y (wsU y cc nL ret) rm (va_Pc av (Wp g R T)) (va_Qi (fun (r : Int32) (u : Rf × Mm) => o = some r ∧ u = (R', T')) (fun u t => Wp g u.1 u.2 t) (Aw g)) (vx_X (fun (u : Rf × Mm) => o = none ∧ u = (R', T')) (fun E u t => E = cNS ∧ Wq g u.1 u.2 t.heap) (Aw g)) 1 6 (Aw g)
/-- what its body may lean on -/
def OkP (X : Cx) (g : Gl) : Prop := (∀ q : Nat, X.2.2.2.2.2.2.2.2.2.2.2.2 q → Aw g q) ∧ (∀ x ∈ X.2.2.2.2.2.2.2.2.2.1.exceptionTable.toList, False) ∧ X.2.2.2.2.2.2.2.2.2.2.1 = 0 ∧ X.2.2.2.2.2.2.2.2.2.2.2.1 = 0
section ZT
variable {X : Cx} {g : Gl} {l : Launch} {cc : ByteArray} {own : String} {y : MethodName} {nL : Nat} {ret : Option FieldType} {rm : Room} {R : Rf} {T : Mm} {lv : List (Option Value)} {pc : Nat} {ad : Nat → Nat} {sz : Nat}
theorem z_metP {o : Option Int32} {R' : Rf} {T' : Mm} {av : List Value} (hy : plainName y.cls = true) (ho : y.cls = own) (hlen : Nat.ble (lg_sl av).length nL = true) (hlv : avl av ++ List.replicate (nL - (avl av).length) none = lv) (body : ∀ X : Cx, Ok X g l cc own nL ret rm → OkP X g → Zj X g nL (QP X g o R' T') R T lv [] 0) : MP l g y cc nL ret rm av R T o R' T' := by
  refine vx_ofW (cc := cc) (maxL := nL) (ret := ret) hy rfl ?_
  intro p e s m args below meth c s₁ B hml hno hv
  obtain ⟨rfl, hP, hD, hK, hTy, hKp, hE⟩ := hv
  subst ho
  rw [lg_entry_eq]
  exact body (p, l, e, rm, s, m, av.toArray, below, meth, c, 0, 0, Aw g) ⟨⟨B.exec, B.bytes, hml, findClass_of_methodNamed B.named, fun w hw => atoms_spec (ws := wsU y cc nL ret) B.pre w (List.mem_cons_of_mem _ hw)⟩, B.returns, B.notSynchronized, hK, rfl, rfl, Nat.zero_le _, Nat.zero_le _, fun _ h => h, hKp, hE, fun _ _ h => h⟩ ⟨fun _ h => h, hno, rfl, rfl⟩ s.heap [] _ ⟨hP, hD, va_S.rf, hTy⟩ (lh_entry (Nat.le_of_ble_eq_true hlen) hlv)
theorem z_retP (K : Ok X g l cc own nL (some .int) rm) (hP : OkP X g) {v : Int32} (hd : decode cc pc = .ok (.ireturn, 1)) : Zj X g nL (QP X g (some v) R T) R T lv [.int v] pc := by
  intro H locs ls hw h
  refine vx_ret (W.widen (k := 1) (n := 6) (by rw [hP.2.2.1]; omega) (by rw [hP.2.2.2]; omega) ?_)
  exact W.iret K.1.1 K.1.2.1 K.2.1 (fun t ht hW => ⟨⟨v, (R, T), rfl, ⟨rfl, rfl⟩, ⟨by rw [ht]; exact hw.1, awD hw.2.1, va_K.moved hW.alike K.2.2.2.1, hw.2.2.2, K.2.2.2.2.2.2.2.2.2.1, okE K hw ht hW⟩⟩, hw.2.2.1.F ht⟩) hw.2.2.1.2.2 hd K.2.2.1
theorem xt_hat (K : Ok X g l cc own nL ret rm) (hT : TH g ad sz) : ∀ w ∈ nsL, w.before X.2.2.2.2.2.2.1 X.2.2.2.2.1 = true := by
  have hx := hT.1 _ K.2.2.2.2.2.2.2.2.2.2.1
  refine vx_hat (B := nsB) (fun w hw => K.ts (nsL_g w hw)) (fun w hw => hw) (fun w hw => isC.use (nsB_c w hw) (hx.1 w hw))
theorem xt_hx (K : Ok X g l cc own nL ret rm) {H : Heap} {locs : List Loc} (hw : Wo X g R T H locs) (t : State) (h1 : H.size ≤ t.heap.size) (h2 : ∀ q : Nat, q < H.size → t.heap[q]? = H[q]?) : vx_X (fun (u : Rf × Mm) => (none : Option Int32) = none ∧ u = (R, T)) (fun E u t => E = cNS ∧ Wq g u.1 u.2 t.heap) X.2.2.2.2.2.2.2.2.2.2.2.2 "java/util/NoSuchElementException" X.2.2.2.2.1 t := ⟨(R, T), ⟨rfl, rfl⟩, ⟨rfl, hw.1.kept (fun k q hk => h2 _ (vx_lt hw.1 hk)), awD hw.2.1, hw.2.2.2⟩, Nat.le_trans hw.2.2.1.1 h1, fun q hq hn => by rw [h2 q (Nat.lt_of_lt_of_le hq hw.2.2.1.1)]; exact hw.2.2.1.2.1 q hq hn⟩
theorem z_throw (K : Ok X g l cc RX11 nL ret rm) (hP : OkP X g) (hT : TH g ad sz) (hl : l.stackTraces = false) {is sa : Nat} {text : String} (hstr : ∀ U, XT ad sz U → vk_R RX11 is text sa U) (hrm : rm.cells = 1 ∧ rm.slots = 6 ∧ Nat.ble 6 rm.frames = true ∧ Nat.ble 82 rm.locals = true) (d0 : decode cc pc = .ok (.new 142, 3)) (d3 : decode cc (pc + 3) = .ok (.dup, 1)) (d4 : decode cc (pc + 4) = .ok (.ldc is, 2)) (d6 : decode cc (pc + 6) = .ok (.invokespecial 146, 3)) (d9 : decode cc (pc + 9) = .ok (.athrow, 1)) : Zj X g nL (QP X g none R T) R T lv [] pc := by
  intro H locs ls hw h
  have hx := hT.1 _ K.2.2.2.2.2.2.2.2.2.2.1
  have hA : ∀ q : Nat, X.2.2.2.2.2.2.2.2.2.2.2.2 q → sz ≤ q := fun q hq => hT.2 q (hP.1 q hq)
  refine vx_throwS (A := fun q => sz ≤ q) (names := ["java/lang/RuntimeException", "java/lang/Exception"]) K.1.1 K.1.2.1 (by rw [K.2.2.2.2.2.1]; exact hl) K.1.2.2.2.1 (by decide +kernel) (by decide +kernel) (K.ts ns_k) (K.ts ns_i) (hstr _ hx) (xt_hat K hT) nsL_o hx.2.2.1 hx.2.2.2 (vs_of hA hw) (h.1.trans K.1.2.2.1.symm) d0 d3 d4 d6 d9 (fun x hx => (hP.2.1 x hx).elim) ?_ ?_ ?_ ?_ K.2.2.1 (fun t _ h1 h2 => xt_hx K hw t h1 h2) hw.2.2.1.2.2 ?_ ?_
  · rw [K.2.2.2.2.1]; exact Nat.le_of_ble_eq_true hrm.2.2.1
  · rw [K.2.2.2.2.1]; exact Nat.le_of_ble_eq_true hrm.2.2.2
  · rw [K.2.2.2.2.1, hP.2.2.1, hrm.1]; omega
  · rw [K.2.2.2.2.1, hP.2.2.2, hrm.2.1]; omega
  · rw [hP.2.2.1]; omega
  · rw [hP.2.2.2]; omega
theorem z_throwW (K : Ok X g l cc RX11 nL ret rm) (hP : OkP X g) (hT : TH g ad sz) (hl : l.stackTraces = false) {is sa : Nat} {text : String} (hstr : ∀ U, XT ad sz U → vk_R RX11 is text sa U) (hrm : rm.cells = 1 ∧ rm.slots = 6 ∧ Nat.ble 6 rm.frames = true ∧ Nat.ble 82 rm.locals = true) (d0 : decode cc pc = .ok (.new 142, 3)) (d3 : decode cc (pc + 3) = .ok (.dup, 1)) (d4 : decode cc (pc + 4) = .ok (.ldc_w is, 3)) (d7 : decode cc (pc + 7) = .ok (.invokespecial 146, 3)) (d10 : decode cc (pc + 10) = .ok (.athrow, 1)) : Zj X g nL (QP X g none R T) R T lv [] pc := by
  intro H locs ls hw h
  have hx := hT.1 _ K.2.2.2.2.2.2.2.2.2.2.1
  have hA : ∀ q : Nat, X.2.2.2.2.2.2.2.2.2.2.2.2 q → sz ≤ q := fun q hq => hT.2 q (hP.1 q hq)
  refine vx_throwSW (A := fun q => sz ≤ q) (names := ["java/lang/RuntimeException", "java/lang/Exception"]) K.1.1 K.1.2.1 (by rw [K.2.2.2.2.2.1]; exact hl) K.1.2.2.2.1 (by decide +kernel) (by decide +kernel) (K.ts ns_k) (K.ts ns_i) (hstr _ hx) (xt_hat K hT) nsL_o hx.2.2.1 hx.2.2.2 (vs_of hA hw) (h.1.trans K.1.2.2.1.symm) d0 d3 d4 d7 d10 (fun x hx => (hP.2.1 x hx).elim) ?_ ?_ ?_ ?_ K.2.2.1 (fun t _ h1 h2 => xt_hx K hw t h1 h2) hw.2.2.1.2.2 ?_ ?_
  · rw [K.2.2.2.2.1]; exact Nat.le_of_ble_eq_true hrm.2.2.1
  · rw [K.2.2.2.2.1]; exact Nat.le_of_ble_eq_true hrm.2.2.2
  · rw [K.2.2.2.2.1, hP.2.2.1, hrm.1]; omega
  · rw [K.2.2.2.2.1, hP.2.2.2, hrm.2.1]; omega
  · rw [hP.2.2.1]; omega
  · rw [hP.2.2.2]; omega
end ZT
