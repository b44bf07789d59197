/-! NoSuchElementException is made and thrown: its own constructor links its superclass's by the index 13 -/
def nsSix : ByteArray := ⟨#[0x2a, 0x2b, 0xb7, 0x00, 0x0d, 0xb1]⟩
def nsN : String := "java/util/NoSuchElementException"
/-- its chain's words, and all that one who throws it needs -/
def nsCh : List Cond := Bundle.passSAtoms nsN "java/lang/RuntimeException" 13 nsSix ++ Bundle.chainSAtoms "java/lang/RuntimeException" ["java/lang/Exception"]
def nsLy : List Cond := [.lays nsN Bundle.tN "cause" "Ljava/lang/Throwable;", .lays nsN Bundle.tN "stackTrace" Bundle.steD, .lays nsN Bundle.tN "suppressedExceptions" Bundle.listD, .lays nsN Bundle.tN "detailMessage" "Ljava/lang/String;", .lays nsN Bundle.tN "backtrace" "Ljava/lang/Object;", .lays Bundle.tN Bundle.tN "backtrace" "Ljava/lang/Object;", .fieldLink Bundle.tN 198 Bundle.tN "backtrace" "Ljava/lang/Object;"]
def nsMk (own : String) (ic : Nat) : List Cond := [.methodLink own ic (Bundle.initS nsN), .instantiable nsN 6, .selects nsN Bundle.tFill0 Bundle.tFill0, .selects nsN Bundle.tFill Bundle.tFill]
def nsSt : List Cond := [.isRef (.static Bundle.tN "UNASSIGNED_STACK" Bundle.steD), .isRef (.static Bundle.tN "SUPPRESSED_SENTINEL" Bundle.listD)]
def nsHas (own : String) (ic : Nat) (args : Array Value) (s : State) : Prop := (∀ w ∈ Bundle.throwableAtoms, w.before args s = true) ∧ (∀ w ∈ Bundle.throwableSAtoms, w.before args s = true) ∧ (∀ w ∈ nsCh, w.before args s = true) ∧ (∀ w ∈ nsLy, w.before args s = true) ∧ (∀ w ∈ nsMk own ic, w.before args s = true) ∧ ∀ w ∈ nsSt, w.before args s = true
section NSC
variable {p : Program} {l : Launch} {e : Env} {R : Room} {s : State} {m₀ : MethodId} {args : Array Value} {below : List Frame} {meth : Method} {c : Code} {V : State} {locs : List Loc} {cells slots : Nat}
/-- the constructors that are gone through, one behind the other -/
theorem ns_pass {pl : Platform} (hpl : pl.magicAccessors = ({} : Platform).magicAccessors) {top : MethodId} (htop : s.methodNamed? (Bundle.initS Bundle.tN) = some top) (h : ∀ w ∈ nsCh, w.before args s = true) : ∃ (P Q : PassC) (Ps : List PassC), Ps.length = 1 ∧ (∀ A, A ∈ P :: Q :: Ps → A.LinksS pl s) ∧ s.methodNamed? (Bundle.initS nsN) = some P.m ∧ PassesOn top ((P :: Q :: Ps).map (·.toPassT)) := by
  obtain ⟨P, a1, a2, a3⟩ := PassC.ofS_atoms (args := args) (s := s) hpl (X := nsN) (Y := "java/lang/RuntimeException") (index := 13) (bytes := nsSix) (by decide) (by decide) (by decide +kernel) (by decide +kernel) (by decide +kernel) (by decide +kernel) (fun w hw => h w (List.mem_append_left _ hw))
  obtain ⟨Q, Ps, b1, b2, b3, b4, b5, b6⟩ := Bundle.chainS (args := args) hpl htop ["java/lang/Exception"] "java/lang/RuntimeException" (by decide) (by decide) (fun w hw => h w (List.mem_append_right _ hw))
  refine ⟨P, Q, Ps, b1, fun A hA => ?_, a2, ⟨Option.some.inj (a3.symm.trans b4), b5, b6⟩⟩
  rcases List.mem_cons.mp hA with rfl | hA
  · exact a1
  · rcases List.mem_cons.mp hA with rfl | hA
    · exact b2
    · exact b3 A hA
theorem ns_sel (X : Stand p l e R s m₀ args below meth c V locs cells slots) {y : MethodName} {m : MethodId} {cX : ClassId} (hy : y.cls ≠ "java/lang/invoke/MethodHandle" ∧ y.cls ≠ "java/lang/invoke/VarHandle") (hc : s.vm.findClass nsN = some cX) (hm : s.methodNamed? y = some m) (h : (Cond.selects nsN y y).before args s = true) : selectMethod e.platform s.vm cX m = .method m := by
  obtain ⟨c2, r2, m2, q1, q2, q3, q4, -⟩ := Cond.selects_spec (show (Cond.selects nsN y y).holds args s none s [] = true from h)
  cases Option.some.inj (q1.symm.trans hc)
  cases Option.some.inj (q3.symm.trans hm)
  cases Option.some.inj (q2.symm.trans (State.methodFound?_of_named hm hy))
  rw [Launch.admits_selectMethod X.admits]
  exact q4
set_option maxHeartbeats 1000000 in
theorem ns_throws (X : Stand p l e R s m₀ args below meth c V locs cells slots) (hexec : p.tables.exec = Jvm.exec) (htr : e.platform.stackTraces = false) {own : String} {ic : Nat} (hown : s.vm.findClass own = some m₀.cls) (h : nsHas own ic args s) (hlocs : locs = []) {a : Addr} {cX : ClassId} {kX : Class} (hfX : s.vm.findClass nsN = some cX) (hkX : s.vm.classes[cX]? = some kX) (hcell : V.heap[a]? = some (freshCell cX kX)) (hnew : s.heap.size ≤ a) {msg : Value} (hmsg : msg.isRef = true) {g : JFrame} (hg : g.method = m₀) (hsize : g.locals.size = c.maxLocals) (hlocked : g.locked = none) (hentered : g.entered = []) {rest : List Value} (hstack : g.stack = msg :: .ref a :: .ref a :: rest) (hd : decode c.code g.pc = .ok (.invokespecial ic, 3)) (hd3 : decode c.code (g.pc + 3) = .ok (.athrow, 1)) (hout : ∀ x ∈ c.exceptionTable.toList, covers x (g.pc + 3) = false) (hRf : 5 < R.frames) (hRl : 2 * g.monitorRoom + ((Value.ref a :: rest).map fun v => v.category).sum + 81 ≤ R.locals) (hlocks : meth.locks = false) : ∃ U : State, Steps p.tables e below (V.setTop g) U ∧ U.status = .running ∧ Ended U below (.threw a) ∧ s.WarmedH U.vm ∧ s.sameButNew ({ U with vm := s.vm } : State) locs cells slots ∧ ∃ ce, U.heap[a]? = some ce ∧ ce.vm = .none ∧ ce.cls = cX := by
  subst hlocs
  obtain ⟨hA, hB, hC, hL, hM, hSt⟩ := h
  have hpl : e.platform.magicAccessors = ({} : Platform).magicAccessors := by rw [X.admits.platform]
  obtain ⟨T, Z0, L, -, Y⟩ := ThrowableC.of_atoms (args := args) (pl := e.platform) (by rw [X.admits.platform]) (by rw [X.admits.platform]) hpl hA
  obtain ⟨Z, M, LZ, LM, htop⟩ := Init0T.ofS_atoms (args := args) hpl L Y hB
  obtain ⟨P, Q, Ps, hlen, hLs, hP, hon⟩ := ns_pass (args := args) hpl htop hC
  obtain ⟨c1, k1, hc1, hk1, hord, -⟩ := Cond.instantiable_spec (show (Cond.instantiable nsN 6).holds args s none s [] = true from hM _ (by simp [nsMk]))
  cases Option.some.inj (hc1.symm.trans hfX)
  cases Option.some.inj (hk1.symm.trans hkX)
  obtain ⟨cs, hcs, hiss⟩ := Y.statics
  obtain ⟨u0, hu0⟩ := Cond.staticRefV Y.unassigned L.unassignedStatic L.statics hcs hiss (show (Cond.isRef (.static Bundle.tN "UNASSIGNED_STACK" Bundle.steD)).holds args s none s [] = true from hSt _ (by simp [nsSt]))
  obtain ⟨sn, hsn⟩ := Cond.staticRefV Y.sentinel L.sentinelStatic L.statics hcs hiss (show (Cond.isRef (.static Bundle.tN "SUPPRESSED_SENTINEL" Bundle.listD)).holds args s none s [] = true from hSt _ (by simp [nsSt]))
  obtain ⟨cw, hcw, hcv, -, hkeep⟩ := X.same.2.2.2.2.2 T.aS cs hcs
  have hne : T.aS ≠ a := Nat.ne_of_lt (Nat.lt_of_lt_of_le (Array.getElem?_eq_some_iff.mp hcs).1 hnew)
  have hkn : cw.vm ≠ .unknown := by
    rw [hcv]
    intro hu
    rw [hu] at hiss
    cases hiss
  have lay : ∀ {n d : String} {c' : Nat} {k' : Class} {i : Nat} {f : Field}, Cond.lays nsN Bundle.tN n d ∈ nsLy → s.fieldFound? Bundle.tN n d = some (c', k', i, f) → kX.instanceTypes[f.slot]? = some f.type ∧ ∃ w, Jmm.declares? s.vm f.slot (cX + 1) cX = some w ∧ w.2.name = f.name := fun hw hf => Cond.laysAt hfX hkX hf (show (Cond.lays _ _ _ _).holds args s none s [] = true from hL _ hw)
  obtain ⟨iM, hfM⟩ := Y.msg
  obtain ⟨ci, iB, fB, e1, e2, e3, e4, -, nB, tB, hfB⟩ := Cond.ownField (t := .object "java/lang/Object") Y.found L.cls (by decide +kernel) (show (Cond.fieldLink Bundle.tN 198 Bundle.tN "backtrace" "Ljava/lang/Object;").holds args s none s [] = true from hL _ (by simp [nsLy])) (show (Cond.lays Bundle.tN Bundle.tN "backtrace" "Ljava/lang/Object;").holds args s none s [] = true from hL _ (by simp [nsLy])) e.platform hpl
  obtain ⟨t1, d1, g1, n1⟩ := lay (by simp [nsLy]) Y.cause
  obtain ⟨t2, d2, g2, n2⟩ := lay (by simp [nsLy]) Y.stack
  obtain ⟨t3, d3, g3, n3⟩ := lay (by simp [nsLy]) Y.supp
  obtain ⟨t4, d4, g4, n4⟩ := lay (by simp [nsLy]) hfM
  obtain ⟨t5, d5, g5, n5⟩ := lay (by simp [nsLy]) hfB
  have x1 := Cond.laysApart g5 g1 n5 n1 (by rw [nB, Y.causeName]; decide)
  have x2 := Cond.laysApart g5 g2 n5 n2 (by rw [nB, Y.stackName]; decide)
  have x3 := Cond.laysApart g5 g3 n5 n3 (by rw [nB, Y.suppName]; decide)
  have skip : SkipFacts T e.platform s (fun u => u) u0 ((preparedCellV T.toThrowableT (freshCell cX kX) a u0 sn).withEntry V.cur) := by
    refine ⟨{ ci198 := ci, i198 := iB, fBack := fB }, ⟨e1, e2, e3, e4⟩, ?_, fun _ _ => rfl⟩
    have hz := fresh_default (c := cX) t5
    rw [tB] at hz
    simpa [preparedCellV, Cell.setSlot, Cell.withEntry, Array.getElem?_setIfInBounds, x1, x2, x3, x1.symm, x2.symm, x3.symm, defaultValue] using hz
  obtain ⟨tm, mt, cd, kk, vm1, y1, -, -, -, -, -, -, -, y2, st1⟩ := Steps.initColdS (tb := p.tables) (e := e) (below := below) (s := s) (U := V) X.here hexec X.warmed hpl hown (t := Bundle.initS nsN) rfl rfl (by decide) (hM _ (by simp [nsMk])) (hC _ (by simp [nsCh, Bundle.passSAtoms])) (bytes := nsSix) (maxL := 2) (hC _ (by simp [nsCh, Bundle.passSAtoms])) (f := g) hg (a := a) (msg := msg) (rest := .ref a :: rest) hstack hd
  cases Option.some.inj (y1.symm.trans hP)
  obtain ⟨vm2, X2, st2⟩ := (X.noted y2).ctorMessageOffV hexec (g := { g with stack := .ref a :: rest }) hg hsize T L Z LZ M LM (P :: Q :: Ps) hLs hon (u0 := u0) (sen := sn) (self := a) hmsg (cell := freshCell cX kX) (cellS := cw) hcell (fun _ => by simp) (by simp) rfl rfl (ns_sel X (by decide) hfX Y.fill0 (hM _ (by simp [nsMk]))) (ns_sel X (by decide) hfX Y.fill (hM _ (by simp [nsMk]))) hcw hne hkn (by rw [hkeep _ (fun z => nomatch z)]; exact hu0) (by rw [hkeep _ (fun z => nomatch z)]; exact hsn) (Takes.of_laid hkX hord t1 (by rw [Y.causeType]; rfl)) (Takes.of_laid hkX hord t2 (by rw [Y.stackType]; exact fits_refV_array _ u0)) (Takes.of_laid hkX hord t3 (by rw [Y.suppType]; exact fits_refV_object _ sn)) (Takes.of_laid hkX hord t4 (by rw [Y.msgType]; exact fits_refV_object _ ⟨msg, hmsg⟩)) Y.objLocals skip htr [] hd (by simp only [List.length_cons, hlen]; omega) (by simp only [List.length_cons, hlen]; exact hRl)
  obtain ⟨w1, w2, w3, w4, w5⟩ := X2.athrowLeaves hexec (g := { g with stack := .ref a :: rest, pc := g.pc + 3 }) hg hlocked hentered hout (a := a) (rest := rest) rfl hd3 hlocks
  have hlt : a < ((V.setVm vm1).setVm vm2).heap.size := (Array.getElem?_eq_some_iff.mp hcell).1
  refine ⟨_, st1 _ (fun acts => ?_), w2, w3, w4, w5.weaken (fun y hy hlt' => ?_) (Nat.le_refl _) (Nat.le_refl _), _, heapAt_setCell_self (s := (V.setVm vm1).setVm vm2) (plainBareV T.toThrowableT (freshCell cX kX) a u0 sn msg) hlt, rfl, rfl⟩
  · rw [doInvoke_state]
    exact st2 _ w1
  · exfalso
    have hb : y.base = a := by
      simp only [List.nil_append, List.mem_cons, List.not_mem_nil, or_false] at hy
      rcases hy with rfl | rfl | rfl | rfl | rfl <;> rfl
    rw [hb] at hlt'
    exact Nat.not_lt.mpr hnew hlt'
end NSC
