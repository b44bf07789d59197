/-! a method of the class that throws: what it needs of the start, and its ends -/
def cNS : String := "java/util/NoSuchElementException"
def nsW : List Cond := Bundle.throwableAtoms ++ (Bundle.throwableSAtoms ++ (nsCh ++ (nsLy ++ (nsMk RX11 146 ++ nsSt))))
def nsL : List Cond := nsW.filter vx_no
def nsB : List Cond := .castable "java/util/NoSuchElementException" "java/util/NoSuchElementException" :: nsL.filter (fun w => !goodWord w)
def isC : Cond → Bool
  | .castable _ _ => true
  | .declares _ => true
  | _ => false
theorem nsB_c : ∀ w ∈ nsB, isC w = true := by decide +kernel
theorem nsL_t : ∀ w ∈ nsL.filter goodWord, w ∈ lw_tbl := by decide +kernel
theorem nsL_g : ∀ w ∈ nsL.filter goodWord, w ∈ gtb := fun w hw => List.mem_filter.mpr ⟨nsL_t w hw, (List.mem_filter.mp hw).2⟩
theorem nsL_o : ∀ w ∈ Cond.classLink RX11 142 "java/util/NoSuchElementException" :: Cond.initialized "java/util/NoSuchElementException" :: nsL, vx_ot w = true := by decide +kernel
theorem ns_k : Cond.classLink RX11 142 "java/util/NoSuchElementException" ∈ gtb := List.mem_filter.mpr ⟨by decide +kernel, rfl⟩
theorem ns_i : Cond.initialized "java/util/NoSuchElementException" ∈ gtb := List.mem_filter.mpr ⟨by decide +kernel, rfl⟩
theorem ns_has {args : Array Value} {s : State} (h : ∀ w ∈ nsW, w.before args s = true) : nsHas RX11 146 args s :=
  ⟨fun w hw => h w (List.mem_append_left _ hw), fun w hw => h w (List.mem_append_right _ (List.mem_append_left _ hw)), fun w hw => h w (List.mem_append_right _ (List.mem_append_right _ (List.mem_append_left _ hw))), fun w hw => h w (List.mem_append_right _ (List.mem_append_right _ (List.mem_append_right _ (List.mem_append_left _ hw)))), fun w hw => h w (List.mem_append_right _ (List.mem_append_right _ (List.mem_append_right _ (List.mem_append_right _ (List.mem_append_left _ hw))))), fun w hw => h w (List.mem_append_right _ (List.mem_append_right _ (List.mem_append_right _ (List.mem_append_right _ (List.mem_append_right _ hw)))))⟩
theorem isC.warm {w : Cond} (h : isC w = true) {s U : State} (hW : s.WarmedH U.vm) (hZ : va_Nw w s) : va_Nw w U := by
  cases w <;> first | (exact va_Nw.warmC hW hZ) | (exact va_Nw.warmD hW hZ) | (cases h)
theorem isC.same {w : Cond} (h : isC w = true) {s U : State} (hv : s.vm = U.vm) (hZ : va_Nw w s) : va_Nw w U := by
  cases w <;> first | (exact va_Nw.same rfl hv hZ) | (cases h)
theorem isC.use {w : Cond} (h : isC w = true) {A : Array Value} {U : State} (hZ : va_Nw w U) : w.before A U = true := by
  cases w <;> first | (exact va_Nw.use rfl hZ) | (cases h)
section NSR
variable {p : Program} {l : Launch} {e : Env} {R : Room} {s : State} {m : MethodId} {args : Array Value} {below : List Frame} {meth : Method} {c : Code} {H : Heap} {locs : List Loc} {cells slots : Nat} {Q : State → Prop}
variable {ls : Array Slot} {rest : List Value} {free : Addr → Prop} {Qc : Array Value → State → Outcome → State → Prop} {XC : String → State → State → Prop}
theorem ns_throwS {cc : ByteArray} {pc : Nat} (hexec : p.tables.exec = Jvm.exec) (hb : c.code = cc) (hl : l.stackTraces = false) {text : String} {ik is mc ms sa : Nat} {A : Nat → Prop}
    (hown : s.vm.findClass RX11 = some m.cls)
    (hk : (Cond.classLink RX11 ik nsN).before args s = true) (hini : (Cond.initialized nsN).before args s = true) (hstr : vk_R RX11 is text sa s) (hat : ∀ w ∈ nsL, w.before args s = true)
    (hgood : ∀ w ∈ Cond.classLink RX11 ik nsN :: Cond.initialized nsN :: nsL, vx_ot w = true)
    (hU : vx_Zq Bundle.tN "UNASSIGNED_STACK" Bundle.steD A s s.heap) (hN : vx_Zq Bundle.tN "SUPPRESSED_SENTINEL" Bundle.listD A s s.heap) (hS : va_S A s.heap H locs) (hsize : ls.size = c.maxLocals)
    (d0 : decode cc pc = .ok (.new ik, 3)) (d3 : decode cc (pc + 3) = .ok (.dup, 1)) (d4 : decode cc (pc + 4) = .ok (.ldc is, 2)) (d6 : decode cc (pc + 6) = .ok (.invokespecial 146, 3)) (d9 : decode cc (pc + 9) = .ok (.athrow, 1))
    (hout : ∀ x ∈ c.exceptionTable.toList, covers x (pc + 9) = false)
    (hRframes : 5 < R.frames) (hRlocals : (rest.map fun v => v.category).sum + (82) ≤ R.locals) (hRcells : cells + 1 ≤ R.cells) (hRslots : slots + 6 ≤ R.slots) (hlocks : meth.locks = false)
    (hx : ∀ t : State, s.vm.Alike t.vm → H.size ≤ t.heap.size → (∀ q : Nat, q < H.size → t.heap[q]? = H[q]?) → XC nsN s t)
    (hf : ∀ z ∈ locs, free z.base) (hc : cells + 1 ≤ mc) (hs : slots + 6 ≤ ms) :
    W p l e R s m args below meth c H locs cells slots (vx_MQ below Qc XC args s mc ms free) (F0 m pc ls rest) := by
  intro T hT X
  have htr : e.platform.stackTraces = false := (show e.platform.stackTraces = l.stackTraces by rw [X.admits.platform]).trans hl
  have Y := vx_rebase X (R' := { frames := R.frames, locals := R.locals, cells := 1, slots := 6 }) (Nat.le_refl _) (Nat.le_refl _) hRcells hRslots
  obtain ⟨s', hA⟩ : ∃ z, z = (T.setVm s.vm).setFrames (.invoking m args :: below) := ⟨_, rfl⟩
  rw [← hA] at Y
  have hvm : s'.vm = s.vm := by rw [hA]; rfl
  have hhp : s'.heap = H := by rw [hA]; exact hT
  have hW0 : s.WarmedH s'.vm := by rw [hvm]; exact State.WarmedH.refl s
  have hat' : ∀ w ∈ nsL, w.before args s' = true := fun w hw => vx_ot_at hW0 hvm.symm (hgood w (List.mem_cons_of_mem _ (List.mem_cons_of_mem _ hw))) (hat w hw)
  have hk' : (Cond.classLink RX11 ik nsN).before args s' = true := vx_ot_at hW0 hvm.symm (hgood _ List.mem_cons_self) hk
  have hini' : (Cond.initialized nsN).before args s' = true := vx_ot_at hW0 hvm.symm (hgood _ (List.mem_cons_of_mem _ List.mem_cons_self)) hini
  have hU' : vx_Zq Bundle.tN "UNASSIGNED_STACK" Bundle.steD A s' s'.heap := by rw [hhp]; exact vx_Zq.moved hW0.alike (hU.kept hS.2.1)
  have hN' : vx_Zq Bundle.tN "SUPPRESSED_SENTINEL" Bundle.listD A s' s'.heap := by rw [hhp]; exact vx_Zq.moved hW0.alike (hN.kept hS.2.1)
  have h : ∀ w ∈ nsW, w.before args s' = true := vx_own hat' (vx_isRefq hU'.1) (vx_isRefq hN'.1) hU'.2.word hN'.2.word
  have hown' : s'.vm.findClass RX11 = some m.cls := by rw [hvm]; exact hown
  have hins : (Cond.instantiable nsN 6).before args s' = true := h _ (by simp [nsW, nsMk, nsN])
  obtain ⟨vm₁, cX, kX, hfX, hkX, -, -, X₁, st1⟩ := Y.newCold hexec (own := RX11) (C := nsN) (index := ik) (n := 6) hown' hk' hins hini'
    (g := F0 m pc ls rest) rfl (by rw [hb]; exact d0) (Nat.le_refl _) (Nat.le_refl _)
  generalize hT1 : (T.setVm vm₁).pushCell { cls := cX, slots := kX.instanceTypes.map defaultValue, vm := .none } = T1 at X₁ st1
  have hcat : (Value.ref T.heap.size).category = 1 := rfl
  have hcellA : T1.heap[T.heap.size]? = some (freshCell cX kX) := by rw [← hT1]; exact State.heap_pushCell_size _ _
  have d3' : decode c.code (pc + 3) = .ok (.dup, 1) := by rw [hb]; exact d3
  have d4' : decode c.code (pc + 4) = .ok (.ldc is, 2) := by rw [hb]; exact d4
  have hstr' : vk_R RX11 is text sa s' := vk_R.warm hW0 hstr
  obtain ⟨U, hsteps, hrun, hend, hW, hsame, ce, hce, hO1, hO2⟩ := ns_throws X₁ hexec htr (own := RX11) (ic := 146) hown' (ns_has h) rfl hfX hkX hcellA (by rw [hhp, hT]; exact Nat.le_refl _) (msg := .ref sa) rfl
    (g := { method := m, pc := pc + 6, locals := ls, stack := .ref sa :: .ref T.heap.size :: .ref T.heap.size :: rest, locked := none }) rfl hsize rfl rfl (rest := rest) rfl
    (by rw [hb]; exact d6) (by rw [hb]; exact d9) hout hRframes (by simp only [List.map_cons, List.sum_cons, hcat]; omega) hlocks
  obtain ⟨f1, f2⟩ := vx_frame hsame
  rw [hhp] at f1 f2
  have hWs : s.WarmedH U.vm := State.WarmedH.trans hW0 hW
  have hcl : s.vm.findClass nsN = some ce.cls := by
    rw [hO2, ← hvm]
    exact hfX
  have hall : s.sameButNew ({ U with vm := s.vm } : State) locs mc ms := by
    subst hA
    obtain ⟨e1, e2⟩ := hsame
    rw [State.setFrames_setFrames] at e1
    have h2 : (T.setVm s.vm).sameButNew ({ U with vm := s.vm } : State) [] (0 + 1) (0 + 6) := ⟨e1, e2⟩
    have h3 := X.same.trans h2
    rw [List.append_nil] at h3
    exact h3.mono hc hs
  refine ⟨U, ?_, .threw T.heap.size, hrun, hend, Or.inr ⟨T.heap.size, rfl, nsN, ce, locs, hx U hWs.alike f1 (fun q hq => f2 q hq (fun z hz => nomatch hz)), hce, hO1, hcl, hWs, hall, hf⟩⟩
  refine st1 _ ?_
  show Steps p.tables e below (T1.setTop { method := m, pc := pc + 3, locals := ls, stack := .ref T.heap.size :: rest, locked := none }) _
  jvm_step X₁.here [X₁.here.top, hexec, d3', Value.category]
  exact X₁.ldcString hexec (own := RX11) (text := text) (index := is) (a := sa) hown' hstr'.1 hstr'.2
    (g := { method := m, pc := pc + 4, locals := ls, stack := .ref T.heap.size :: .ref T.heap.size :: rest, locked := none }) rfl d4' _ hsteps
theorem ns_throwSW {cc : ByteArray} {pc : Nat} (hexec : p.tables.exec = Jvm.exec) (hb : c.code = cc) (hl : l.stackTraces = false) {text : String} {ik is mc ms sa : Nat} {A : Nat → Prop}
    (hown : s.vm.findClass RX11 = some m.cls)
    (hk : (Cond.classLink RX11 ik nsN).before args s = true) (hini : (Cond.initialized nsN).before args s = true) (hstr : vk_R RX11 is text sa s) (hat : ∀ w ∈ nsL, w.before args s = true)
    (hgood : ∀ w ∈ Cond.classLink RX11 ik nsN :: Cond.initialized nsN :: nsL, vx_ot w = true)
    (hU : vx_Zq Bundle.tN "UNASSIGNED_STACK" Bundle.steD A s s.heap) (hN : vx_Zq Bundle.tN "SUPPRESSED_SENTINEL" Bundle.listD A s s.heap) (hS : va_S A s.heap H locs) (hsize : ls.size = c.maxLocals)
    (d0 : decode cc pc = .ok (.new ik, 3)) (d3 : decode cc (pc + 3) = .ok (.dup, 1)) (d4 : decode cc (pc + 4) = .ok (.ldc_w is, 3)) (d7 : decode cc (pc + 7) = .ok (.invokespecial 146, 3)) (d10 : decode cc (pc + 10) = .ok (.athrow, 1))
    (hout : ∀ x ∈ c.exceptionTable.toList, covers x (pc + 10) = false)
    (hRframes : 5 < R.frames) (hRlocals : (rest.map fun v => v.category).sum + (82) ≤ R.locals) (hRcells : cells + 1 ≤ R.cells) (hRslots : slots + 6 ≤ R.slots) (hlocks : meth.locks = false)
    (hx : ∀ t : State, s.vm.Alike t.vm → H.size ≤ t.heap.size → (∀ q : Nat, q < H.size → t.heap[q]? = H[q]?) → XC nsN s t)
    (hf : ∀ z ∈ locs, free z.base) (hc : cells + 1 ≤ mc) (hs : slots + 6 ≤ ms) :
    W p l e R s m args below meth c H locs cells slots (vx_MQ below Qc XC args s mc ms free) (F0 m pc ls rest) := by
  intro T hT X
  have htr : e.platform.stackTraces = false := (show e.platform.stackTraces = l.stackTraces by rw [X.admits.platform]).trans hl
  have Y := vx_rebase X (R' := { frames := R.frames, locals := R.locals, cells := 1, slots := 6 }) (Nat.le_refl _) (Nat.le_refl _) hRcells hRslots
  obtain ⟨s', hA⟩ : ∃ z, z = (T.setVm s.vm).setFrames (.invoking m args :: below) := ⟨_, rfl⟩
  rw [← hA] at Y
  have hvm : s'.vm = s.vm := by rw [hA]; rfl
  have hhp : s'.heap = H := by rw [hA]; exact hT
  have hW0 : s.WarmedH s'.vm := by rw [hvm]; exact State.WarmedH.refl s
  have hat' : ∀ w ∈ nsL, w.before args s' = true := fun w hw => vx_ot_at hW0 hvm.symm (hgood w (List.mem_cons_of_mem _ (List.mem_cons_of_mem _ hw))) (hat w hw)
  have hk' : (Cond.classLink RX11 ik nsN).before args s' = true := vx_ot_at hW0 hvm.symm (hgood _ List.mem_cons_self) hk
  have hini' : (Cond.initialized nsN).before args s' = true := vx_ot_at hW0 hvm.symm (hgood _ (List.mem_cons_of_mem _ List.mem_cons_self)) hini
  have hU' : vx_Zq Bundle.tN "UNASSIGNED_STACK" Bundle.steD A s' s'.heap := by rw [hhp]; exact vx_Zq.moved hW0.alike (hU.kept hS.2.1)
  have hN' : vx_Zq Bundle.tN "SUPPRESSED_SENTINEL" Bundle.listD A s' s'.heap := by rw [hhp]; exact vx_Zq.moved hW0.alike (hN.kept hS.2.1)
  have h : ∀ w ∈ nsW, w.before args s' = true := vx_own hat' (vx_isRefq hU'.1) (vx_isRefq hN'.1) hU'.2.word hN'.2.word
  have hown' : s'.vm.findClass RX11 = some m.cls := by rw [hvm]; exact hown
  have hins : (Cond.instantiable nsN 6).before args s' = true := h _ (by simp [nsW, nsMk, nsN])
  obtain ⟨vm₁, cX, kX, hfX, hkX, -, -, X₁, st1⟩ := Y.newCold hexec (own := RX11) (C := nsN) (index := ik) (n := 6) hown' hk' hins hini'
    (g := F0 m pc ls rest) rfl (by rw [hb]; exact d0) (Nat.le_refl _) (Nat.le_refl _)
  generalize hT1 : (T.setVm vm₁).pushCell { cls := cX, slots := kX.instanceTypes.map defaultValue, vm := .none } = T1 at X₁ st1
  have hcat : (Value.ref T.heap.size).category = 1 := rfl
  have hcellA : T1.heap[T.heap.size]? = some (freshCell cX kX) := by rw [← hT1]; exact State.heap_pushCell_size _ _
  have d3' : decode c.code (pc + 3) = .ok (.dup, 1) := by rw [hb]; exact d3
  have d4' : decode c.code (pc + 4) = .ok (.ldc_w is, 3) := by rw [hb]; exact d4
  have hstr' : vk_R RX11 is text sa s' := vk_R.warm hW0 hstr
  obtain ⟨U, hsteps, hrun, hend, hW, hsame, ce, hce, hO1, hO2⟩ := ns_throws X₁ hexec htr (own := RX11) (ic := 146) hown' (ns_has h) rfl hfX hkX hcellA (by rw [hhp, hT]; exact Nat.le_refl _) (msg := .ref sa) rfl
    (g := { method := m, pc := pc + 7, locals := ls, stack := .ref sa :: .ref T.heap.size :: .ref T.heap.size :: rest, locked := none }) rfl hsize rfl rfl (rest := rest) rfl
    (by rw [hb]; exact d7) (by rw [hb]; exact d10) hout hRframes (by simp only [List.map_cons, List.sum_cons, hcat]; omega) hlocks
  obtain ⟨f1, f2⟩ := vx_frame hsame
  rw [hhp] at f1 f2
  have hWs : s.WarmedH U.vm := State.WarmedH.trans hW0 hW
  have hcl : s.vm.findClass nsN = some ce.cls := by
    rw [hO2, ← hvm]
    exact hfX
  have hall : s.sameButNew ({ U with vm := s.vm } : State) locs mc ms := by
    subst hA
    obtain ⟨e1, e2⟩ := hsame
    rw [State.setFrames_setFrames] at e1
    have h2 : (T.setVm s.vm).sameButNew ({ U with vm := s.vm } : State) [] (0 + 1) (0 + 6) := ⟨e1, e2⟩
    have h3 := X.same.trans h2
    rw [List.append_nil] at h3
    exact h3.mono hc hs
  refine ⟨U, ?_, .threw T.heap.size, hrun, hend, Or.inr ⟨T.heap.size, rfl, nsN, ce, locs, hx U hWs.alike f1 (fun q hq => f2 q hq (fun z hz => nomatch hz)), hce, hO1, hcl, hWs, hall, hf⟩⟩
  refine st1 _ ?_
  show Steps p.tables e below (T1.setTop { method := m, pc := pc + 3, locals := ls, stack := .ref T.heap.size :: rest, locked := none }) _
  jvm_step X₁.here [X₁.here.top, hexec, d3', Value.category]
  exact X₁.ldcStringW hexec (own := RX11) (text := text) (index := is) (a := sa) hown' hstr'.1 hstr'.2
    (g := { method := m, pc := pc + 4, locals := ls, stack := .ref T.heap.size :: .ref T.heap.size :: rest, locked := none }) rfl d4' _ hsteps
end NSR
def XT (ad : Nat → Nat) (sz : Nat) (U : State) : Prop := (∀ w ∈ nsB, va_Nw w U) ∧ (vk_R RX11 144 "no such person" (ad 0) U ∧ vk_R RX11 170 "no such thing of a person" (ad 1) U ∧ vk_R RX11 310 "nothing is in the barrel" (ad 2) U ∧ vk_R RX11 315 "no such number of a fraction" (ad 3) U) ∧ vx_Zq Bundle.tN "UNASSIGNED_STACK" Bundle.steD (fun q => sz ≤ q) U U.heap ∧ vx_Zq Bundle.tN "SUPPRESSED_SENTINEL" Bundle.listD (fun q => sz ≤ q) U U.heap
theorem XT.keep {ad : Nat → Nat} {sz : Nat} {s U : State} (hW : s.WarmedH U.vm) (hq : ∀ a : Nat, a < s.heap.size → ¬ sz ≤ a → U.heap[a]? = s.heap[a]?) (h : XT ad sz s) : XT ad sz U :=
  ⟨fun w hw => isC.warm (nsB_c w hw) hW (h.1 w hw), ⟨vk_R.warm hW h.2.1.1, vk_R.warm hW h.2.1.2.1, vk_R.warm hW h.2.1.2.2.1, vk_R.warm hW h.2.1.2.2.2⟩, vx_Zq.moved hW.alike (h.2.2.1.kept hq), vx_Zq.moved hW.alike (h.2.2.2.kept hq)⟩
theorem XT.same {ad : Nat → Nat} {sz : Nat} {s U : State} (hv : U.vm = s.vm) (hh : U.heap = s.heap) (h : XT ad sz s) : XT ad sz U := by
  have ha : s.vm.Alike U.vm := by rw [hv]; exact Vm.Alike.refl s.vm
  refine ⟨fun w hw => isC.same (nsB_c w hw) hv.symm (h.1 w hw), ⟨vk_R.same hv h.2.1.1, vk_R.same hv h.2.1.2.1, vk_R.same hv h.2.1.2.2.1, vk_R.same hv h.2.1.2.2.2⟩, ?_, ?_⟩
  · rw [hh]; exact vx_Zq.moved ha h.2.2.1
  · rw [hh]; exact vx_Zq.moved ha h.2.2.2
def TH (g : Gl) (ad : Nat → Nat) (sz : Nat) : Prop := (∀ U : State, g.2.2.2.2 U → XT ad sz U) ∧ ∀ q : Nat, Aw g q → sz ≤ q
/-- the world, less what is said of a state's constants -/
def Wq (g : Gl) (R : Rf) (T : Mm) (H : Heap) : Prop := va_P g.1 vwCl (wsOf g R T) H ∧ va_D (Aw g) (wsOf g R T) ∧ Ty g R
def QP (X : Cx) (g : Gl) (o : Option Int32) (R' : Rf) (T' : Mm) : State → Prop := vx_MQ X.2.2.2.2.2.2.2.1 (va_Qi (fun (r : Int32) (u : Rf × Mm) => o = some r ∧ u = (R', T')) (fun u t => Wp g u.1 u.2 t) X.2.2.2.2.2.2.2.2.2.2.2.2) (vx_X (fun (u : Rf × Mm) => o = none ∧ u = (R', T')) (fun E u t => E = cNS ∧ Wq g u.1 u.2 t.heap) X.2.2.2.2.2.2.2.2.2.2.2.2) X.2.2.2.2.2.2.1 X.2.2.2.2.1 1 6 X.2.2.2.2.2.2.2.2.2.2.2.2
/-- its contract -/
def MPx (l : Launch) (g : Gl) (y : MethodName) (cc : ByteArray) (nL : Nat) (ret : Option FieldType) (rm : Room) (av : List Value) (R : Rf) (T : Mm) (o : Option Int32) (R' : Rf) (T' : Mm) : Prop := vx_Met l y (wsU y cc nL ret) rm (va_Pc av (Wp g R T)) (va_Qi (fun (r : Int32) (u : Rf × Mm) => o = some r ∧ u = (R', T')) (fun u t => Wp g u.1 u.2 t) (Aw g)) (vx_X (fun (u : Rf × Mm) => o = none ∧ u = (R', T')) (fun E u t => E = cNS ∧ Wq g u.1 u.2 t.heap) (Aw g)) 1 6 (Aw g)
/-- what its body may lean on -/
def OkP (X : Cx) (g : Gl) : Prop := (∀ q : Nat, X.2.2.2.2.2.2.2.2.2.2.2.2 q → Aw g q) ∧ (∀ x ∈ X.2.2.2.2.2.2.2.2.2.1.exceptionTable.toList, False) ∧ X.2.2.2.2.2.2.2.2.2.2.1 = 0 ∧ X.2.2.2.2.2.2.2.2.2.2.2.1 = 0
section ZT
variable {X : Cx} {g : Gl} {l : Launch} {cc : ByteArray} {own : String} {y : MethodName} {nL : Nat} {ret : Option FieldType} {rm : Room} {R : Rf} {T : Mm} {lv : List (Option Value)} {pc : Nat} {ad : Nat → Nat} {sz : Nat}
theorem z_metP {o : Option Int32} {R' : Rf} {T' : Mm} {av : List Value} (hy : plainName y.cls = true) (ho : y.cls = own) (hlen : Nat.ble (lg_sl av).length nL = true) (hlv : avl av ++ List.replicate (nL - (avl av).length) none = lv) (body : ∀ X : Cx, Ok X g l cc own nL ret rm → OkP X g → Zj X g nL (QP X g o R' T') R T lv [] 0) : MPx l g y cc nL ret rm av R T o R' T' := by
  refine vx_ofW (cc := cc) (maxL := nL) (ret := ret) hy rfl ?_
  intro p e s m args below meth c s₁ B hml hno hv
  obtain ⟨rfl, hP, hD, hK, hTy, hKp, hE⟩ := hv
  subst ho
  rw [lg_entry_eq]
  exact body (p, l, e, rm, s, m, av.toArray, below, meth, c, 0, 0, Aw g) ⟨⟨B.exec, B.bytes, hml, findClass_of_methodNamed B.named, fun w hw => atoms_spec (ws := wsU y cc nL ret) B.pre w (List.mem_cons_of_mem _ hw)⟩, B.returns, B.notSynchronized, hK, rfl, rfl, Nat.zero_le _, Nat.zero_le _, fun _ h => h, hKp, hE, fun _ _ h => h⟩ ⟨fun _ h => h, hno, rfl, rfl⟩ s.heap [] _ ⟨hP, hD, va_S.rf, hTy⟩ (lh_entry (Nat.le_of_ble_eq_true hlen) hlv)
theorem z_retP (K : Ok X g l cc own nL (some .int) rm) (hP : OkP X g) {v : Int32} (hd : decode cc pc = .ok (.ireturn, 1)) : Zj X g nL (QP X g (some v) R T) R T lv [.int v] pc := by
  intro H locs ls hw h
  refine vx_ret (W.widen (k := 1) (n := 6) (by rw [hP.2.2.1]; omega) (by rw [hP.2.2.2]; omega) ?_)
  exact W.iret K.1.1 K.1.2.1 K.2.1 (fun t ht hW => ⟨⟨v, (R, T), rfl, ⟨rfl, rfl⟩, ⟨by rw [ht]; exact hw.1, awD hw.2.1, va_K.moved hW.alike K.2.2.2.1, hw.2.2.2, K.2.2.2.2.2.2.2.2.2.1, okE K hw ht hW⟩⟩, hw.2.2.1.F ht⟩) hw.2.2.1.2.2 hd K.2.2.1
theorem xt_hat (K : Ok X g l cc own nL ret rm) (hT : TH g ad sz) : ∀ w ∈ nsL, w.before X.2.2.2.2.2.2.1 X.2.2.2.2.1 = true := by
  have hx := hT.1 _ K.2.2.2.2.2.2.2.2.2.2.1
  refine vx_hat (B := nsB) (fun w hw => K.ts (nsL_g w hw)) (fun w hw => List.mem_cons_of_mem _ hw) (fun w hw => isC.use (nsB_c w hw) (hx.1 w hw))
theorem xt_hx (K : Ok X g l cc own nL ret rm) {H : Heap} {locs : List Loc} (hw : Wo X g R T H locs) (t : State) (h1 : H.size ≤ t.heap.size) (h2 : ∀ q : Nat, q < H.size → t.heap[q]? = H[q]?) : vx_X (fun (u : Rf × Mm) => (none : Option Int32) = none ∧ u = (R, T)) (fun E u t => E = cNS ∧ Wq g u.1 u.2 t.heap) X.2.2.2.2.2.2.2.2.2.2.2.2 "java/util/NoSuchElementException" X.2.2.2.2.1 t := ⟨(R, T), ⟨rfl, rfl⟩, ⟨rfl, hw.1.kept (fun k q hk => h2 _ (vx_lt hw.1 hk)), awD hw.2.1, hw.2.2.2⟩, Nat.le_trans hw.2.2.1.1 h1, fun q hq hn => by rw [h2 q (Nat.lt_of_lt_of_le hq hw.2.2.1.1)]; exact hw.2.2.1.2.1 q hq hn⟩
theorem z_throw (K : Ok X g l cc RX11 nL ret rm) (hP : OkP X g) (hT : TH g ad sz) (hl : l.stackTraces = false) {is sa : Nat} {text : String} (hstr : ∀ U, XT ad sz U → vk_R RX11 is text sa U) (hrm : rm.cells = 1 ∧ rm.slots = 6 ∧ Nat.ble 6 rm.frames = true ∧ Nat.ble 82 rm.locals = true) (d0 : decode cc pc = .ok (.new 142, 3)) (d3 : decode cc (pc + 3) = .ok (.dup, 1)) (d4 : decode cc (pc + 4) = .ok (.ldc is, 2)) (d6 : decode cc (pc + 6) = .ok (.invokespecial 146, 3)) (d9 : decode cc (pc + 9) = .ok (.athrow, 1)) : Zj X g nL (QP X g none R T) R T lv [] pc := by
  intro H locs ls hw h
  have hx := hT.1 _ K.2.2.2.2.2.2.2.2.2.2.1
  have hA : ∀ q : Nat, X.2.2.2.2.2.2.2.2.2.2.2.2 q → sz ≤ q := fun q hq => hT.2 q (hP.1 q hq)
  refine ns_throwS (A := fun q => sz ≤ q) K.1.1 K.1.2.1 (by rw [K.2.2.2.2.2.1]; exact hl) K.1.2.2.2.1 (K.ts ns_k) (K.ts ns_i) (hstr _ hx) (xt_hat K hT) nsL_o hx.2.2.1 hx.2.2.2 (vs_of hA hw) (h.1.trans K.1.2.2.1.symm) d0 d3 d4 d6 d9 (fun x hx => (hP.2.1 x hx).elim) ?_ ?_ ?_ ?_ K.2.2.1 (fun t _ h1 h2 => xt_hx K hw t h1 h2) hw.2.2.1.2.2 ?_ ?_
  · rw [K.2.2.2.2.1]; exact Nat.le_of_ble_eq_true hrm.2.2.1
  · rw [K.2.2.2.2.1]; exact Nat.le_of_ble_eq_true hrm.2.2.2
  · rw [K.2.2.2.2.1, hP.2.2.1, hrm.1]; omega
  · rw [K.2.2.2.2.1, hP.2.2.2, hrm.2.1]; omega
  · rw [hP.2.2.1]; omega
  · rw [hP.2.2.2]; omega
theorem z_throwW (K : Ok X g l cc RX11 nL ret rm) (hP : OkP X g) (hT : TH g ad sz) (hl : l.stackTraces = false) {is sa : Nat} {text : String} (hstr : ∀ U, XT ad sz U → vk_R RX11 is text sa U) (hrm : rm.cells = 1 ∧ rm.slots = 6 ∧ Nat.ble 6 rm.frames = true ∧ Nat.ble 82 rm.locals = true) (d0 : decode cc pc = .ok (.new 142, 3)) (d3 : decode cc (pc + 3) = .ok (.dup, 1)) (d4 : decode cc (pc + 4) = .ok (.ldc_w is, 3)) (d7 : decode cc (pc + 7) = .ok (.invokespecial 146, 3)) (d10 : decode cc (pc + 10) = .ok (.athrow, 1)) : Zj X g nL (QP X g none R T) R T lv [] pc := by
  intro H locs ls hw h
  have hx := hT.1 _ K.2.2.2.2.2.2.2.2.2.2.1
  have hA : ∀ q : Nat, X.2.2.2.2.2.2.2.2.2.2.2.2 q → sz ≤ q := fun q hq => hT.2 q (hP.1 q hq)
  refine ns_throwSW (A := fun q => sz ≤ q) K.1.1 K.1.2.1 (by rw [K.2.2.2.2.2.1]; exact hl) K.1.2.2.2.1 (K.ts ns_k) (K.ts ns_i) (hstr _ hx) (xt_hat K hT) nsL_o hx.2.2.1 hx.2.2.2 (vs_of hA hw) (h.1.trans K.1.2.2.1.symm) d0 d3 d4 d7 d10 (fun x hx => (hP.2.1 x hx).elim) ?_ ?_ ?_ ?_ K.2.2.1 (fun t _ h1 h2 => xt_hx K hw t h1 h2) hw.2.2.1.2.2 ?_ ?_
  · rw [K.2.2.2.2.1]; exact Nat.le_of_ble_eq_true hrm.2.2.1
  · rw [K.2.2.2.2.1]; exact Nat.le_of_ble_eq_true hrm.2.2.2
  · rw [K.2.2.2.2.1, hP.2.2.1, hrm.1]; omega
  · rw [K.2.2.2.2.1, hP.2.2.2, hrm.2.1]; omega
  · rw [hP.2.2.1]; omega
  · rw [hP.2.2.2]; omega
end ZT
