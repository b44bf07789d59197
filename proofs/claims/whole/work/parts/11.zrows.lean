/-! locals as a list of slots -/
def asl : List (Option Value) → Nat → List (Nat × Value)
  | [], _ => []
  | none :: t, i => asl t (i + 1)
  | some v :: t, i => (i, v) :: asl t (i + 1)
theorem mem_asl {v : Value} : ∀ (lv : List (Option Value)) (k i : Nat), (i, v) ∈ asl lv k ↔ ∃ j, i = k + j ∧ lv[j]? = some (some v)
  | [], k, i => by simp [asl]
  | none :: t, k, i => by
    rw [show asl (none :: t) k = asl t (k + 1) from rfl, mem_asl t (k + 1) i]
    constructor
    · rintro ⟨j, rfl, h⟩
      exact ⟨j + 1, by omega, by simpa using h⟩
    · rintro ⟨j, rfl, h⟩
      cases j with
      | zero => simp at h
      | succ j => exact ⟨j, by omega, by simpa using h⟩
  | some w :: t, k, i => by
    rw [show asl (some w :: t) k = (k, w) :: asl t (k + 1) from rfl, List.mem_cons, mem_asl t (k + 1) i]
    constructor
    · rintro (h | ⟨j, rfl, h⟩)
      · cases h
        exact ⟨0, rfl, rfl⟩
      · exact ⟨j + 1, by omega, by simpa using h⟩
    · rintro ⟨j, rfl, h⟩
      cases j with
      | zero =>
        simp at h
        subst h
        exact Or.inl rfl
      | succ j => exact Or.inr ⟨j, by omega, by simpa using h⟩
def lh (ls : Array Slot) (nL : Nat) (lv : List (Option Value)) : Prop := lv_has ls nL (asl lv 0)
theorem lh_at {ls : Array Slot} {nL : Nat} {lv : List (Option Value)} {i : Nat} {v : Value} (h : lh ls nL lv) (hi : lv[i]? = some (some v)) : ls[i]? = some (.val v) := h.2.2 (i, v) ((mem_asl lv 0 i).mpr ⟨i, by omega, hi⟩)
theorem lh_sub {ls : Array Slot} {nL : Nat} {lv lw : List (Option Value)} (h : lh ls nL lv) (hs : ∀ (i : Nat) (v : Value), lw[i]? = some (some v) → lv[i]? = some (some v)) : lh ls nL lw := by
  refine ⟨h.1, h.2.1, fun q hq => ?_⟩
  obtain ⟨i, v⟩ := q
  obtain ⟨j, e, hj⟩ := (mem_asl lw 0 i).mp hq
  have e' : i = j := by omega
  subst e'
  exact lh_at h (hs i v hj)
def mk : List Bool → List (Option Value) → List (Option Value)
  | true :: bs, o :: os => o :: mk bs os
  | false :: bs, _ :: os => none :: mk bs os
  | [], _ => []
  | _, [] => []
theorem mk_sub : ∀ (bs : List Bool) (lv : List (Option Value)) (i : Nat) (v : Value), (mk bs lv)[i]? = some (some v) → lv[i]? = some (some v)
  | true :: bs, o :: os, 0, v, h => by simpa [mk] using h
  | true :: bs, o :: os, i + 1, v, h => by
    have h1 : (mk bs os)[i]? = some (some v) := by simpa [mk] using h
    simpa using mk_sub bs os i v h1
  | false :: bs, o :: os, 0, v, h => by simp [mk] at h
  | false :: bs, o :: os, i + 1, v, h => by
    have h1 : (mk bs os)[i]? = some (some v) := by simpa [mk] using h
    simpa using mk_sub bs os i v h1
  | [], _, i, v, h => by simp [mk] at h
  | true :: bs, [], i, v, h => by simp [mk] at h
  | false :: bs, [], i, v, h => by simp [mk] at h
def wide : Option (Option Value) → Bool
  | some (some (.long _)) => true
  | some (some (.double _)) => true
  | _ => false
theorem wide_of {o : Option (Option Value)} {v : Value} (h : wide o = false) (ho : o = some (some v)) : v.category ≠ 2 := by
  subst ho
  cases v <;> simp [wide] at h <;> simp [Value.category]
def ok1 (lv : List (Option Value)) : Nat → Bool
  | 0 => true
  | j + 1 => !(wide lv[j]?)
theorem lh_set1 {ls' : Array Slot} {nL i : Nat} {lv : List (Option Value)} {v : Value} (ho : ok1 lv i = true) (h : lv_has ls' nL ((i, v) :: (asl lv 0).filter (fun q => !(q.1 == i) && !(q.1 + 1 == i && q.2.category == 2)))) : lh ls' nL (lv.set i (some v)) := by
  refine ⟨h.1, h.2.1, fun q hq => h.2.2 q ?_⟩
  obtain ⟨j, w⟩ := q
  obtain ⟨j', e, hj⟩ := (mem_asl _ 0 j).mp hq
  have e' : j = j' := by omega
  subst e'
  rw [List.getElem?_set] at hj
  by_cases c : i = j
  · subst c
    rw [if_pos rfl] at hj
    split at hj
    · cases hj
      exact List.mem_cons_self
    · cases hj
  · rw [if_neg c] at hj
    refine List.mem_cons_of_mem _ (List.mem_filter.mpr ⟨(mem_asl lv 0 j).mpr ⟨j, by omega, hj⟩, ?_⟩)
    have c1 : (j == i) = false := by simp; omega
    rw [show ((j, w) : Nat × Value).1 = j from rfl, show ((j, w) : Nat × Value).2 = w from rfl, c1]
    by_cases c2 : j + 1 = i
    · subst c2
      have := wide_of (by simpa [ok1] using ho) hj
      simp [this]
    · simp [c2]
theorem lh_set2 {ls' : Array Slot} {nL i : Nat} {lv : List (Option Value)} {v : Value} (ho : ok1 lv i = true) (h : lv_has ls' nL ((i, v) :: (asl lv 0).filter (fun q => !(q.1 == i) && (!(q.1 == i + 1) && !(q.1 + 1 == i && q.2.category == 2))))) : lh ls' nL ((lv.set (i + 1) none).set i (some v)) := by
  refine ⟨h.1, h.2.1, fun q hq => h.2.2 q ?_⟩
  obtain ⟨j, w⟩ := q
  obtain ⟨j', e, hj⟩ := (mem_asl _ 0 j).mp hq
  have e' : j = j' := by omega
  subst e'
  rw [List.getElem?_set] at hj
  by_cases c : i = j
  · subst c
    rw [if_pos rfl] at hj
    split at hj
    · cases hj
      exact List.mem_cons_self
    · cases hj
  · rw [if_neg c, List.getElem?_set] at hj
    by_cases c3 : i + 1 = j
    · rw [if_pos c3] at hj
      split at hj <;> cases hj
    · rw [if_neg c3] at hj
      refine List.mem_cons_of_mem _ (List.mem_filter.mpr ⟨(mem_asl lv 0 j).mpr ⟨j, by omega, hj⟩, ?_⟩)
      have c1 : (j == i) = false := by simp; omega
      have c4 : (j == i + 1) = false := by simp; omega
      rw [show ((j, w) : Nat × Value).1 = j from rfl, show ((j, w) : Nat × Value).2 = w from rfl, c1, c4]
      by_cases c2 : j + 1 = i
      · subst c2
        have := wide_of (by simpa [ok1] using ho) hj
        simp [this]
      · simp [c2]
/-! the judgement -/
/-- the words of the tables that hold in every state of the machine -/
def gtb : List Cond := lw_tbl.filter goodWord
def wsU (y : MethodName) (cc : ByteArray) (nL : Nat) (ret : Option FieldType) : List Cond := .code y cc nL ret :: gtb
def Wp (g : Gl) (R : Rf) (T : Mm) (U : State) : Prop := va_P g.1 vwCl (wsOf g R T) U.heap ∧ va_D (Aw g) (wsOf g R T) ∧ va_K g.1 vwCl (tyL g.2.1) U ∧ Ty g R ∧ Kp g ∧ g.2.2.2.2 U
def Wo (X : Cx) (g : Gl) (R : Rf) (T : Mm) (H : Heap) (locs : List Loc) : Prop := va_P g.1 vwCl (wsOf g R T) H ∧ va_D X.2.2.2.2.2.2.2.2.2.2.2.2 (wsOf g R T) ∧ va_S X.2.2.2.2.2.2.2.2.2.2.2.2 X.2.2.2.2.1.heap H locs ∧ Ty g R
abbrev XW (X : Cx) (H : Heap) (locs : List Loc) (Q : State → Prop) (f : JFrame) : Prop := W X.1 X.2.1 X.2.2.1 X.2.2.2.1 X.2.2.2.2.1 X.2.2.2.2.2.1 X.2.2.2.2.2.2.1 X.2.2.2.2.2.2.2.1 X.2.2.2.2.2.2.2.2.1 X.2.2.2.2.2.2.2.2.2.1 H locs X.2.2.2.2.2.2.2.2.2.2.1 X.2.2.2.2.2.2.2.2.2.2.2.1 Q f
def Zj (X : Cx) (g : Gl) (nL : Nat) (Q : State → Prop) (R : Rf) (T : Mm) (lv : List (Option Value)) (st : List Value) (pc : Nat) : Prop :=
  ∀ (H : Heap) (locs : List Loc) (ls : Array Slot), Wo X g R T H locs → lh ls nL lv → XW X H locs Q (F0 X.2.2.2.2.2.1 pc ls st)
def Ok (X : Cx) (g : Gl) (l : Launch) (cc : ByteArray) (own : String) (nL : Nat) (ret : Option FieldType) (rm : Room) : Prop :=
  CallFix X.1 X.2.2.2.2.2.1 X.2.2.2.2.2.2.2.2.2.1 cc nL X.2.2.2.2.1 X.2.2.2.2.2.2.1 gtb own ∧ X.2.2.2.2.2.2.2.2.1.sig.returnType = ret ∧ X.2.2.2.2.2.2.2.2.1.locks = false ∧ va_K g.1 vwCl (tyL g.2.1) X.2.2.2.2.1 ∧ X.2.2.2.1 = rm ∧ X.2.1 = l ∧ X.2.2.2.2.2.2.2.2.2.2.1 ≤ rm.cells ∧ X.2.2.2.2.2.2.2.2.2.2.2.1 ≤ rm.slots ∧ (∀ q : Nat, Aw g q → X.2.2.2.2.2.2.2.2.2.2.2.2 q) ∧ Kp g ∧ g.2.2.2.2 X.2.2.2.2.1 ∧ (∀ q : Nat, q < X.2.2.2.2.1.heap.size → X.2.2.2.2.2.2.2.2.2.2.2.2 q → Aw g q)
section ZR
variable {X : Cx} {g : Gl} {l : Launch} {cc : ByteArray} {own : String} {nL : Nat} {ret : Option FieldType} {rm : Room} {Q : State → Prop} {R : Rf} {T : Mm} {lv : List (Option Value)} {st : List Value} {pc : Nat}
theorem okE (K : Ok X g l cc own nL ret rm) {H : Heap} {locs : List Loc} (hw : Wo X g R T H locs) {U : State} (hU : U.heap = H) (hW : X.2.2.2.2.1.WarmedH U.vm) : g.2.2.2.2 U := K.2.2.2.2.2.2.2.2.2.1.1 X.2.2.2.2.1 U hW (fun q hq hn => by rw [hU]; exact hw.2.2.1.2.1 q hq (fun a => hn (K.2.2.2.2.2.2.2.2.2.2.2 q hq a))) K.2.2.2.2.2.2.2.2.2.2.1
theorem Zj.mask (bs : List Bool) (h : Zj X g nL Q R T (mk bs lv) st pc) : Zj X g nL Q R T lv st pc := fun H locs ls hw hl => h H locs ls hw (lh_sub hl (mk_sub bs lv))
theorem Ok.ts (K : Ok X g l cc own nL ret rm) {w : Cond} (h : w ∈ gtb) : w.before X.2.2.2.2.2.2.1 X.2.2.2.2.1 = true := K.1.2.2.2.2 w h
theorem tb {w : Cond} (i : Nat) (h : lw_tbl[i]? = some w) (hg : goodWord w = true) : w ∈ gtb := List.mem_filter.mpr ⟨List.mem_of_getElem? h, hg⟩
theorem z_iadd (K : Ok X g l cc own nL ret rm) {a b : Int32} (hd : decode cc pc = .ok (.iadd, 1)) (kk : Zj X g nL Q R T lv (.int (a + b) :: st) (pc + 1)) : Zj X g nL Q R T lv (.int b :: .int a :: st) pc := fun H locs ls hw h => lv_iadd K.1.1 K.1.2.1 hd (kk H locs ls hw h)
theorem z_isub (K : Ok X g l cc own nL ret rm) {a b : Int32} (hd : decode cc pc = .ok (.isub, 1)) (kk : Zj X g nL Q R T lv (.int (a - b) :: st) (pc + 1)) : Zj X g nL Q R T lv (.int b :: .int a :: st) pc := fun H locs ls hw h => lv_isub K.1.1 K.1.2.1 hd (kk H locs ls hw h)
theorem z_imul (K : Ok X g l cc own nL ret rm) {a b : Int32} (hd : decode cc pc = .ok (.imul, 1)) (kk : Zj X g nL Q R T lv (.int (a * b) :: st) (pc + 1)) : Zj X g nL Q R T lv (.int b :: .int a :: st) pc := fun H locs ls hw h => lv_imul K.1.1 K.1.2.1 hd (kk H locs ls hw h)
theorem z_iand (K : Ok X g l cc own nL ret rm) {a b : Int32} (hd : decode cc pc = .ok (.iand, 1)) (kk : Zj X g nL Q R T lv (.int (a &&& b) :: st) (pc + 1)) : Zj X g nL Q R T lv (.int b :: .int a :: st) pc := fun H locs ls hw h => lv_iand K.1.1 K.1.2.1 hd (kk H locs ls hw h)
theorem z_ior (K : Ok X g l cc own nL ret rm) {a b : Int32} (hd : decode cc pc = .ok (.ior, 1)) (kk : Zj X g nL Q R T lv (.int (a ||| b) :: st) (pc + 1)) : Zj X g nL Q R T lv (.int b :: .int a :: st) pc := fun H locs ls hw h => lv_ior K.1.1 K.1.2.1 hd (kk H locs ls hw h)
theorem z_ixor (K : Ok X g l cc own nL ret rm) {a b : Int32} (hd : decode cc pc = .ok (.ixor, 1)) (kk : Zj X g nL Q R T lv (.int (a ^^^ b) :: st) (pc + 1)) : Zj X g nL Q R T lv (.int b :: .int a :: st) pc := fun H locs ls hw h => lv_ixor K.1.1 K.1.2.1 hd (kk H locs ls hw h)
theorem z_ishl (K : Ok X g l cc own nL ret rm) {a b : Int32} (hd : decode cc pc = .ok (.ishl, 1)) (kk : Zj X g nL Q R T lv (.int (a <<< (b &&& 31)) :: st) (pc + 1)) : Zj X g nL Q R T lv (.int b :: .int a :: st) pc := fun H locs ls hw h => lv_ishl K.1.1 K.1.2.1 hd (kk H locs ls hw h)
theorem z_ishr (K : Ok X g l cc own nL ret rm) {a b : Int32} (hd : decode cc pc = .ok (.ishr, 1)) (kk : Zj X g nL Q R T lv (.int (a >>> (b &&& 31)) :: st) (pc + 1)) : Zj X g nL Q R T lv (.int b :: .int a :: st) pc := fun H locs ls hw h => lv_ishr K.1.1 K.1.2.1 hd (kk H locs ls hw h)
def us (x y : Int32) : Int32 := (x.toUInt32 >>> (y.toUInt32 &&& Int32.toUInt32 31)).toInt32
theorem z_iushr (K : Ok X g l cc own nL ret rm) {a b : Int32} (hd : decode cc pc = .ok (.iushr, 1)) (kk : Zj X g nL Q R T lv (.int (us a b) :: st) (pc + 1)) : Zj X g nL Q R T lv (.int b :: .int a :: st) pc := fun H locs ls hw h => lv_iushr K.1.1 K.1.2.1 hd rfl (kk H locs ls hw h)
theorem z_idiv (K : Ok X g l cc own nL ret rm) {a b : Int32} (hd : decode cc pc = .ok (.idiv, 1)) (hne : ¬ b = 0) (kk : Zj X g nL Q R T lv (.int (a / b) :: st) (pc + 1)) : Zj X g nL Q R T lv (.int b :: .int a :: st) pc := fun H locs ls hw h => lv_idiv K.1.1 K.1.2.1 hd hne (kk H locs ls hw h)
theorem z_irem (K : Ok X g l cc own nL ret rm) {a b : Int32} (hd : decode cc pc = .ok (.irem, 1)) (hne : ¬ b = 0) (kk : Zj X g nL Q R T lv (.int (a - a / b * b) :: st) (pc + 1)) : Zj X g nL Q R T lv (.int b :: .int a :: st) pc := fun H locs ls hw h => lv_irem K.1.1 K.1.2.1 hd hne (kk H locs ls hw h)
theorem z_land (K : Ok X g l cc own nL ret rm) {a b : Int64} (hd : decode cc pc = .ok (.land, 1)) (kk : Zj X g nL Q R T lv (.long (a &&& b) :: st) (pc + 1)) : Zj X g nL Q R T lv (.long b :: .long a :: st) pc := fun H locs ls hw h => lv_land K.1.1 K.1.2.1 hd (kk H locs ls hw h)
theorem z_lor (K : Ok X g l cc own nL ret rm) {a b : Int64} (hd : decode cc pc = .ok (.lor, 1)) (kk : Zj X g nL Q R T lv (.long (a ||| b) :: st) (pc + 1)) : Zj X g nL Q R T lv (.long b :: .long a :: st) pc := fun H locs ls hw h => lv_lor K.1.1 K.1.2.1 hd (kk H locs ls hw h)
theorem z_lshl (K : Ok X g l cc own nL ret rm) {a : Int64} {b : Int32} (hd : decode cc pc = .ok (.lshl, 1)) (kk : Zj X g nL Q R T lv (.long (a <<< (b.toInt64 &&& 63)) :: st) (pc + 1)) : Zj X g nL Q R T lv (.int b :: .long a :: st) pc := fun H locs ls hw h => lv_lshl K.1.1 K.1.2.1 hd rfl (kk H locs ls hw h)
theorem z_lshr (K : Ok X g l cc own nL ret rm) {a : Int64} {b : Int32} (hd : decode cc pc = .ok (.lshr, 1)) (kk : Zj X g nL Q R T lv (.long (a >>> (b.toInt64 &&& 63)) :: st) (pc + 1)) : Zj X g nL Q R T lv (.int b :: .long a :: st) pc := fun H locs ls hw h => lv_lshr K.1.1 K.1.2.1 hd rfl (kk H locs ls hw h)
theorem z_i2l (K : Ok X g l cc own nL ret rm) {a : Int32} (hd : decode cc pc = .ok (.i2l, 1)) (kk : Zj X g nL Q R T lv (.long a.toInt64 :: st) (pc + 1)) : Zj X g nL Q R T lv (.int a :: st) pc := fun H locs ls hw h => lv_i2l K.1.1 K.1.2.1 hd rfl (kk H locs ls hw h)
theorem z_l2i (K : Ok X g l cc own nL ret rm) {a : Int64} (hd : decode cc pc = .ok (.l2i, 1)) (kk : Zj X g nL Q R T lv (.int a.toInt32 :: st) (pc + 1)) : Zj X g nL Q R T lv (.long a :: st) pc := fun H locs ls hw h => lv_l2i K.1.1 K.1.2.1 hd rfl (kk H locs ls hw h)
theorem z_i2b (K : Ok X g l cc own nL ret rm) {a : Int32} (hd : decode cc pc = .ok (.i2b, 1)) (kk : Zj X g nL Q R T lv (.int a.toInt8.toInt32 :: st) (pc + 1)) : Zj X g nL Q R T lv (.int a :: st) pc := fun H locs ls hw h => lv_i2b K.1.1 K.1.2.1 hd rfl (kk H locs ls hw h)
theorem z_iconst (K : Ok X g l cc own nL ret rm) {n : Int} (v : Int32) (hd : decode cc pc = .ok (.iconst n, 1)) (hv : Int32.ofInt n = v) (kk : Zj X g nL Q R T lv (.int v :: st) (pc + 1)) : Zj X g nL Q R T lv (st) pc := fun H locs ls hw h => lv_iconst K.1.1 K.1.2.1 hd hv (kk H locs ls hw h)
theorem z_bipush (K : Ok X g l cc own nL ret rm) {n : Int} (v : Int32) (hd : decode cc pc = .ok (.bipush n, 2)) (hv : (Int8.ofInt n).toInt32 = v) (kk : Zj X g nL Q R T lv (.int v :: st) (pc + 2)) : Zj X g nL Q R T lv (st) pc := fun H locs ls hw h => lv_bipush K.1.1 K.1.2.1 hd hv (kk H locs ls hw h)
theorem z_sipush (K : Ok X g l cc own nL ret rm) {n : Int} (v : Int32) (hd : decode cc pc = .ok (.sipush n, 3)) (hv : (Int16.ofInt n).toInt32 = v) (kk : Zj X g nL Q R T lv (.int v :: st) (pc + 3)) : Zj X g nL Q R T lv (st) pc := fun H locs ls hw h => lv_sipush K.1.1 K.1.2.1 hd hv (kk H locs ls hw h)
theorem z_lconst (K : Ok X g l cc own nL ret rm) {n : Fin 2} (v : Int64) (hd : decode cc pc = .ok (.lconst n, 1)) (hv : Int64.ofNat (n : Nat) = v) (kk : Zj X g nL Q R T lv (.long v :: st) (pc + 1)) : Zj X g nL Q R T lv (st) pc := fun H locs ls hw h => lv_lconst K.1.1 K.1.2.1 hd hv (kk H locs ls hw h)
theorem z_if_eq (K : Ok X g l cc own nL ret rm) {a : Int32} {off : Int} (tgt : Nat) (hd : decode cc pc = .ok (.ifCond .eq off, 3)) (ht : (pc : Int) + off = (tgt : Int)) (kt : a = 0 → Zj X g nL Q R T lv st tgt) (kf : ¬ a = 0 → Zj X g nL Q R T lv st (pc + 3)) : Zj X g nL Q R T lv (.int a :: st) pc := fun H locs ls hw h => lv_if_eq K.1.1 K.1.2.1 hd ht (fun c => kt c H locs ls hw h) (fun c => kf c H locs ls hw h)
theorem z_if_ne (K : Ok X g l cc own nL ret rm) {a : Int32} {off : Int} (tgt : Nat) (hd : decode cc pc = .ok (.ifCond .ne off, 3)) (ht : (pc : Int) + off = (tgt : Int)) (kt : ¬ a = 0 → Zj X g nL Q R T lv st tgt) (kf : a = 0 → Zj X g nL Q R T lv st (pc + 3)) : Zj X g nL Q R T lv (.int a :: st) pc := fun H locs ls hw h => lv_if_ne K.1.1 K.1.2.1 hd ht (fun c => kt c H locs ls hw h) (fun c => kf c H locs ls hw h)
theorem z_if_lt (K : Ok X g l cc own nL ret rm) {a : Int32} {off : Int} (tgt : Nat) (hd : decode cc pc = .ok (.ifCond .lt off, 3)) (ht : (pc : Int) + off = (tgt : Int)) (kt : a < 0 → Zj X g nL Q R T lv st tgt) (kf : ¬ a < 0 → Zj X g nL Q R T lv st (pc + 3)) : Zj X g nL Q R T lv (.int a :: st) pc := fun H locs ls hw h => lv_if_lt K.1.1 K.1.2.1 hd ht (fun c => kt c H locs ls hw h) (fun c => kf c H locs ls hw h)
theorem z_if_ge (K : Ok X g l cc own nL ret rm) {a : Int32} {off : Int} (tgt : Nat) (hd : decode cc pc = .ok (.ifCond .ge off, 3)) (ht : (pc : Int) + off = (tgt : Int)) (kt : 0 ≤ a → Zj X g nL Q R T lv st tgt) (kf : ¬ 0 ≤ a → Zj X g nL Q R T lv st (pc + 3)) : Zj X g nL Q R T lv (.int a :: st) pc := fun H locs ls hw h => lv_if_ge K.1.1 K.1.2.1 hd ht (fun c => kt c H locs ls hw h) (fun c => kf c H locs ls hw h)
theorem z_if_gt (K : Ok X g l cc own nL ret rm) {a : Int32} {off : Int} (tgt : Nat) (hd : decode cc pc = .ok (.ifCond .gt off, 3)) (ht : (pc : Int) + off = (tgt : Int)) (kt : 0 < a → Zj X g nL Q R T lv st tgt) (kf : ¬ 0 < a → Zj X g nL Q R T lv st (pc + 3)) : Zj X g nL Q R T lv (.int a :: st) pc := fun H locs ls hw h => lv_if_gt K.1.1 K.1.2.1 hd ht (fun c => kt c H locs ls hw h) (fun c => kf c H locs ls hw h)
theorem z_if_le (K : Ok X g l cc own nL ret rm) {a : Int32} {off : Int} (tgt : Nat) (hd : decode cc pc = .ok (.ifCond .le off, 3)) (ht : (pc : Int) + off = (tgt : Int)) (kt : a ≤ 0 → Zj X g nL Q R T lv st tgt) (kf : ¬ a ≤ 0 → Zj X g nL Q R T lv st (pc + 3)) : Zj X g nL Q R T lv (.int a :: st) pc := fun H locs ls hw h => lv_if_le K.1.1 K.1.2.1 hd ht (fun c => kt c H locs ls hw h) (fun c => kf c H locs ls hw h)
theorem z_icmp_eq (K : Ok X g l cc own nL ret rm) {a b : Int32} {off : Int} (tgt : Nat) (hd : decode cc pc = .ok (.if_icmp .eq off, 3)) (ht : (pc : Int) + off = (tgt : Int)) (kt : a = b → Zj X g nL Q R T lv st tgt) (kf : ¬ a = b → Zj X g nL Q R T lv st (pc + 3)) : Zj X g nL Q R T lv (.int b :: .int a :: st) pc := fun H locs ls hw h => lv_icmp_eq K.1.1 K.1.2.1 hd ht (fun c => kt c H locs ls hw h) (fun c => kf c H locs ls hw h)
theorem z_icmp_ne (K : Ok X g l cc own nL ret rm) {a b : Int32} {off : Int} (tgt : Nat) (hd : decode cc pc = .ok (.if_icmp .ne off, 3)) (ht : (pc : Int) + off = (tgt : Int)) (kt : ¬ a = b → Zj X g nL Q R T lv st tgt) (kf : a = b → Zj X g nL Q R T lv st (pc + 3)) : Zj X g nL Q R T lv (.int b :: .int a :: st) pc := fun H locs ls hw h => lv_icmp_ne K.1.1 K.1.2.1 hd ht (fun c => kt c H locs ls hw h) (fun c => kf c H locs ls hw h)
theorem z_icmp_lt (K : Ok X g l cc own nL ret rm) {a b : Int32} {off : Int} (tgt : Nat) (hd : decode cc pc = .ok (.if_icmp .lt off, 3)) (ht : (pc : Int) + off = (tgt : Int)) (kt : a < b → Zj X g nL Q R T lv st tgt) (kf : ¬ a < b → Zj X g nL Q R T lv st (pc + 3)) : Zj X g nL Q R T lv (.int b :: .int a :: st) pc := fun H locs ls hw h => lv_icmp_lt K.1.1 K.1.2.1 hd ht (fun c => kt c H locs ls hw h) (fun c => kf c H locs ls hw h)
theorem z_icmp_ge (K : Ok X g l cc own nL ret rm) {a b : Int32} {off : Int} (tgt : Nat) (hd : decode cc pc = .ok (.if_icmp .ge off, 3)) (ht : (pc : Int) + off = (tgt : Int)) (kt : b ≤ a → Zj X g nL Q R T lv st tgt) (kf : ¬ b ≤ a → Zj X g nL Q R T lv st (pc + 3)) : Zj X g nL Q R T lv (.int b :: .int a :: st) pc := fun H locs ls hw h => lv_icmp_ge K.1.1 K.1.2.1 hd ht (fun c => kt c H locs ls hw h) (fun c => kf c H locs ls hw h)
theorem z_icmp_gt (K : Ok X g l cc own nL ret rm) {a b : Int32} {off : Int} (tgt : Nat) (hd : decode cc pc = .ok (.if_icmp .gt off, 3)) (ht : (pc : Int) + off = (tgt : Int)) (kt : b < a → Zj X g nL Q R T lv st tgt) (kf : ¬ b < a → Zj X g nL Q R T lv st (pc + 3)) : Zj X g nL Q R T lv (.int b :: .int a :: st) pc := fun H locs ls hw h => lv_icmp_gt K.1.1 K.1.2.1 hd ht (fun c => kt c H locs ls hw h) (fun c => kf c H locs ls hw h)
theorem z_icmp_le (K : Ok X g l cc own nL ret rm) {a b : Int32} {off : Int} (tgt : Nat) (hd : decode cc pc = .ok (.if_icmp .le off, 3)) (ht : (pc : Int) + off = (tgt : Int)) (kt : a ≤ b → Zj X g nL Q R T lv st tgt) (kf : ¬ a ≤ b → Zj X g nL Q R T lv st (pc + 3)) : Zj X g nL Q R T lv (.int b :: .int a :: st) pc := fun H locs ls hw h => lv_icmp_le K.1.1 K.1.2.1 hd ht (fun c => kt c H locs ls hw h) (fun c => kf c H locs ls hw h)

theorem z_iload_n (K : Ok X g l cc own nL ret rm) {k : Fin 4} {x : Int32} (hd : decode cc pc = .ok (.iload_n k, 1)) (hl : lv[(k : Nat)]? = some (some (.int x))) (kk : Zj X g nL Q R T lv (.int x :: st) (pc + 1)) : Zj X g nL Q R T lv st pc := fun H locs ls hw h => lv_iload_n K.1.1 K.1.2.1 hd rfl (lh_at h hl) (kk H locs ls hw h)
theorem z_iload (K : Ok X g l cc own nL ret rm) {k : Nat} {x : Int32} (hd : decode cc pc = .ok (.iload k, 2)) (hl : lv[k]? = some (some (.int x))) (kk : Zj X g nL Q R T lv (.int x :: st) (pc + 2)) : Zj X g nL Q R T lv st pc := fun H locs ls hw h => lv_iload K.1.1 K.1.2.1 hd (lh_at h hl) (kk H locs ls hw h)
theorem z_lload_n (K : Ok X g l cc own nL ret rm) {k : Fin 4} {x : Int64} (hd : decode cc pc = .ok (.lload_n k, 1)) (hl : lv[(k : Nat)]? = some (some (.long x))) (kk : Zj X g nL Q R T lv (.long x :: st) (pc + 1)) : Zj X g nL Q R T lv st pc := fun H locs ls hw h => lv_lload_n K.1.1 K.1.2.1 hd rfl (lh_at h hl) (kk H locs ls hw h)
theorem z_lload (K : Ok X g l cc own nL ret rm) {k : Nat} {x : Int64} (hd : decode cc pc = .ok (.lload k, 2)) (hl : lv[k]? = some (some (.long x))) (kk : Zj X g nL Q R T lv (.long x :: st) (pc + 2)) : Zj X g nL Q R T lv st pc := fun H locs ls hw h => lv_lload K.1.1 K.1.2.1 hd (lh_at h hl) (kk H locs ls hw h)
theorem z_aload_n (K : Ok X g l cc own nL ret rm) {k : Fin 4} {x : Nat} (hd : decode cc pc = .ok (.aload_n k, 1)) (hl : lv[(k : Nat)]? = some (some (.ref x))) (kk : Zj X g nL Q R T lv (.ref x :: st) (pc + 1)) : Zj X g nL Q R T lv st pc := fun H locs ls hw h => lv_aload_n K.1.1 K.1.2.1 hd rfl (lh_at h hl) (kk H locs ls hw h)
theorem z_aload (K : Ok X g l cc own nL ret rm) {k : Nat} {x : Nat} (hd : decode cc pc = .ok (.aload k, 2)) (hl : lv[k]? = some (some (.ref x))) (kk : Zj X g nL Q R T lv (.ref x :: st) (pc + 2)) : Zj X g nL Q R T lv st pc := fun H locs ls hw h => lv_aload K.1.1 K.1.2.1 hd (lh_at h hl) (kk H locs ls hw h)
theorem z_istore_n (K : Ok X g l cc own nL ret rm) {k : Fin 4} {x : Int32} (hd : decode cc pc = .ok (.istore_n k, 1)) (hn : Nat.blt k nL = true) (ho : ok1 lv k = true) (kk : Zj X g nL Q R T (lv.set k (some (.int x))) st (pc + 1)) : Zj X g nL Q R T lv (.int x :: st) pc := fun H locs ls hw h => lv_istore_n K.1.1 K.1.2.1 hd rfl h (Nat.blt_eq.mp hn) rfl (fun ls' h' => kk H locs ls' hw (lh_set1 ho h'))
theorem z_istore (K : Ok X g l cc own nL ret rm) {k : Nat} {x : Int32} (hd : decode cc pc = .ok (.istore k, 2)) (hn : Nat.blt k nL = true) (ho : ok1 lv k = true) (kk : Zj X g nL Q R T (lv.set k (some (.int x))) st (pc + 2)) : Zj X g nL Q R T lv (.int x :: st) pc := fun H locs ls hw h => lv_istore K.1.1 K.1.2.1 hd h (Nat.blt_eq.mp hn) rfl (fun ls' h' => kk H locs ls' hw (lh_set1 ho h'))
theorem z_lstore (K : Ok X g l cc own nL ret rm) {k : Nat} {x : Int64} (hd : decode cc pc = .ok (.lstore k, 2)) (hn : Nat.blt (k + 1) nL = true) (ho : ok1 lv k = true) (kk : Zj X g nL Q R T ((lv.set (k + 1) none).set k (some (.long x))) st (pc + 2)) : Zj X g nL Q R T lv (.long x :: st) pc := fun H locs ls hw h => lv_lstore K.1.1 K.1.2.1 hd h (Nat.blt_eq.mp hn) rfl (fun ls' h' => kk H locs ls' hw (lh_set2 ho h'))
theorem z_astore_n (K : Ok X g l cc own nL ret rm) {k : Fin 4} {x : Nat} (hd : decode cc pc = .ok (.astore_n k, 1)) (hn : Nat.blt k nL = true) (ho : ok1 lv k = true) (kk : Zj X g nL Q R T (lv.set k (some (.ref x))) st (pc + 1)) : Zj X g nL Q R T lv (.ref x :: st) pc := fun H locs ls hw h => lv_astore_n K.1.1 K.1.2.1 hd rfl h (Nat.blt_eq.mp hn) rfl (fun ls' h' => kk H locs ls' hw (lh_set1 ho h'))
theorem z_astore (K : Ok X g l cc own nL ret rm) {k : Nat} {x : Nat} (hd : decode cc pc = .ok (.astore k, 2)) (hn : Nat.blt k nL = true) (ho : ok1 lv k = true) (kk : Zj X g nL Q R T (lv.set k (some (.ref x))) st (pc + 2)) : Zj X g nL Q R T lv (.ref x :: st) pc := fun H locs ls hw h => lv_astore K.1.1 K.1.2.1 hd h (Nat.blt_eq.mp hn) rfl (fun ls' h' => kk H locs ls' hw (lh_set1 ho h'))
theorem z_iinc (K : Ok X g l cc own nL ret rm) {i : Nat} {n : Int} {x : Int32} (v : Int32) (hd : decode cc pc = .ok (.iinc i n, 3)) (hl : lv[i]? = some (some (.int x))) (hv : Int32.ofInt n = v) (hn : Nat.blt i nL = true) (ho : ok1 lv i = true) (kk : Zj X g nL Q R T (lv.set i (some (.int (x + v)))) st (pc + 3)) : Zj X g nL Q R T lv st pc := by
  intro H locs ls hw h
  subst hv
  obtain ⟨k, hk⟩ := List.getElem?_of_mem ((mem_asl lv 0 i).mpr ⟨i, by omega, hl⟩)
  exact lv_iinc K.1.1 K.1.2.1 hd h hk rfl (Nat.blt_eq.mp hn) rfl (fun ls' h' => kk H locs ls' hw (lh_set1 ho h'))
theorem z_tin (K : Ok X g l cc own nL ret rm) {dflt lo hi : Int} {offs : Array Int} {len : Nat} {x : Int32} {off : Int} (tgt : Nat) (v : Int32) (hx : x = v) (hd : decode cc pc = .ok (.tableswitch dflt lo hi offs, len)) (h1 : ¬ v.toInt < lo) (h2 : ¬ hi < v.toInt) (ho : offs[(v.toInt - lo).toNat]? = some off) (ht : (pc : Int) + off = (tgt : Int)) (kk : Zj X g nL Q R T lv st tgt) : Zj X g nL Q R T lv (.int x :: st) pc := by
  subst hx
  exact fun H locs ls hw h => lv_tableIn K.1.1 K.1.2.1 hd h1 h2 ho ht (kk H locs ls hw h)
theorem z_tlow (K : Ok X g l cc own nL ret rm) {dflt lo hi : Int} {offs : Array Int} {len : Nat} {x : Int32} (tgt : Nat) (v : Int32) (hx : x = v) (hd : decode cc pc = .ok (.tableswitch dflt lo hi offs, len)) (h1 : v.toInt < lo) (ht : (pc : Int) + dflt = (tgt : Int)) (kk : Zj X g nL Q R T lv st tgt) : Zj X g nL Q R T lv (.int x :: st) pc := by
  subst hx
  exact fun H locs ls hw h => lv_tableOut K.1.1 K.1.2.1 hd (Or.inl h1) ht (kk H locs ls hw h)
theorem sw_out {x : Int32} (n : Nat) (hn : n < 2 ^ 31) (h : ∀ a : Nat, a < n → ¬ x = Int32.ofNat a) : x.toInt < 0 ∨ (n : Int) - 1 < x.toInt := by
  rcases Int.lt_or_le x.toInt 0 with q | q
  · exact Or.inl q
  · rcases Int.lt_or_le ((n : Int) - 1) x.toInt with q2 | q2
    · exact Or.inr q2
    · exfalso
      obtain ⟨j, hj, e⟩ := nI_of (x := x) (fun z => by
        have := Int32.lt_iff_toInt_lt.mp z
        simp at this
        omega)
      have e2 : x.toInt = (j : Int) := by rw [e]; exact nI_toInt hj
      exact h j (by omega) e
theorem z_tout (K : Ok X g l cc own nL ret rm) {dflt lo hi : Int} {offs : Array Int} {len : Nat} {x : Int32} (tgt n : Nat) (h0 : ∀ a : Nat, a < n → ¬ x = Int32.ofNat a) (hd : decode cc pc = .ok (.tableswitch dflt lo hi offs, len)) (hn : n < 2 ^ 31 ∧ 0 ≤ lo) (hh : hi = (n : Int) - 1) (ht : (pc : Int) + dflt = (tgt : Int)) (kk : Zj X g nL Q R T lv st tgt) : Zj X g nL Q R T lv (.int x :: st) pc := by
  refine fun H locs ls hw h => lv_tableOut K.1.1 K.1.2.1 hd ?_ ht (kk H locs ls hw h)
  rcases sw_out n hn.1 h0 with q | q
  · exact Or.inl (by omega)
  · exact Or.inr (by omega)
theorem lt_p {x : Int32} {n : Nat} (h : ∀ a : Nat, a < n → ¬ x = Int32.ofNat a) : ∀ a : Nat, a < n → ¬ x = Int32.ofNat a := h
theorem z_mmax (K : Ok X g l cc own nL ret rm) {idx : Nat} {a b : Int32} (hm : Cond.methodLink own idx Lib.Math.max.name ∈ gtb) (hs : Cond.static Lib.Math.max.name ∈ gtb) (hini : Cond.initialized "java/lang/Math" ∈ gtb) (hco : Cond.code Lib.Math.max.name Lib.Math.max.code 2 (some .int) ∈ gtb) (hf : 1 ≤ rm.frames) (hlo : (st.map fun v => v.category).sum + 13 ≤ rm.locals) (hd : decode cc pc = .ok (.invokestatic idx, 3)) (kk : Zj X g nL Q R T lv (.int (if a < b then b else a) :: st) (pc + 3)) : Zj X g nL Q R T lv (.int b :: .int a :: st) pc := fun H locs ls hw h => va_mmax K.1.1 K.1.2.1 (K.1.2.2.1.trans h.1.symm) K.1.2.2.2.1 (K.ts hm) (K.ts hs) (K.ts hini) (K.ts hco) (by rw [K.2.2.2.2.1]; exact hf) (by rw [K.2.2.2.2.1]; exact hlo) (by rw [K.2.2.2.2.1]; exact K.2.2.2.2.2.2.1) (by rw [K.2.2.2.2.1]; exact K.2.2.2.2.2.2.2.1) hd (kk H locs ls hw h)
theorem z_mmin (K : Ok X g l cc own nL ret rm) {idx : Nat} {a b : Int32} (hm : Cond.methodLink own idx Lib.Math.min.name ∈ gtb) (hs : Cond.static Lib.Math.min.name ∈ gtb) (hini : Cond.initialized "java/lang/Math" ∈ gtb) (hco : Cond.code Lib.Math.min.name Lib.Math.min.code 2 (some .int) ∈ gtb) (hf : 1 ≤ rm.frames) (hlo : (st.map fun v => v.category).sum + 13 ≤ rm.locals) (hd : decode cc pc = .ok (.invokestatic idx, 3)) (kk : Zj X g nL Q R T lv (.int (if b < a then b else a) :: st) (pc + 3)) : Zj X g nL Q R T lv (.int b :: .int a :: st) pc := fun H locs ls hw h => va_mmin K.1.1 K.1.2.1 (K.1.2.2.1.trans h.1.symm) K.1.2.2.2.1 (K.ts hm) (K.ts hs) (K.ts hini) (K.ts hco) (by rw [K.2.2.2.2.1]; exact hf) (by rw [K.2.2.2.2.1]; exact hlo) (by rw [K.2.2.2.2.1]; exact K.2.2.2.2.2.2.1) (by rw [K.2.2.2.2.1]; exact K.2.2.2.2.2.2.2.1) hd (kk H locs ls hw h)
theorem z_goto (K : Ok X g l cc own nL ret rm) {off : Int} (tgt : Nat) (hd : decode cc pc = .ok (.goto off, 3)) (ht : (pc : Int) + off = (tgt : Int)) (kk : Zj X g nL Q R T lv st tgt) : Zj X g nL Q R T lv st pc := fun H locs ls hw h => lv_goto K.1.1 K.1.2.1 hd ht (kk H locs ls hw h)
theorem z_pop (K : Ok X g l cc own nL ret rm) {v : Value} (hd : decode cc pc = .ok (.pop, 1)) (hv : v.category = 1) (kk : Zj X g nL Q R T lv st (pc + 1)) : Zj X g nL Q R T lv (v :: st) pc := fun H locs ls hw h => lv_pop K.1.1 K.1.2.1 hd hv (kk H locs ls hw h)
theorem z_dup (K : Ok X g l cc own nL ret rm) {v : Value} (hd : decode cc pc = .ok (.dup, 1)) (hv : v.category = 1) (kk : Zj X g nL Q R T lv (v :: v :: st) (pc + 1)) : Zj X g nL Q R T lv (v :: st) pc := fun H locs ls hw h => lv_dup K.1.1 K.1.2.1 hd hv (kk H locs ls hw h)
theorem z_dup2 (K : Ok X g l cc own nL ret rm) {v w : Value} (hd : decode cc pc = .ok (.dup2, 1)) (hv : v.category = 1) (hw1 : w.category = 1) (kk : Zj X g nL Q R T lv (v :: w :: v :: w :: st) (pc + 1)) : Zj X g nL Q R T lv (v :: w :: st) pc := fun H locs ls hw h => lv_dup2_11 K.1.1 K.1.2.1 hd hv hw1 (kk H locs ls hw h)
theorem z_ldc (K : Ok X g l cc own nL ret rm) {i : Nat} (v : Int32) (hm : Cond.constant own i v ∈ gtb) (hd : decode cc pc = .ok (.ldc i, 2)) (kk : Zj X g nL Q R T lv (.int v :: st) (pc + 2)) : Zj X g nL Q R T lv st pc := fun H locs ls hw h => lv_ldc K.1.1 K.1.2.1 K.1.2.2.2.1 (K.ts hm) hd (kk H locs ls hw h)
theorem z_ldcw (K : Ok X g l cc own nL ret rm) {i : Nat} (v : Int32) (hm : Cond.constant own i v ∈ gtb) (hd : decode cc pc = .ok (.ldc_w i, 3)) (kk : Zj X g nL Q R T lv (.int v :: st) (pc + 3)) : Zj X g nL Q R T lv st pc := fun H locs ls hw h => lv_ldcw K.1.1 K.1.2.1 K.1.2.2.2.1 (K.ts hm) hd (kk H locs ls hw h)
theorem z_ldc2 (K : Ok X g l cc own nL ret rm) {i : Nat} (v : Int64) (hm : Cond.constantLong own i v ∈ gtb) (hd : decode cc pc = .ok (.ldc2_w i, 3)) (kk : Zj X g nL Q R T lv (.long v :: st) (pc + 3)) : Zj X g nL Q R T lv st pc := fun H locs ls hw h => lv_ldc2 K.1.1 K.1.2.1 K.1.2.2.2.1 (K.ts hm) hd (kk H locs ls hw h)
theorem z_lcmp (K : Ok X g l cc own nL ret rm) {a b : Int64} (hd : decode cc pc = .ok (.lcmp, 1)) (kk : Zj X g nL Q R T lv (.int (lg_cmp a b) :: st) (pc + 1)) : Zj X g nL Q R T lv (.long b :: .long a :: st) pc := fun H locs ls hw h => W.lcmp K.1.1 K.1.2.1 hd (kk H locs ls hw h)
/-! fields: c the class's number; CL its name, table, size -/
def CL (ci : Nat) (C : String) (Tt : u_T) (N : Nat) : Prop := vwCl[ci]? = some (C, Tt, N) ∧ (∀ w ∈ u_ws C Tt N, w ∈ gtb) ∧ Nat.blt ci 13 = true ∧ Nat.beq ci 999 = false
theorem z_getI {C : String} {Tt : u_T} {N ci a idx : Nat} (K : Ok X g l cc own nL ret rm) (c : CL ci C Tt N) (hk : kd g a = ci) (k : Nat) (hN : Nat.blt k N = true) (hf : (ft ci)[k]? = some 0) (hm : Cond.fieldLink own idx (Tt k).1 (Tt k).2.1 (Tt k).2.2.1 ∈ gtb) (hd : decode cc pc = .ok (.getfield idx, 3)) (kk : Zj X g nL Q R T lv (.int (T.1 a k) :: st) (pc + 3)) : Zj X g nL Q R T lv (.ref (g.2.2.1 a) :: st) pc := by
  intro H locs ls hw h
  have hi := kd_lt hk c.2.2.2
  have h1 := ws_at (g := g) (R := R) (T := T) hi
  rw [ce_obj hk c.2.2.1] at h1
  have h2 := fl_at (g := g) (R := R) (T := T) (i := a) (ft ci) 0 k 0 hf
  rw [Nat.zero_add] at h2
  exact va_get K.1.1 K.1.2.1 K.1.2.2.2.2 c.2.1 K.1.2.2.2.1 K.2.2.2.1 hw.1 a h1 c.1 k (Nat.blt_eq.mp hN) (K.ts hm) (fun _ h9 => h9) h2 hd (kk H locs ls hw h)
theorem z_getJ {C : String} {Tt : u_T} {N ci a idx : Nat} (K : Ok X g l cc own nL ret rm) (c : CL ci C Tt N) (hk : kd g a = ci) (k : Nat) (hN : Nat.blt k N = true) (hf : (ft ci)[k]? = some 1) (hm : Cond.fieldLink own idx (Tt k).1 (Tt k).2.1 (Tt k).2.2.1 ∈ gtb) (hd : decode cc pc = .ok (.getfield idx, 3)) (kk : Zj X g nL Q R T lv (.long (T.2 a k) :: st) (pc + 3)) : Zj X g nL Q R T lv (.ref (g.2.2.1 a) :: st) pc := by
  intro H locs ls hw h
  have hi := kd_lt hk c.2.2.2
  have h1 := ws_at (g := g) (R := R) (T := T) hi
  rw [ce_obj hk c.2.2.1] at h1
  have h2 := fl_at (g := g) (R := R) (T := T) (i := a) (ft ci) 0 k 1 hf
  rw [Nat.zero_add] at h2
  exact va_get K.1.1 K.1.2.1 K.1.2.2.2.2 c.2.1 K.1.2.2.2.1 K.2.2.2.1 hw.1 a h1 c.1 k (Nat.blt_eq.mp hN) (K.ts hm) (fun _ h9 => h9) h2 hd (kk H locs ls hw h)
theorem z_getR {C : String} {Tt : u_T} {N ci a idx : Nat} (K : Ok X g l cc own nL ret rm) (c : CL ci C Tt N) (hk : kd g a = ci) (k : Nat) (hN : Nat.blt k N = true) (hf : (ft ci)[k]? = some 2) (hm : Cond.fieldLink own idx (Tt k).1 (Tt k).2.1 (Tt k).2.2.1 ∈ gtb) (hd : decode cc pc = .ok (.getfield idx, 3)) (kk : Zj X g nL Q R T lv (.ref (g.2.2.1 (R a k)) :: st) (pc + 3)) : Zj X g nL Q R T lv (.ref (g.2.2.1 a) :: st) pc := by
  intro H locs ls hw h
  have hi := kd_lt hk c.2.2.2
  have h1 := ws_at (g := g) (R := R) (T := T) hi
  rw [ce_obj hk c.2.2.1] at h1
  have h2 := fl_at (g := g) (R := R) (T := T) (i := a) (ft ci) 0 k 2 hf
  rw [Nat.zero_add] at h2
  exact va_get K.1.1 K.1.2.1 K.1.2.2.2.2 c.2.1 K.1.2.2.2.1 K.2.2.2.1 hw.1 a h1 c.1 k (Nat.blt_eq.mp hN) (K.ts hm) (fun _ h9 => h9) h2 hd (kk H locs ls hw h)
theorem wo_set {R' : Rf} {T' : Mm} {a : Nat} {e : va_E} {H1 : Heap} {locs1 : List Loc} (ha : a < g.2.2.2.1.length) (h1 : ce g R' T' a = e) (h2 : ∀ j, j ≠ a → ce g R' T' j = ce g R T j) (hT : Ty g R') (hP : va_P g.1 vwCl ((wsOf g R T).set a (g.2.2.1 a, e)) H1) (hD : va_D X.2.2.2.2.2.2.2.2.2.2.2.2 ((wsOf g R T).set a (g.2.2.1 a, e))) (hS : va_S X.2.2.2.2.2.2.2.2.2.2.2.2 X.2.2.2.2.1.heap H1 locs1) : Wo X g R' T' H1 locs1 := by
  rw [ws_set ha h1 h2] at hP hD
  exact ⟨hP, hD, hS, hT⟩
theorem ceI_out {a k : Nat} {v : Int32} : ∀ j, j ≠ a → ce g R (wI T a k v) j = ce g R T j := fun j hj => ce_out (up2_row hj) rfl rfl
theorem ceJ_out {a k : Nat} {v : Int64} : ∀ j, j ≠ a → ce g R (wJ T a k v) j = ce g R T j := fun j hj => ce_out rfl (up2_row hj) rfl
theorem ceR_out {a k b : Nat} : ∀ j, j ≠ a → ce g (up2 R a k b) T j = ce g R T j := fun j hj => ce_out rfl rfl (up2_row hj)
theorem z_putI {C : String} {Tt : u_T} {N ci a idx : Nat} {v : Int32} {ty0 : Nat → FieldType} (K : Ok X g l cc own nL ret rm) (c : CL ci C Tt N) (hty : ∀ k, k < N → parseFieldDescriptor (Tt k).2.2.1 = some (ty0 k)) (hnm : ∀ a, a < N → ∀ b, b < N → a ≠ b → (Tt a).2.1 ≠ (Tt b).2.1) (hk : kd g a = ci) (k : Nat) (hN : Nat.blt k N = true) (hf : (ft ci)[k]? = some 0) (hm : Cond.fieldLink own idx (Tt k).1 (Tt k).2.1 (Tt k).2.2.1 ∈ gtb) (hfin : (Tt k).2.2.2 = false) (hn : narrow (ty0 k) (.int v) = .int v) (hfit : fits (ty0 k) (.int v) = true) (hd : decode cc pc = .ok (.putfield idx, 3)) (kk : Zj X g nL Q R (wI T a k v) lv st (pc + 3)) : Zj X g nL Q R T lv (.int v :: .ref (g.2.2.1 a) :: st) pc := by
  intro H locs ls hw h
  have hi := kd_lt hk c.2.2.2
  have h1 := ws_at (g := g) (R := R) (T := T) hi
  rw [ce_obj hk c.2.2.1] at h1
  have hl : k < (ft ci).length := (List.getElem?_eq_some_iff.mp hf).1
  refine va_put K.1.1 K.1.2.1 K.1.2.2.2.2 c.2.1 ty0 hty hnm K.1.2.2.2.1 K.2.2.2.1 hw.1 hw.2.1 hw.2.2.1 a h1 c.1 k (Nat.blt_eq.mp hN) (K.ts hm) (fun _ h9 => h9) hfin (hty k (Nat.blt_eq.mp hN)) hn hfit (by rw [fl_len]; exact hl) hd (fun H1 locs1 hP hD hS => ?_)
  refine kk H1 locs1 ls (wo_set hi ?_ ceI_out hw.2.2.2 hP hD hS) h
  rw [ce_obj hk c.2.2.1, fl_I (ft ci) 0 k (by omega) hf]
theorem z_putJ {C : String} {Tt : u_T} {N ci a idx : Nat} {v : Int64} {ty0 : Nat → FieldType} (K : Ok X g l cc own nL ret rm) (c : CL ci C Tt N) (hty : ∀ k, k < N → parseFieldDescriptor (Tt k).2.2.1 = some (ty0 k)) (hnm : ∀ a, a < N → ∀ b, b < N → a ≠ b → (Tt a).2.1 ≠ (Tt b).2.1) (hk : kd g a = ci) (k : Nat) (hN : Nat.blt k N = true) (hf : (ft ci)[k]? = some 1) (hm : Cond.fieldLink own idx (Tt k).1 (Tt k).2.1 (Tt k).2.2.1 ∈ gtb) (hfin : (Tt k).2.2.2 = false) (hn : narrow (ty0 k) (.long v) = .long v) (hfit : fits (ty0 k) (.long v) = true) (hd : decode cc pc = .ok (.putfield idx, 3)) (kk : Zj X g nL Q R (wJ T a k v) lv st (pc + 3)) : Zj X g nL Q R T lv (.long v :: .ref (g.2.2.1 a) :: st) pc := by
  intro H locs ls hw h
  have hi := kd_lt hk c.2.2.2
  have h1 := ws_at (g := g) (R := R) (T := T) hi
  rw [ce_obj hk c.2.2.1] at h1
  have hl : k < (ft ci).length := (List.getElem?_eq_some_iff.mp hf).1
  refine va_put K.1.1 K.1.2.1 K.1.2.2.2.2 c.2.1 ty0 hty hnm K.1.2.2.2.1 K.2.2.2.1 hw.1 hw.2.1 hw.2.2.1 a h1 c.1 k (Nat.blt_eq.mp hN) (K.ts hm) (fun _ h9 => h9) hfin (hty k (Nat.blt_eq.mp hN)) hn hfit (by rw [fl_len]; exact hl) hd (fun H1 locs1 hP hD hS => ?_)
  refine kk H1 locs1 ls (wo_set hi ?_ ceJ_out hw.2.2.2 hP hD hS) h
  rw [ce_obj hk c.2.2.1, fl_J (ft ci) 0 k (by omega) hf]
theorem Ty.put {a k b : Nat} (h : Ty g R) (hb : rk (kd g a) k = 999 ∨ kd g b = rk (kd g a) k) : Ty g (up2 R a k b) := by
  intro i j hj
  unfold up2
  by_cases c : i = a ∧ j = k
  · rw [if_pos c]
    obtain ⟨rfl, rfl⟩ := c
    rcases hb with q | q
    · exact absurd q hj
    · exact q
  · rw [if_neg c]
    exact h i j hj
theorem z_putR {C : String} {Tt : u_T} {N ci a b idx t : Nat} {ty0 : Nat → FieldType} (K : Ok X g l cc own nL ret rm) (c : CL ci C Tt N) (hty : ∀ k, k < N → parseFieldDescriptor (Tt k).2.2.1 = some (ty0 k)) (hnm : ∀ a, a < N → ∀ b, b < N → a ≠ b → (Tt a).2.1 ≠ (Tt b).2.1) (hk : kd g a = ci) (k : Nat) (hN : Nat.blt k N = true) (hf : (ft ci)[k]? = some 2) (hm : Cond.fieldLink own idx (Tt k).1 (Tt k).2.1 (Tt k).2.2.1 ∈ gtb) (hfin : (Tt k).2.2.2 = false) (hn : narrow (ty0 k) (.ref (g.2.2.1 b)) = .ref (g.2.2.1 b)) (hfit : fits (ty0 k) (.ref (g.2.2.1 b)) = true) (hkb : kd g b = t) (hr : rk ci k = t) (hd : decode cc pc = .ok (.putfield idx, 3)) (kk : Zj X g nL Q (up2 R a k b) T lv st (pc + 3)) : Zj X g nL Q R T lv (.ref (g.2.2.1 b) :: .ref (g.2.2.1 a) :: st) pc := by
  intro H locs ls hw h
  have hi := kd_lt hk c.2.2.2
  have h1 := ws_at (g := g) (R := R) (T := T) hi
  rw [ce_obj hk c.2.2.1] at h1
  have hl : k < (ft ci).length := (List.getElem?_eq_some_iff.mp hf).1
  refine va_put K.1.1 K.1.2.1 K.1.2.2.2.2 c.2.1 ty0 hty hnm K.1.2.2.2.1 K.2.2.2.1 hw.1 hw.2.1 hw.2.2.1 a h1 c.1 k (Nat.blt_eq.mp hN) (K.ts hm) (fun _ h9 => h9) hfin (hty k (Nat.blt_eq.mp hN)) hn hfit (by rw [fl_len]; exact hl) hd (fun H1 locs1 hP hD hS => ?_)
  refine kk H1 locs1 ls (wo_set hi ?_ ceR_out (hw.2.2.2.put (Or.inr (by rw [hk, hr, hkb]))) hP hD hS) h
  rw [ce_obj hk c.2.2.1, fl_R (ft ci) 0 k (by omega) hf]
/-! arrays -/
theorem z_iald {a c n : Nat} {i : Int32} (K : Ok X g l cc own nL ret rm) (hk : kd g a = c) (hc : c / 10000 = 2) (hn : c % 10000 = n) (h9 : Nat.beq c 999 = false) (hin : vp_in i n) (hd : decode cc pc = .ok (.iaload, 1)) (kk : Zj X g nL Q R T lv (.int (T.1 a i.toNatClampNeg) :: st) (pc + 1)) : Zj X g nL Q R T lv (.int i :: .ref (g.2.2.1 a) :: st) pc := by
  intro H locs ls hw h
  have h1 := ws_at (g := g) (R := R) (T := T) (kd_lt hk h9)
  rw [ce_I (e := 1) hk hc rfl rfl hn] at h1
  exact va_iald K.1.1 K.1.2.1 K.2.2.2.1 hw.1 a 1 h1 rfl hin hd (kk H locs ls hw h)
theorem z_bald {a c n : Nat} {i : Int32} (K : Ok X g l cc own nL ret rm) (hk : kd g a = c) (hc : c / 10000 = 1) (hn : c % 10000 = n) (h9 : Nat.beq c 999 = false) (hin : vp_in i n) (hd : decode cc pc = .ok (.baload, 1)) (kk : Zj X g nL Q R T lv (.int (T.1 a i.toNatClampNeg) :: st) (pc + 1)) : Zj X g nL Q R T lv (.int i :: .ref (g.2.2.1 a) :: st) pc := by
  intro H locs ls hw h
  have h1 := ws_at (g := g) (R := R) (T := T) (kd_lt hk h9)
  rw [ce_I (e := 0) hk hc rfl rfl hn] at h1
  exact va_bald K.1.1 K.1.2.1 K.2.2.2.1 hw.1 a 0 h1 rfl hin hd (kk H locs ls hw h)
theorem z_zald {a c n : Nat} {i : Int32} (K : Ok X g l cc own nL ret rm) (hk : kd g a = c) (hc : c / 10000 = 4) (hn : c % 10000 = n) (h9 : Nat.beq c 999 = false) (hin : vp_in i n) (hd : decode cc pc = .ok (.baload, 1)) (kk : Zj X g nL Q R T lv (.int (T.1 a i.toNatClampNeg) :: st) (pc + 1)) : Zj X g nL Q R T lv (.int i :: .ref (g.2.2.1 a) :: st) pc := by
  intro H locs ls hw h
  have h1 := ws_at (g := g) (R := R) (T := T) (kd_lt hk h9)
  rw [ce_I (e := 3) hk hc rfl rfl hn] at h1
  exact va_zald K.1.1 K.1.2.1 K.2.2.2.1 hw.1 a 3 h1 rfl hin hd (kk H locs ls hw h)
theorem z_lald {a c n : Nat} {i : Int32} (K : Ok X g l cc own nL ret rm) (hk : kd g a = c) (hc : c / 10000 = 3) (hn : c % 10000 = n) (h9 : Nat.beq c 999 = false) (hin : vp_in i n) (hd : decode cc pc = .ok (.laload, 1)) (kk : Zj X g nL Q R T lv (.long (T.2 a i.toNatClampNeg) :: st) (pc + 1)) : Zj X g nL Q R T lv (.int i :: .ref (g.2.2.1 a) :: st) pc := by
  intro H locs ls hw h
  have h1 := ws_at (g := g) (R := R) (T := T) (kd_lt hk h9)
  rw [ce_J hk hc hn] at h1
  exact va_lald K.1.1 K.1.2.1 K.2.2.2.1 hw.1 a 2 h1 rfl hin hd (kk H locs ls hw h)
theorem z_aald4 {a c n : Nat} {i : Int32} (K : Ok X g l cc own nL ret rm) (hk : kd g a = c) (hc : c / 10000 = 5) (hn : c % 10000 = n) (h9 : Nat.beq c 999 = false) (hin : vp_in i n) (hd : decode cc pc = .ok (.aaload, 1)) (kk : Zj X g nL Q R T lv (.ref (g.2.2.1 (R a i.toNatClampNeg)) :: st) (pc + 1)) : Zj X g nL Q R T lv (.int i :: .ref (g.2.2.1 a) :: st) pc := by
  intro H locs ls hw h
  have h1 := ws_at (g := g) (R := R) (T := T) (kd_lt hk h9)
  rw [ce_R (e := 4) hk hc rfl hn] at h1
  exact va_aldq K.1.1 K.1.2.1 K.2.2.2.1 hw.1 a 4 h1 rfl hin hd (kk H locs ls hw h)
theorem z_aald5 {a c n : Nat} {i : Int32} (K : Ok X g l cc own nL ret rm) (hk : kd g a = c) (hc : c / 10000 = 6) (hn : c % 10000 = n) (h9 : Nat.beq c 999 = false) (hin : vp_in i n) (hd : decode cc pc = .ok (.aaload, 1)) (kk : Zj X g nL Q R T lv (.ref (g.2.2.1 (R a i.toNatClampNeg)) :: st) (pc + 1)) : Zj X g nL Q R T lv (.int i :: .ref (g.2.2.1 a) :: st) pc := by
  intro H locs ls hw h
  have h1 := ws_at (g := g) (R := R) (T := T) (kd_lt hk h9)
  rw [ce_R (e := 5) hk hc rfl hn] at h1
  exact va_aldq K.1.1 K.1.2.1 K.2.2.2.1 hw.1 a 5 h1 rfl hin hd (kk H locs ls hw h)
theorem up2_upd {f : Nat → Nat → Int32} {a k : Nat} {x : Int32} : up2 f a k x a = upd (f a) k x := by
  funext j
  unfold up2 upd
  by_cases c : j = k <;> simp [c]
theorem up2_updL {f : Nat → Nat → Int64} {a k : Nat} {x : Int64} : up2 f a k x a = vp_updL (f a) k x := by
  funext j
  unfold up2 vp_updL
  by_cases c : j = k <;> simp [c]
theorem z_iast {a c n : Nat} {i x : Int32} (K : Ok X g l cc own nL ret rm) (hk : kd g a = c) (hc : c / 10000 = 2) (hn : c % 10000 = n) (h9 : Nat.beq c 999 = false) (hin : vp_in i n) (hd : decode cc pc = .ok (.iastore, 1)) (kk : Zj X g nL Q R (wI T a i.toNatClampNeg x) lv st (pc + 1)) : Zj X g nL Q R T lv (.int x :: .int i :: .ref (g.2.2.1 a) :: st) pc := by
  intro H locs ls hw h
  have hi := kd_lt hk h9
  have h1 := ws_at (g := g) (R := R) (T := T) hi
  rw [ce_I (e := 1) hk hc rfl rfl hn] at h1
  refine va_iast K.1.1 K.1.2.1 K.2.2.2.1 hw.1 hw.2.1 hw.2.2.1 a 1 h1 rfl hin hd (fun H1 locs1 hP hD hS => ?_)
  refine kk H1 locs1 ls (wo_set hi ?_ ceI_out hw.2.2.2 hP hD hS) h
  rw [ce_I (e := 1) hk hc rfl rfl hn, show (wI T a i.toNatClampNeg x).1 a = _ from up2_upd]
theorem z_bast {a c n : Nat} {i x : Int32} (K : Ok X g l cc own nL ret rm) (hk : kd g a = c) (hc : c / 10000 = 1) (hn : c % 10000 = n) (h9 : Nat.beq c 999 = false) (hin : vp_in i n) (hd : decode cc pc = .ok (.bastore, 1)) (kk : Zj X g nL Q R (wI T a i.toNatClampNeg x.toInt8.toInt32) lv st (pc + 1)) : Zj X g nL Q R T lv (.int x :: .int i :: .ref (g.2.2.1 a) :: st) pc := by
  intro H locs ls hw h
  have hi := kd_lt hk h9
  have h1 := ws_at (g := g) (R := R) (T := T) hi
  rw [ce_I (e := 0) hk hc rfl rfl hn] at h1
  refine va_bast K.1.1 K.1.2.1 K.2.2.2.1 hw.1 hw.2.1 hw.2.2.1 a 0 h1 rfl hin hd (fun H1 locs1 hP hD hS => ?_)
  refine kk H1 locs1 ls (wo_set hi ?_ ceI_out hw.2.2.2 hP hD hS) h
  rw [ce_I (e := 0) hk hc rfl rfl hn, show (wI T a i.toNatClampNeg x.toInt8.toInt32).1 a = _ from up2_upd, vp_nar_byte]
theorem z_zast {a c n : Nat} {i x : Int32} (K : Ok X g l cc own nL ret rm) (hk : kd g a = c) (hc : c / 10000 = 4) (hn : c % 10000 = n) (h9 : Nat.beq c 999 = false) (hin : vp_in i n) (hz : narrow .boolean (.int x) = .int x) (hd : decode cc pc = .ok (.bastore, 1)) (kk : Zj X g nL Q R (wI T a i.toNatClampNeg x) lv st (pc + 1)) : Zj X g nL Q R T lv (.int x :: .int i :: .ref (g.2.2.1 a) :: st) pc := by
  intro H locs ls hw h
  have hi := kd_lt hk h9
  have h1 := ws_at (g := g) (R := R) (T := T) hi
  rw [ce_I (e := 3) hk hc rfl rfl hn] at h1
  refine va_zast K.1.1 K.1.2.1 K.2.2.2.1 hw.1 hw.2.1 hw.2.2.1 a 3 h1 rfl hin hd (fun H1 locs1 hP hD hS => ?_)
  refine kk H1 locs1 ls (wo_set hi ?_ ceI_out hw.2.2.2 hP hD hS) h
  rw [ce_I (e := 3) hk hc rfl rfl hn, show (wI T a i.toNatClampNeg x).1 a = _ from up2_upd, show vp_nar .boolean x = x by unfold vp_nar; rw [hz]]
theorem z_last {a c n : Nat} {i : Int32} {x : Int64} (K : Ok X g l cc own nL ret rm) (hk : kd g a = c) (hc : c / 10000 = 3) (hn : c % 10000 = n) (h9 : Nat.beq c 999 = false) (hin : vp_in i n) (hd : decode cc pc = .ok (.lastore, 1)) (kk : Zj X g nL Q R (wJ T a i.toNatClampNeg x) lv st (pc + 1)) : Zj X g nL Q R T lv (.long x :: .int i :: .ref (g.2.2.1 a) :: st) pc := by
  intro H locs ls hw h
  have hi := kd_lt hk h9
  have h1 := ws_at (g := g) (R := R) (T := T) hi
  rw [ce_J hk hc hn] at h1
  refine va_last K.1.1 K.1.2.1 K.2.2.2.1 hw.1 hw.2.1 hw.2.2.1 a 2 h1 rfl hin hd (fun H1 locs1 hP hD hS => ?_)
  refine kk H1 locs1 ls (wo_set hi ?_ ceJ_out hw.2.2.2 hP hD hS) h
  rw [ce_J hk hc hn, show (wJ T a i.toNatClampNeg x).2 a = _ from up2_updL]
theorem z_aald6 {a c n : Nat} {i : Int32} (K : Ok X g l cc own nL ret rm) (hk : kd g a = c) (hc : c / 10000 = 7) (hn : c % 10000 = n) (h9 : Nat.beq c 999 = false) (hin : vp_in i n) (hd : decode cc pc = .ok (.aaload, 1)) (kk : Zj X g nL Q R T lv (.ref (g.2.2.1 (R a i.toNatClampNeg)) :: st) (pc + 1)) : Zj X g nL Q R T lv (.int i :: .ref (g.2.2.1 a) :: st) pc := by
  intro H locs ls hw h
  have h1 := ws_at (g := g) (R := R) (T := T) (kd_lt hk h9)
  rw [ce_R (e := 6) hk hc rfl hn] at h1
  have hlt : i.toNatClampNeg < n := Nat.not_le.mp fun q => hin (Or.inr q)
  exact W.aald (v := va_rf (some (g.2.2.1 (R a i.toNatClampNeg)))) (ty := .array .int) K.1.1 K.1.2.1 (hw.1 a _ h1) ((K.2.2.2.1.2 6 _ rfl).1 n (fun j => va_rf (some (g.2.2.1 (R a j))))) rfl (fun q => by cases q) (by show ¬ (i < 0 ∨ (arrV _ _ _).slots.size ≤ _); rw [arrV_size]; exact hin) (by show (arrV _ _ _).slots[_]? = _; rw [arrV_read _ _ hlt]) rfl rfl hd (kk H locs ls hw h)
def cpI (T : Mm) (a b n : Nat) : Mm := (fun x j => if x = b ∧ j < n then T.1 a j else T.1 x j, T.2)
def cpJ (T : Mm) (a b n : Nat) : Mm := (T.1, fun x j => if x = b ∧ j < n then T.2 a j else T.2 x j)
theorem z_cpI {a b c n idx : Nat} (K : Ok X g l cc own nL ret rm) (hm : Cond.methodLink own idx arraycopyName ∈ gtb) (hnat : Cond.native arraycopyName ∈ gtb) (hsta : Cond.static arraycopyName ∈ gtb) (hini : Cond.initialized "java/lang/System" ∈ gtb) (hk : kd g a = c) (hb : kd g b = c) (hc : c / 10000 = 2) (hn : c % 10000 = n) (h9 : Nat.beq c 999 = false) {q : Int32} (hq : q.toNatClampNeg = n) (hq0 : ¬ q < 0) (hf : 1 ≤ rm.frames) (hlo : (st.map fun v => v.category).sum + (nativeFrameWords "java/lang/System" "arraycopy" 5 + 11) ≤ rm.locals) (hd : decode cc pc = .ok (.invokestatic idx, 3)) (kk : Zj X g nL Q R (cpI T a b n) lv st (pc + 3)) : Zj X g nL Q R T lv (.int q :: .int 0 :: .ref (g.2.2.1 b) :: .int 0 :: .ref (g.2.2.1 a) :: st) pc := by
  intro H locs ls hw h
  have hi := kd_lt hb h9
  have h1 := ws_at (g := g) (R := R) (T := T) (kd_lt hk h9)
  have h2 := ws_at (g := g) (R := R) (T := T) hi
  rw [ce_I (e := 1) hk hc rfl rfl hn] at h1
  rw [ce_I (e := 1) hb hc rfl rfl hn] at h2
  have hz : (0 : Int32).toNatClampNeg = 0 := rfl
  refine va_copyi (ty := .int) K.1.1 K.1.2.1 (K.1.2.2.1.trans h.1.symm) K.1.2.2.2.1 (K.ts hm) (K.ts hnat) (K.ts hsta) (K.ts hini) K.2.2.2.1 hw.1 hw.2.1 hw.2.2.1 a b 1 1 h1 h2 rfl rfl rfl (by decide) (by decide) hq0 (by rw [hz, hq]; omega) (by rw [hz, hq]; omega) (fun _ _ => rfl) (by rw [K.2.2.2.2.1]; exact hf) (by rw [K.2.2.2.2.1]; exact hlo) hd (fun H1 locs1 hP hD hS => ?_)
  have hout : ∀ j, j ≠ b → ce g R (cpI T a b n) j = ce g R T j := fun j hj => ce_out (T := T) (T' := cpI T a b n) (funext fun k => by show (if j = b ∧ k < n then T.1 a k else T.1 j k) = T.1 j k; rw [if_neg (fun z => hj z.1)]) rfl rfl
  refine kk H1 locs1 ls (wo_set (R := R) (T := T) hi ?_ hout hw.2.2.2 hP hD hS) h
  rw [ce_I (e := 1) hb hc rfl rfl hn, hz, hq]
  congr 4
  funext k
  show (if b = b ∧ k < n then T.1 a k else T.1 b k) = va_cpy (T.1 a) (T.1 b) 0 0 n k
  unfold va_cpy
  by_cases hkn : k < n
  · rw [if_pos ⟨rfl, hkn⟩, if_pos ⟨Nat.zero_le _, by omega⟩, Nat.sub_zero, Nat.zero_add]
  · rw [if_neg (fun z => hkn z.2), if_neg (fun z => hkn (by omega))]
theorem z_cpJ {a b c n idx : Nat} (K : Ok X g l cc own nL ret rm) (hm : Cond.methodLink own idx arraycopyName ∈ gtb) (hnat : Cond.native arraycopyName ∈ gtb) (hsta : Cond.static arraycopyName ∈ gtb) (hini : Cond.initialized "java/lang/System" ∈ gtb) (hk : kd g a = c) (hb : kd g b = c) (hc : c / 10000 = 3) (hn : c % 10000 = n) (h9 : Nat.beq c 999 = false) {q : Int32} (hq : q.toNatClampNeg = n) (hq0 : ¬ q < 0) (hf : 1 ≤ rm.frames) (hlo : (st.map fun v => v.category).sum + (nativeFrameWords "java/lang/System" "arraycopy" 5 + 11) ≤ rm.locals) (hd : decode cc pc = .ok (.invokestatic idx, 3)) (kk : Zj X g nL Q R (cpJ T a b n) lv st (pc + 3)) : Zj X g nL Q R T lv (.int q :: .int 0 :: .ref (g.2.2.1 b) :: .int 0 :: .ref (g.2.2.1 a) :: st) pc := by
  intro H locs ls hw h
  have hi := kd_lt hb h9
  have h1 := ws_at (g := g) (R := R) (T := T) (kd_lt hk h9)
  have h2 := ws_at (g := g) (R := R) (T := T) hi
  rw [ce_J hk hc hn] at h1
  rw [ce_J hb hc hn] at h2
  have hz : (0 : Int32).toNatClampNeg = 0 := rfl
  refine va_copyl (ty := .long) K.1.1 K.1.2.1 (K.1.2.2.1.trans h.1.symm) K.1.2.2.2.1 (K.ts hm) (K.ts hnat) (K.ts hsta) (K.ts hini) K.2.2.2.1 hw.1 hw.2.1 hw.2.2.1 a b 2 2 h1 h2 rfl rfl rfl (by decide) (by decide) hq0 (by rw [hz, hq]; omega) (by rw [hz, hq]; omega) (fun _ _ => rfl) (by rw [K.2.2.2.2.1]; exact hf) (by rw [K.2.2.2.2.1]; exact hlo) hd (fun H1 locs1 hP hD hS => ?_)
  have hout : ∀ j, j ≠ b → ce g R (cpJ T a b n) j = ce g R T j := fun j hj => ce_out (T := T) (T' := cpJ T a b n) rfl (funext fun k => by show (if j = b ∧ k < n then T.2 a k else T.2 j k) = T.2 j k; rw [if_neg (fun z => hj z.1)]) rfl
  refine kk H1 locs1 ls (wo_set (R := R) (T := T) hi ?_ hout hw.2.2.2 hP hD hS) h
  rw [ce_J hb hc hn, hz, hq]
  congr 5
  funext k
  show (if b = b ∧ k < n then T.2 a k else T.2 b k) = va_cpy (T.2 a) (T.2 b) 0 0 n k
  unfold va_cpy
  by_cases hkn : k < n
  · rw [if_pos ⟨rfl, hkn⟩, if_pos ⟨Nat.zero_le _, by omega⟩, Nat.sub_zero, Nat.zero_add]
  · rw [if_neg (fun z => hkn z.2), if_neg (fun z => hkn (by omega))]
end ZR
