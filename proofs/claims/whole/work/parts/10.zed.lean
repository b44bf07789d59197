/-! THE ABSTRACT LAYER: all cells by numbers (ids), their contents as three functions (ints, longs, references), and a judgement Zj over them -/
abbrev Rf : Type := Nat → Nat → Nat
abbrev Mm : Type := (Nat → Nat → Int32) × (Nat → Nat → Int64)
abbrev Gl : Type := va_G × (Nat → ClassId) × (Nat → Nat) × List Nat × (State → Prop)
abbrev Cx : Type := Program × Launch × Env × Room × State × MethodId × Array Value × List Frame × Method × Code × Nat × Nat × (Nat → Prop)
def kdL : List Nat := [11, 10, 20940, 20941, 20941, 20941, 30941, 30024, 1, 20005, 1, 20005, 7, 50008, 1, 20005, 1, 20005, 1, 20005, 1, 20005, 1, 20005, 1, 20005, 1, 20005, 1, 20005, 0, 20040, 20040, 6, 20010, 4, 70005, 20031, 20031, 20031, 20031, 20031, 2, 9, 20016, 60002, 5, 3, 20005, 30005, 30010, 20010, 20010, 20016, 20016, 20016, 1, 20005, 8, 20040, 20040, 20040, 5, 3, 20005, 30005, 30010, 20010, 20010, 20016, 20016, 20016, 1, 20005, 8, 20040, 20040, 20040, 20004, 3, 20005, 30005, 30010, 20010, 20010, 20016, 20016, 20016, 3, 20005, 30005, 30010, 20010, 20010, 20016, 20016, 20016, 8, 20040, 20040, 20040, 8, 20040, 20040, 20040, 12, 10940, 20270, 20080, 20135, 30030, 30024, 20072, 20009, 20006, 40031, 20011, 10024, 20004, 20045, 40045, 20540, 30030, 40002, 30001]
def ft (c : Nat) : List Nat := match c with
  | 0 => [0, 0, 2, 2]
  | 1 => [0, 0, 0, 0, 2]
  | 2 => [0]
  | 3 => [0, 0, 0, 0, 0, 2, 2, 2, 2, 2, 2, 2, 2, 0, 0, 0]
  | 4 => [2]
  | 5 => [0, 2, 2, 2]
  | 6 => [2]
  | 7 => [0, 0, 2]
  | 8 => [0, 0, 2, 2, 2]
  | 9 => [2, 0]
  | 10 => [2, 0, 0, 0, 0, 0, 0, 2, 2, 2, 2, 2]
  | 11 => [2, 2, 2, 2, 2, 2, 2, 2, 2, 2, 2, 2, 2, 2, 2, 0, 0, 0, 0, 0]
  | 12 => [0, 2, 0, 0, 0, 0, 2, 2, 2, 2, 2, 0, 0, 0, 0, 0, 0, 1, 0, 0, 0, 2, 2, 0, 0, 0, 0, 0, 2, 0, 0, 0, 2, 2, 2, 0, 0, 0, 2, 0, 2, 0, 0, 0, 0, 0, 2, 2, 2, 2]
  | _ => []
def rkL (c : Nat) : List Nat := match c with
  | 0 => [999, 999, 20040, 20040]
  | 1 => [999, 999, 999, 999, 20005]
  | 2 => [999]
  | 3 => [999, 999, 999, 999, 999, 20005, 30005, 30010, 20010, 20010, 20016, 20016, 20016, 999, 999, 999]
  | 4 => [70005]
  | 5 => [999, 3, 1, 8]
  | 6 => [20010]
  | 7 => [999, 999, 50008]
  | 8 => [999, 999, 20040, 20040, 20040]
  | 9 => [20016, 999]
  | 10 => [20940, 999, 999, 999, 999, 999, 999, 20941, 20941, 20941, 30941, 30024]
  | 11 => [10, 1, 1, 7, 0, 6, 4, 2, 9, 60002, 20004, 3, 3, 8, 8, 999, 999, 999, 999, 999]
  | 12 => [999, 10940, 999, 999, 999, 999, 20270, 20080, 20135, 30030, 30024, 999, 999, 999, 999, 999, 999, 999, 999, 999, 999, 20072, 20009, 999, 999, 999, 999, 999, 20006, 999, 999, 999, 40031, 20011, 10024, 999, 999, 999, 20004, 999, 20045, 999, 999, 999, 999, 999, 40045, 20540, 30030, 40002]
  | _ => []
def kd (g : Gl) (i : Nat) : Nat := g.2.2.2.1.getD i 999
def rk (k j : Nat) : Nat := if k < 13 then (rkL k).getD j 999 else if k = 50008 then 1 else if k = 60002 then 5 else if k = 70005 then 20031 else 999
def Ty (g : Gl) (R : Rf) : Prop := ∀ i k : Nat, rk (kd g i) k ≠ 999 → kd g (R i k) = rk (kd g i) k
theorem Ty.at {g : Gl} {R : Rf} (h : Ty g R) {a k c t : Nat} (hk : kd g a = c) (ht : rk c k = t) (hn : Nat.beq t 999 = false) : kd g (R a k) = t := by
  subst hk
  subst ht
  exact h a k (Nat.ne_of_beq_eq_false hn)
def fv (g : Gl) (R : Rf) (T : Mm) (i t k : Nat) : Value := if t = 0 then .int (T.1 i k) else if t = 1 then .long (T.2 i k) else .ref (g.2.2.1 (R i k))
def fl (g : Gl) (R : Rf) (T : Mm) (i : Nat) : List Nat → Nat → List Value
  | [], _ => []
  | t :: ts, k => fv g R T i t k :: fl g R T i ts (k + 1)
theorem fl_at {g : Gl} {R : Rf} {T : Mm} {i : Nat} : ∀ (ts : List Nat) (k j t : Nat), ts[j]? = some t → (fl g R T i ts k)[j]? = some (fv g R T i t (k + j))
  | [], _, _, _, h => by simp at h
  | t :: ts, k, 0, u, h => by
    simp at h
    subst h
    rfl
  | t :: ts, k, j + 1, u, h => by
    have h1 : ts[j]? = some u := by simpa using h
    have h2 := fl_at (g := g) (R := R) (T := T) (i := i) ts (k + 1) j u h1
    show (fl g R T i ts (k + 1))[j]? = _
    rw [h2, show k + 1 + j = k + (j + 1) by omega]
theorem fl_len {g : Gl} {R : Rf} {T : Mm} {i : Nat} : ∀ (ts : List Nat) (k : Nat), (fl g R T i ts k).length = ts.length
  | [], _ => rfl
  | t :: ts, k => by
    show (fl g R T i ts (k + 1)).length + 1 = _
    rw [fl_len ts (k + 1)]
    rfl
def ce (g : Gl) (R : Rf) (T : Mm) (i : Nat) : va_E :=
  if kd g i < 13 then .inr (kd g i, fl g R T i (ft (kd g i)) 0)
  else if kd g i / 10000 = 3 then .inl (g.2.1 2, kd g i % 10000, .inr (.inl (T.2 i)))
  else if kd g i / 10000 ≤ 4 then .inl (g.2.1 (kd g i / 10000 - 1), kd g i % 10000, .inl (T.1 i))
  else .inl (g.2.1 (kd g i / 10000 - 1), kd g i % 10000, .inr (.inr (.inr (.inr (fun j => some (g.2.2.1 (R i j)))))))
def wsOf (g : Gl) (R : Rf) (T : Mm) : va_W := (List.range g.2.2.2.1.length).map (fun i => (g.2.2.1 i, ce g R T i))
def Aw (g : Gl) : Nat → Prop := fun q => ∃ i : Nat, i < g.2.2.2.1.length ∧ q = g.2.2.1 i
/-- what else holds (of constants, of statics): kept while no cell outside the world changes -/
def Kp (g : Gl) : Prop := (∀ s U : State, s.WarmedH U.vm → (∀ q : Nat, q < s.heap.size → ¬ Aw g q → U.heap[q]? = s.heap[q]?) → g.2.2.2.2 s → g.2.2.2.2 U) ∧ ∀ s U : State, U.vm = s.vm → U.heap = s.heap → g.2.2.2.2 s → g.2.2.2.2 U
theorem awD {g : Gl} {R : Rf} {T : Mm} {A : Nat → Prop} (h : va_D A (wsOf g R T)) : va_D (Aw g) (wsOf g R T) := by
  refine ⟨h.1, fun k q hq => ?_⟩
  unfold wsOf at hq
  rw [List.getElem?_map] at hq
  obtain ⟨i, hi, e⟩ := Option.map_eq_some_iff.mp hq
  rw [← e]
  obtain ⟨h1, h2⟩ := List.getElem?_eq_some_iff.mp hi
  refine ⟨i, ?_, rfl⟩
  rw [← h2]
  simp at h1 ⊢
  exact h1
def tyL (cy : Nat → ClassId) : List (ClassId × FieldType) := [(cy 0, .byte), (cy 1, .int), (cy 2, .long), (cy 3, .boolean), (cy 4, .object "GoingOver$Course"), (cy 5, .object "GoingOver$Image"), (cy 6, .array .int)]
theorem kd_lt {g : Gl} {i c : Nat} (h : kd g i = c) (hc : Nat.beq c 999 = false) : i < g.2.2.2.1.length := by
  rcases Nat.lt_or_ge i g.2.2.2.1.length with q | q
  · exact q
  · exfalso
    have : kd g i = 999 := by
      unfold kd
      rw [List.getD_eq_getElem?_getD, List.getElem?_eq_none (q)]
      rfl
    rw [this] at h
    exact Nat.ne_of_beq_eq_false hc h.symm
theorem ws_at {g : Gl} {R : Rf} {T : Mm} {i : Nat} (h : i < g.2.2.2.1.length) : (wsOf g R T)[i]? = some (g.2.2.1 i, ce g R T i) := by
  unfold wsOf
  rw [List.getElem?_map, List.getElem?_range h]
  rfl
theorem ws_set {g : Gl} {R R' : Rf} {T T' : Mm} {i : Nat} {e : va_E} (hi : i < g.2.2.2.1.length) (h1 : ce g R' T' i = e) (h2 : ∀ j, j ≠ i → ce g R' T' j = ce g R T j) : (wsOf g R T).set i (g.2.2.1 i, e) = wsOf g R' T' := by
  apply List.ext_getElem?
  intro j
  rw [List.getElem?_set]
  by_cases hj : i = j
  · subst hj
    rw [if_pos rfl, if_pos (by simp [wsOf]; exact hi), ws_at hi, h1]
  · rw [if_neg hj]
    unfold wsOf
    rw [List.getElem?_map, List.getElem?_map]
    by_cases hl : j < g.2.2.2.1.length
    · rw [List.getElem?_range hl]
      show some (g.2.2.1 j, ce g R T j) = some (g.2.2.1 j, ce g R' T' j)
      rw [h2 j (fun q => hj q.symm)]
    · rw [List.getElem?_eq_none (by simp; omega)]
      rfl
theorem ce_obj {g : Gl} {R : Rf} {T : Mm} {i c : Nat} (hk : kd g i = c) (hc : Nat.blt c 13 = true) : ce g R T i = .inr (c, fl g R T i (ft c) 0) := by
  unfold ce
  rw [hk, if_pos (Nat.blt_eq.mp hc)]
theorem ce_J {g : Gl} {R : Rf} {T : Mm} {i c n : Nat} (hk : kd g i = c) (hc : c / 10000 = 3) (hn : c % 10000 = n) : ce g R T i = .inl (g.2.1 2, n, .inr (.inl (T.2 i))) := by
  unfold ce
  rw [hk, if_neg (by omega), if_pos hc, hn]
theorem ce_I {g : Gl} {R : Rf} {T : Mm} {i c n e : Nat} (hk : kd g i = c) (hc : c / 10000 = e + 1) (he : Nat.beq e 2 = false) (he4 : Nat.blt e 4 = true) (hn : c % 10000 = n) : ce g R T i = .inl (g.2.1 e, n, .inl (T.1 i)) := by
  have h1 := Nat.ne_of_beq_eq_false he
  have h2 := Nat.blt_eq.mp he4
  unfold ce
  rw [hk, if_neg (by omega), if_neg (by omega), if_pos (by omega), hn, hc]
  rfl
theorem ce_R {g : Gl} {R : Rf} {T : Mm} {i c n e : Nat} (hk : kd g i = c) (hc : c / 10000 = e + 1) (he4 : Nat.ble 4 e = true) (hn : c % 10000 = n) : ce g R T i = .inl (g.2.1 e, n, .inr (.inr (.inr (.inr (fun j => some (g.2.2.1 (R i j))))))) := by
  have h2 := Nat.le_of_ble_eq_true he4
  unfold ce
  rw [hk, if_neg (by omega), if_neg (by omega), if_neg (by omega), hn, hc]
  rfl
def up2 {α : Type} (f : Nat → Nat → α) (a k : Nat) (v : α) : Nat → Nat → α := fun b j => if b = a ∧ j = k then v else f b j
theorem up2_s {α : Type} {f : Nat → Nat → α} {a k : Nat} {v : α} : up2 f a k v a k = v := by simp [up2]
theorem up2_n {α : Type} {f : Nat → Nat → α} {a k b j : Nat} {v : α} (h : b ≠ a ∨ j ≠ k) : up2 f a k v b j = f b j := by
  unfold up2
  rw [if_neg (by rintro ⟨rfl, rfl⟩; rcases h with h | h <;> exact h rfl)]
theorem up2_row {α : Type} {f : Nat → Nat → α} {a k b : Nat} {v : α} (h : b ≠ a) : up2 f a k v b = f b := funext fun _ => up2_n (Or.inl h)
def wI (T : Mm) (a k : Nat) (v : Int32) : Mm := (up2 T.1 a k v, T.2)
def wJ (T : Mm) (a k : Nat) (v : Int64) : Mm := (T.1, up2 T.2 a k v)
theorem fl_I {g : Gl} {R : Rf} {T : Mm} {i k : Nat} {v : Int32} : ∀ (ts : List Nat) (k0 j : Nat), k = k0 + j → ts[j]? = some 0 → fl g R (wI T i k v) i ts k0 = (fl g R T i ts k0).set j (.int v)
  | [], _, _, _, h => by simp at h
  | t :: ts, k0, 0, e, h => by
    simp at h e
    subst h
    subst e
    have key : ∀ (us : List Nat) (q : Nat), k < q → fl g R (wI T i k v) i us q = fl g R T i us q := by
      intro us
      induction us with
      | nil => intro q _; rfl
      | cons u us ih =>
        intro q hq
        show fv g R (wI T i k v) i u q :: _ = fv g R T i u q :: _
        rw [ih (q + 1) (by omega)]
        congr 1
        unfold fv wI
        simp only [up2_n (f := T.1) (v := v) (Or.inr (show q ≠ k by omega) : i ≠ i ∨ q ≠ k)]
    show fv g R (wI T i k v) i 0 k :: fl g R (wI T i k v) i ts (k + 1) = .int v :: fl g R T i ts (k + 1)
    rw [key ts (k + 1) (by omega)]
    congr 1
    unfold fv wI
    simp [up2_s]
  | t :: ts, k0, j + 1, e, h => by
    have h1 : ts[j]? = some 0 := by simpa using h
    have h2 := fl_I (g := g) (R := R) (T := T) (i := i) (k := k) (v := v) ts (k0 + 1) j (by omega) h1
    show fv g R (wI T i k v) i t k0 :: fl g R (wI T i k v) i ts (k0 + 1) = fv g R T i t k0 :: (fl g R T i ts (k0 + 1)).set j (.int v)
    rw [h2]
    congr 1
    unfold fv wI
    simp only [up2_n (f := T.1) (v := v) (Or.inr (show k0 ≠ k by omega) : i ≠ i ∨ k0 ≠ k)]
theorem fl_J {g : Gl} {R : Rf} {T : Mm} {i k : Nat} {v : Int64} : ∀ (ts : List Nat) (k0 j : Nat), k = k0 + j → ts[j]? = some 1 → fl g R (wJ T i k v) i ts k0 = (fl g R T i ts k0).set j (.long v)
  | [], _, _, _, h => by simp at h
  | t :: ts, k0, 0, e, h => by
    simp at h e
    subst h
    subst e
    have key : ∀ (us : List Nat) (q : Nat), k < q → fl g R (wJ T i k v) i us q = fl g R T i us q := by
      intro us
      induction us with
      | nil => intro q _; rfl
      | cons u us ih =>
        intro q hq
        show fv g R (wJ T i k v) i u q :: _ = fv g R T i u q :: _
        rw [ih (q + 1) (by omega)]
        congr 1
        unfold fv wJ
        simp only [up2_n (f := T.2) (v := v) (Or.inr (show q ≠ k by omega) : i ≠ i ∨ q ≠ k)]
    show fv g R (wJ T i k v) i 1 k :: fl g R (wJ T i k v) i ts (k + 1) = .long v :: fl g R T i ts (k + 1)
    rw [key ts (k + 1) (by omega)]
    congr 1
    unfold fv wJ
    simp [up2_s]
  | t :: ts, k0, j + 1, e, h => by
    have h1 : ts[j]? = some 1 := by simpa using h
    have h2 := fl_J (g := g) (R := R) (T := T) (i := i) (k := k) (v := v) ts (k0 + 1) j (by omega) h1
    show fv g R (wJ T i k v) i t k0 :: fl g R (wJ T i k v) i ts (k0 + 1) = fv g R T i t k0 :: (fl g R T i ts (k0 + 1)).set j (.long v)
    rw [h2]
    congr 1
    unfold fv wJ
    simp only [up2_n (f := T.2) (v := v) (Or.inr (show k0 ≠ k by omega) : i ≠ i ∨ k0 ≠ k)]
theorem fl_R {g : Gl} {R : Rf} {T : Mm} {i k b : Nat} : ∀ (ts : List Nat) (k0 j : Nat), k = k0 + j → ts[j]? = some 2 → fl g (up2 R i k b) T i ts k0 = (fl g R T i ts k0).set j (.ref (g.2.2.1 b))
  | [], _, _, _, h => by simp at h
  | t :: ts, k0, 0, e, h => by
    simp at h e
    subst h
    subst e
    have key : ∀ (us : List Nat) (q : Nat), k < q → fl g (up2 R i k b) T i us q = fl g R T i us q := by
      intro us
      induction us with
      | nil => intro q _; rfl
      | cons u us ih =>
        intro q hq
        show fv g (up2 R i k b) T i u q :: _ = fv g R T i u q :: _
        rw [ih (q + 1) (by omega)]
        congr 1
        unfold fv
        simp only [up2_n (f := R) (v := b) (Or.inr (show q ≠ k by omega) : i ≠ i ∨ q ≠ k)]
    show fv g (up2 R i k b) T i 2 k :: fl g (up2 R i k b) T i ts (k + 1) = .ref (g.2.2.1 b) :: fl g R T i ts (k + 1)
    rw [key ts (k + 1) (by omega)]
    congr 1
    unfold fv
    simp [up2_s]
  | t :: ts, k0, j + 1, e, h => by
    have h1 : ts[j]? = some 2 := by simpa using h
    have h2 := fl_R (g := g) (R := R) (T := T) (i := i) (k := k) (b := b) ts (k0 + 1) j (by omega) h1
    show fv g (up2 R i k b) T i t k0 :: fl g (up2 R i k b) T i ts (k0 + 1) = fv g R T i t k0 :: (fl g R T i ts (k0 + 1)).set j (.ref (g.2.2.1 b))
    rw [h2]
    congr 1
    unfold fv
    simp only [up2_n (f := R) (v := b) (Or.inr (show k0 ≠ k by omega) : i ≠ i ∨ k0 ≠ k)]
theorem fl_out {g : Gl} {R R' : Rf} {T T' : Mm} {j : Nat} (h1 : T'.1 j = T.1 j) (h2 : T'.2 j = T.2 j) (h3 : R' j = R j) : ∀ (ts : List Nat) (k : Nat), fl g R' T' j ts k = fl g R T j ts k
  | [], _ => rfl
  | t :: ts, k => by
    show fv g R' T' j t k :: _ = fv g R T j t k :: _
    rw [fl_out h1 h2 h3 ts (k + 1)]
    unfold fv
    rw [h1, h2, h3]
theorem ce_out {g : Gl} {R R' : Rf} {T T' : Mm} {j : Nat} (h1 : T'.1 j = T.1 j) (h2 : T'.2 j = T.2 j) (h3 : R' j = R j) : ce g R' T' j = ce g R T j := by
  unfold ce
  rw [fl_out h1 h2 h3, h1, h2, h3]
/-! pure words -/
def inb (i : Int32) (n : Nat) : Bool := !(decide (i < 0)) && decide (i.toNatClampNeg < n)
def ix {ρ : Type} (i : Int32) (n : Nat) (k : Option ρ) : Option ρ := if inb i n = true then k else none
theorem ix_e {ρ : Type} {i : Int32} {n : Nat} {k : Option ρ} {r : ρ} (h : ix i n k = some r) : vp_in i n ∧ k = some r := by
  unfold ix at h
  by_cases c : inb i n = true
  · rw [if_pos c] at h
    refine ⟨?_, h⟩
    simp [inb] at c
    rintro (q | q)
    · exact absurd q (by simpa using c.1)
    · omega
  · rw [if_neg c] at h
    cases h
def nz {ρ : Type} (y : Int32) (k : Option ρ) : Option ρ := if y = 0 then none else k
theorem nz_e {ρ : Type} {y : Int32} {k : Option ρ} {r : ρ} (h : nz y k = some r) : ¬ y = 0 ∧ k = some r := by
  unfold nz at h
  by_cases c : y = 0
  · rw [if_pos c] at h
    cases h
  · rw [if_neg c] at h
    exact ⟨c, h⟩
def bz {ρ : Type} (v : Int32) (k : Option ρ) : Option ρ := if v = 0 ∨ v = 1 then k else none
theorem bz_e {ρ : Type} {v : Int32} {k : Option ρ} {r : ρ} (h : bz v k = some r) : narrow .boolean (.int v) = .int v ∧ fits .boolean (.int v) = true ∧ k = some r := by
  unfold bz at h
  by_cases c : v = 0 ∨ v = 1
  · rw [if_pos c] at h
    rcases c with rfl | rfl
    · exact ⟨rfl, rfl, h⟩
    · exact ⟨rfl, rfl, h⟩
  · rw [if_neg c] at h
    cases h
def bd1 {α ρ : Type} (x : Option α) (k : α → Option ρ) : Option ρ := match x with
  | none => none
  | some a => k a
def bd2 {α β ρ : Type} (x : Option (α × β)) (k : α → β → Option ρ) : Option ρ := match x with
  | none => none
  | some (a, b) => k a b
theorem bd1_e {α ρ : Type} {x : Option α} {k : α → Option ρ} {r : ρ} (h : bd1 x k = some r) : ∃ a, x = some a ∧ k a = some r := by
  cases x with
  | none => cases h
  | some a => exact ⟨a, rfl, h⟩
theorem bd2_e {α β ρ : Type} {x : Option (α × β)} {k : α → β → Option ρ} {r : ρ} (h : bd2 x k = some r) : ∃ a b, x = some (a, b) ∧ k a b = some r := by
  cases x with
  | none => cases h
  | some a => exact ⟨a.1, a.2, rfl, h⟩
theorem ite_t {c : Prop} [Decidable c] {ρ : Type} {a b : Option ρ} {r : ρ} (h : (if c then a else b) = some r) (hc : c) : a = some r := by rwa [if_pos hc] at h
theorem ite_f {c : Prop} [Decidable c] {ρ : Type} {a b : Option ρ} {r : ρ} (h : (if c then a else b) = some r) (hc : ¬ c) : b = some r := by rwa [if_neg hc] at h
theorem ite_or {c : Prop} [Decidable c] {ρ : Type} {a b : Option ρ} {r : ρ} (h : (if c then a else b) = some r) : (c ∧ a = some r) ∨ (¬ c ∧ b = some r) := by
  by_cases hc : c
  · exact Or.inl ⟨hc, ite_t h hc⟩
  · exact Or.inr ⟨hc, ite_f h hc⟩
theorem ite_tN {c : Prop} [Decidable c] {ρ : Type} {a b : Option ρ} {r : ρ} (h : (if c then a else b) = some r) (hc : ¬ ¬ c) : a = some r := ite_t h (Decidable.not_not.mp hc)
/-- a local join: its body has a name -/
abbrev jn {α ρ : Type} (b : α) (k : α → Option ρ) : Option ρ := k b
abbrev lt {α ρ : Type} (e : α) (k : α → Option ρ) : Option ρ := k e
def FU : Nat := 1000000
def zl0 {ρ : Type} (f : (Option ρ) → Option ρ) : Nat → Option ρ
  | 0 => none
  | n + 1 => f (zl0 f n)
theorem zl0_s {ρ : Type} {f : (Option ρ) → Option ρ} {n : Nat} : zl0 f (n + 1) = f (zl0 f n) := rfl
def zl1 {A0 ρ : Type} (f : (A0 → Option ρ) → A0 → Option ρ) : Nat → A0 → Option ρ
  | 0, _ => none
  | n + 1, a0 => f (zl1 f n) a0
theorem zl1_s {A0 ρ : Type} {f : (A0 → Option ρ) → A0 → Option ρ} {n : Nat} {a0 : A0} : zl1 f (n + 1) a0 = f (zl1 f n) a0 := rfl
def zl2 {A0 A1 ρ : Type} (f : (A0 → A1 → Option ρ) → A0 → A1 → Option ρ) : Nat → A0 → A1 → Option ρ
  | 0, _, _ => none
  | n + 1, a0, a1 => f (zl2 f n) a0 a1
theorem zl2_s {A0 A1 ρ : Type} {f : (A0 → A1 → Option ρ) → A0 → A1 → Option ρ} {n : Nat} {a0 : A0} {a1 : A1} : zl2 f (n + 1) a0 a1 = f (zl2 f n) a0 a1 := rfl
def zl3 {A0 A1 A2 ρ : Type} (f : (A0 → A1 → A2 → Option ρ) → A0 → A1 → A2 → Option ρ) : Nat → A0 → A1 → A2 → Option ρ
  | 0, _, _, _ => none
  | n + 1, a0, a1, a2 => f (zl3 f n) a0 a1 a2
theorem zl3_s {A0 A1 A2 ρ : Type} {f : (A0 → A1 → A2 → Option ρ) → A0 → A1 → A2 → Option ρ} {n : Nat} {a0 : A0} {a1 : A1} {a2 : A2} : zl3 f (n + 1) a0 a1 a2 = f (zl3 f n) a0 a1 a2 := rfl
def zl4 {A0 A1 A2 A3 ρ : Type} (f : (A0 → A1 → A2 → A3 → Option ρ) → A0 → A1 → A2 → A3 → Option ρ) : Nat → A0 → A1 → A2 → A3 → Option ρ
  | 0, _, _, _, _ => none
  | n + 1, a0, a1, a2, a3 => f (zl4 f n) a0 a1 a2 a3
theorem zl4_s {A0 A1 A2 A3 ρ : Type} {f : (A0 → A1 → A2 → A3 → Option ρ) → A0 → A1 → A2 → A3 → Option ρ} {n : Nat} {a0 : A0} {a1 : A1} {a2 : A2} {a3 : A3} : zl4 f (n + 1) a0 a1 a2 a3 = f (zl4 f n) a0 a1 a2 a3 := rfl
def zl5 {A0 A1 A2 A3 A4 ρ : Type} (f : (A0 → A1 → A2 → A3 → A4 → Option ρ) → A0 → A1 → A2 → A3 → A4 → Option ρ) : Nat → A0 → A1 → A2 → A3 → A4 → Option ρ
  | 0, _, _, _, _, _ => none
  | n + 1, a0, a1, a2, a3, a4 => f (zl5 f n) a0 a1 a2 a3 a4
theorem zl5_s {A0 A1 A2 A3 A4 ρ : Type} {f : (A0 → A1 → A2 → A3 → A4 → Option ρ) → A0 → A1 → A2 → A3 → A4 → Option ρ} {n : Nat} {a0 : A0} {a1 : A1} {a2 : A2} {a3 : A3} {a4 : A4} : zl5 f (n + 1) a0 a1 a2 a3 a4 = f (zl5 f n) a0 a1 a2 a3 a4 := rfl
def zl6 {A0 A1 A2 A3 A4 A5 ρ : Type} (f : (A0 → A1 → A2 → A3 → A4 → A5 → Option ρ) → A0 → A1 → A2 → A3 → A4 → A5 → Option ρ) : Nat → A0 → A1 → A2 → A3 → A4 → A5 → Option ρ
  | 0, _, _, _, _, _, _ => none
  | n + 1, a0, a1, a2, a3, a4, a5 => f (zl6 f n) a0 a1 a2 a3 a4 a5
theorem zl6_s {A0 A1 A2 A3 A4 A5 ρ : Type} {f : (A0 → A1 → A2 → A3 → A4 → A5 → Option ρ) → A0 → A1 → A2 → A3 → A4 → A5 → Option ρ} {n : Nat} {a0 : A0} {a1 : A1} {a2 : A2} {a3 : A3} {a4 : A4} {a5 : A5} : zl6 f (n + 1) a0 a1 a2 a3 a4 a5 = f (zl6 f n) a0 a1 a2 a3 a4 a5 := rfl
def zl7 {A0 A1 A2 A3 A4 A5 A6 ρ : Type} (f : (A0 → A1 → A2 → A3 → A4 → A5 → A6 → Option ρ) → A0 → A1 → A2 → A3 → A4 → A5 → A6 → Option ρ) : Nat → A0 → A1 → A2 → A3 → A4 → A5 → A6 → Option ρ
  | 0, _, _, _, _, _, _, _ => none
  | n + 1, a0, a1, a2, a3, a4, a5, a6 => f (zl7 f n) a0 a1 a2 a3 a4 a5 a6
theorem zl7_s {A0 A1 A2 A3 A4 A5 A6 ρ : Type} {f : (A0 → A1 → A2 → A3 → A4 → A5 → A6 → Option ρ) → A0 → A1 → A2 → A3 → A4 → A5 → A6 → Option ρ} {n : Nat} {a0 : A0} {a1 : A1} {a2 : A2} {a3 : A3} {a4 : A4} {a5 : A5} {a6 : A6} : zl7 f (n + 1) a0 a1 a2 a3 a4 a5 a6 = f (zl7 f n) a0 a1 a2 a3 a4 a5 a6 := rfl
def zl8 {A0 A1 A2 A3 A4 A5 A6 A7 ρ : Type} (f : (A0 → A1 → A2 → A3 → A4 → A5 → A6 → A7 → Option ρ) → A0 → A1 → A2 → A3 → A4 → A5 → A6 → A7 → Option ρ) : Nat → A0 → A1 → A2 → A3 → A4 → A5 → A6 → A7 → Option ρ
  | 0, _, _, _, _, _, _, _, _ => none
  | n + 1, a0, a1, a2, a3, a4, a5, a6, a7 => f (zl8 f n) a0 a1 a2 a3 a4 a5 a6 a7
theorem zl8_s {A0 A1 A2 A3 A4 A5 A6 A7 ρ : Type} {f : (A0 → A1 → A2 → A3 → A4 → A5 → A6 → A7 → Option ρ) → A0 → A1 → A2 → A3 → A4 → A5 → A6 → A7 → Option ρ} {n : Nat} {a0 : A0} {a1 : A1} {a2 : A2} {a3 : A3} {a4 : A4} {a5 : A5} {a6 : A6} {a7 : A7} : zl8 f (n + 1) a0 a1 a2 a3 a4 a5 a6 a7 = f (zl8 f n) a0 a1 a2 a3 a4 a5 a6 a7 := rfl
def zl9 {A0 A1 A2 A3 A4 A5 A6 A7 A8 ρ : Type} (f : (A0 → A1 → A2 → A3 → A4 → A5 → A6 → A7 → A8 → Option ρ) → A0 → A1 → A2 → A3 → A4 → A5 → A6 → A7 → A8 → Option ρ) : Nat → A0 → A1 → A2 → A3 → A4 → A5 → A6 → A7 → A8 → Option ρ
  | 0, _, _, _, _, _, _, _, _, _ => none
  | n + 1, a0, a1, a2, a3, a4, a5, a6, a7, a8 => f (zl9 f n) a0 a1 a2 a3 a4 a5 a6 a7 a8
theorem zl9_s {A0 A1 A2 A3 A4 A5 A6 A7 A8 ρ : Type} {f : (A0 → A1 → A2 → A3 → A4 → A5 → A6 → A7 → A8 → Option ρ) → A0 → A1 → A2 → A3 → A4 → A5 → A6 → A7 → A8 → Option ρ} {n : Nat} {a0 : A0} {a1 : A1} {a2 : A2} {a3 : A3} {a4 : A4} {a5 : A5} {a6 : A6} {a7 : A7} {a8 : A8} : zl9 f (n + 1) a0 a1 a2 a3 a4 a5 a6 a7 a8 = f (zl9 f n) a0 a1 a2 a3 a4 a5 a6 a7 a8 := rfl
def zl10 {A0 A1 A2 A3 A4 A5 A6 A7 A8 A9 ρ : Type} (f : (A0 → A1 → A2 → A3 → A4 → A5 → A6 → A7 → A8 → A9 → Option ρ) → A0 → A1 → A2 → A3 → A4 → A5 → A6 → A7 → A8 → A9 → Option ρ) : Nat → A0 → A1 → A2 → A3 → A4 → A5 → A6 → A7 → A8 → A9 → Option ρ
  | 0, _, _, _, _, _, _, _, _, _, _ => none
  | n + 1, a0, a1, a2, a3, a4, a5, a6, a7, a8, a9 => f (zl10 f n) a0 a1 a2 a3 a4 a5 a6 a7 a8 a9
theorem zl10_s {A0 A1 A2 A3 A4 A5 A6 A7 A8 A9 ρ : Type} {f : (A0 → A1 → A2 → A3 → A4 → A5 → A6 → A7 → A8 → A9 → Option ρ) → A0 → A1 → A2 → A3 → A4 → A5 → A6 → A7 → A8 → A9 → Option ρ} {n : Nat} {a0 : A0} {a1 : A1} {a2 : A2} {a3 : A3} {a4 : A4} {a5 : A5} {a6 : A6} {a7 : A7} {a8 : A8} {a9 : A9} : zl10 f (n + 1) a0 a1 a2 a3 a4 a5 a6 a7 a8 a9 = f (zl10 f n) a0 a1 a2 a3 a4 a5 a6 a7 a8 a9 := rfl

