/-! reading FALLS: what is read (spec), and the class -/
abbrev Pa (α : Type) : Type := Sum (Nat × Nat) α
abbrev paB {α : Type} (k p : Nat) : Pa α := Sum.inl (k, p)
abbrev paO {α : Type} (a : α) : Pa α := Sum.inr a
def paD {α β : Type} (x : Pa α) (f : α → Pa β) : Pa β := Sum.elim (fun e => Sum.inl e) f x
theorem paD_b {α β : Type} {k p : Nat} {f : α → Pa β} : paD (paB k p) f = paB k p := rfl
theorem paD_o {α β : Type} {a : α} {f : α → Pa β} : paD (paO a) f = f a := rfl
def uT {α : Type} (F : Nat → α) (k : Nat) (v : α) : Nat → α := fun j => if j = k then v else F j
theorem uT_s {α : Type} {F : Nat → α} {k : Nat} {v : α} : uT F k v k = v := if_pos rfl
theorem uT_e {α : Type} {F : Nat → α} {k j : Nat} {v : α} (h : j = k) : uT F k v j = v := if_pos h
theorem uT_n {α : Type} {F : Nat → α} {k j : Nat} {v : α} (h : j ≠ k) : uT F k v j = F j := if_neg h
def fnP (F : Nat → Nat) (N : Nat → List Nat) (w : List Nat) : Option Nat := fst (fun p => decide (N p = w)) 0 (F 0)
def fnI (F : Nat → Nat) (N : Nat → List Nat) (w : List Nat) : Option Nat := fst (fun i => decide (N (5 + i) = w)) 0 (F 1)
theorem fnP_lt {F : Nat → Nat} {N : Nat → List Nat} {w : List Nat} {p : Nat} (h : fnP F N w = some p) : p < F 0 := by
  have := (fst_some _ _ _ h).2.1
  omega
theorem fnI_lt {F : Nat → Nat} {N : Nat → List Nat} {w : List Nat} {p : Nat} (h : fnI F N w = some p) : p < F 1 := by
  have := (fst_some _ _ _ h).2.1
  omega
def nuP (b : Nat → Nat) (L M t lo hi : Nat) : Pa Nat := if kkS b L M t = 2 then (if lo ≤ vvS b L t ∧ vvS b L t ≤ hi then paO (vvS b L t) else paB 2 (psS b L M t)) else paB 1 (psS b L M t)
theorem nuP_ok {b : Nat → Nat} {L M t lo hi v : Nat} (h : nuP b L M t lo hi = paO v) : lo ≤ v ∧ v ≤ hi ∧ kkS b L M t ≠ 0 := by
  unfold nuP at h
  by_cases e : kkS b L M t = 2
  · rw [if_pos e] at h
    by_cases e2 : lo ≤ vvS b L t ∧ vvS b L t ≤ hi
    · rw [if_pos e2] at h
      cases h
      exact ⟨e2.1, e2.2, by omega⟩
    · rw [if_neg e2] at h; cases h
  · rw [if_neg e] at h; cases h
def naP (b : Nat → Nat) (L M t : Nat) (o : Option Nat) : Pa Nat := if kkS b L M t = 3 then o.elim (paB 3 (psS b L M t)) paO else paB 1 (psS b L M t)
def neP (b : Nat → Nat) (L M t : Nat) (F : Nat → Nat) (N : Nat → List Nat) : Pa Unit := if kkS b L M t = 3 then (if fnP F N (wwS b L t) = none ∧ fnI F N (wwS b L t) = none then paO () else paB 3 (psS b L M t)) else paB 1 (psS b L M t)
def maP (b : Nat → Nat) (L M t c : Nat) : Pa Unit := if kkS b L M t = 5 ∧ vvS b L t = c then paO () else paB 1 (psS b L M t)
abbrev FSt := (Nat → Nat) × (Nat → List Nat) × Nat
def rF0 (b : Nat → Nat) (L M : Nat) (F : Nat → Nat) (N : Nat → List Nat) (t : Nat) : Pa FSt := if F 80 = 0 then paD (nuP b L M (t + 1) 1 30) fun v => paD (nuP b L M (t + 2) 1 99) fun w => paO (uT (uT (uT F 80 1) 3 v) 4 w, N, t + 3) else paB 3 (psS b L M t)
def rF1 (b : Nat → Nat) (L M : Nat) (F : Nat → Nat) (N : Nat → List Nat) (t : Nat) : Pa FSt := if F 5 = 0 then paD (nuP b L M (t + 1) 1 9) fun v => paD (nuP b L M (t + 2) 1 99) fun w => paO (uT (uT F 5 v) 6 w, N, t + 3) else paB 3 (psS b L M t)
def rF2 (b : Nat → Nat) (L M : Nat) (F : Nat → Nat) (N : Nat → List Nat) (t : Nat) : Pa FSt := if F 0 < 5 then paD (neP b L M (t + 1) F N) fun _ => paD (nuP b L M (t + 2) 0 9) fun v => paO (uT (uT F (7 + F 0) v) 0 (F 0 + 1), uT N (F 0) (wwS b L (t + 1)), t + 3) else paB 4 (psS b L M t)
def rF3 (b : Nat → Nat) (L M : Nat) (F : Nat → Nat) (N : Nat → List Nat) (t : Nat) : Pa FSt := if F 1 < 10 then paD (neP b L M (t + 1) F N) fun _ => paD (naP b L M (t + 2) (fnP F N (wwS b L (t + 2)))) fun p => paD (nuP b L M (t + 3) 1 20) fun v => paO (uT (uT (uT F (12 + F 1) p) (22 + F 1) v) 1 (F 1 + 1), uT N (5 + F 1) (wwS b L (t + 1)), t + 4) else paB 4 (psS b L M t)
def jnB (F : Nat → Nat) (x y : Nat) : Bool := exB (fun j => (decide (F (32 + j) = x) && decide (F (48 + j) = y)) || (decide (F (32 + j) = y) && decide (F (48 + j) = x))) (F 2)
def rF4 (b : Nat → Nat) (L M : Nat) (F : Nat → Nat) (N : Nat → List Nat) (t : Nat) : Pa FSt := if F 2 < 16 then paD (naP b L M (t + 1) (fnI F N (wwS b L (t + 1)))) fun x => paD (naP b L M (t + 2) (fnI F N (wwS b L (t + 2)))) fun y => if x ≠ y ∧ F (12 + x) = F (12 + y) ∧ jnB F x y = false then paD (nuP b L M (t + 3) 1 30) fun v => paO (uT (uT (uT (uT F (32 + F 2) x) (48 + F 2) y) (64 + F 2) v) 2 (F 2 + 1), N, t + 4) else paB 3 (psS b L M (t + 2)) else paB 4 (psS b L M t)
/-- what the class's falls g holds while it is read -/
def CG (R : Rf) (T : Mm) (g : Nat) (F : Nat → Nat) (N : Nat → List Nat) : Prop := CF R T g F ∧ T.1 g 13 = nI (F 80) ∧ (∀ p, p < F 0 → T.2 (g + 2) p = w5 (N p)) ∧ ∀ i, i < F 1 → T.2 (g + 3) i = w5 (N (5 + i))
def NW (F : Nat → Nat) (N : Nat → List Nat) : Prop := (∀ p, p < F 0 → IW (N p)) ∧ ∀ i, i < F 1 → IW (N (5 + i))
def FC (g : Nat) (T V : Mm) : Prop := (∀ a, a ≠ 1 → ¬ (g ≤ a ∧ a ≤ g + 8) → V.1 a = T.1 a) ∧ (∀ a, a ≠ g + 2 → a ≠ g + 3 → V.2 a = T.2 a) ∧ ∀ k, k ≠ 2 → k ≠ 3 → k ≠ 6 → V.1 1 k = T.1 1 k
theorem FC.refl {g : Nat} {T : Mm} : FC g T T := ⟨fun _ _ _ => rfl, fun _ _ _ => rfl, fun _ _ _ _ => rfl⟩
theorem FC.trans {g : Nat} {T U V : Mm} (h : FC g T U) (h' : FC g U V) : FC g T V := ⟨fun a h1 h2 => (h'.1 a h1 h2).trans (h.1 a h1 h2), fun a h1 h2 => (h'.2.1 a h1 h2).trans (h.2.1 a h1 h2), fun k h1 h2 h3 => (h'.2.2 k h1 h2 h3).trans (h.2.2 k h1 h2 h3)⟩
theorem FC.w1 {g : Nat} {T U : Mm} {k : Nat} {v : Int32} (h : FC g T U) (hk : k = 2 ∨ k = 3 ∨ k = 6) : FC g T (wI U 1 k v) := h.trans ⟨fun a h1 _ => by rw [wI_1, up2_row h1], fun _ _ _ => rfl, fun j h1 h2 h3 => wI_n (Or.inr (by omega))⟩
theorem FC.wg {g a : Nat} {T U : Mm} {k : Nat} {v : Int32} (h : FC g T U) (h1 : g ≤ a) (h2 : a ≤ g + 8) (hg : 79 ≤ g) : FC g T (wI U a k v) := h.trans ⟨fun c _ h4 => by rw [wI_1, up2_row (by omega)], fun _ _ _ => rfl, fun j _ _ _ => wI_n (Or.inl (by omega))⟩
theorem FC.jg {g a : Nat} {T U : Mm} {k : Nat} {v : Int64} (h : FC g T U) (ha : a = g + 2 ∨ a = g + 3) : FC g T (wJ U a k v) := h.trans ⟨fun _ _ _ => rfl, fun c h1 h2 => by rw [wJ_2, up2_row (by omega)], fun _ _ _ _ => rfl⟩
theorem FC.fl {g : Nat} {T U : Mm} {k p : Nat} (h : FC g T U) : FC g T (flc U k p) := (h.w1 (Or.inl rfl)).w1 (Or.inr (Or.inl rfl))
theorem CuC.wg {T : Mm} {b : Nat → Nat} {L M n t a k : Nat} {v : Int32} (h : CuC T b L M n t) (ha : 7 < a) : CuC (wI T a k v) b L M n t := h.of (by rw [wI_1, up2_row (by omega)]) (by rw [wI_1, up2_row (by omega)]) (by rw [wI_1, up2_row (by omega)]) rfl (wI_n (Or.inl (by omega))) (wI_n (Or.inl (by omega))) ((wI_n (Or.inl (by omega))).trans h.2.1) h.2.2.1
theorem CuC.jg {T : Mm} {b : Nat → Nat} {L M n t a k : Nat} {v : Int64} (h : CuC T b L M n t) (ha : 7 < a) : CuC (wJ T a k v) b L M n t := h.of rfl rfl rfl (by rw [wJ_2, up2_row (by omega)]) rfl rfl h.2.1 h.2.2.1
theorem c_num {R : Rf} {T : Mm} {b : Nat → Nat} {L M n t lo hi : Nat} (hR : RT R) (h : CuC T b L M n t) (hlo : lo ≤ 999) (hhi : hi ≤ 999) : (∃ v, nuP b L M t lo hi = paO v ∧ pX10_takeNumber R T 1 (nI lo) (nI hi) = some (nI v, wI T 1 6 (nI (t + 1))) ∧ CuC (wI T 1 6 (nI (t + 1))) b L M n (t + 1)) ∨ ∃ k p, nuP b L M t lo hi = paB k p ∧ pX10_takeNumber R T 1 (nI lo) (nI hi) = some (-1, flc T k p) := by
  rw [c_takeNumber hR h hlo hhi]
  unfold nuP
  by_cases e : kkS b L M t = 2
  · rw [if_pos e, if_pos e]
    by_cases e2 : lo ≤ vvS b L t ∧ vvS b L t ≤ hi
    · rw [if_pos e2, if_pos e2]
      exact Or.inl ⟨_, rfl, rfl, (c_advance (R := R) h (h.lt (by omega))).2⟩
    · rw [if_neg e2, if_neg e2]
      exact Or.inr ⟨_, _, rfl, rfl⟩
  · rw [if_neg e, if_neg e]
    exact Or.inr ⟨_, _, rfl, rfl⟩
theorem c_personNamed {R : Rf} {T : Mm} {g : Nat} {F : Nat → Nat} {N : Nat → List Nat} {w : List Nat} (h : CG R T g F N) (hv : VF F) (hN : NW F N) (hw : IW w) : pX3_personNamed R T g (w5 w) = some (oI (fnP F N w)) := by
  obtain ⟨⟨⟨q5, q6, q7, q8, q9, q10, q11, q12⟩, f0, f1, f2, f3, f4, f14, f15, cs, co, cw, ca, cb, ch⟩, g13, gp, gi⟩ := h
  obtain ⟨v0, v1, v2, v3, v4, v5, v6, vs, vo, vj⟩ := hv
  unfold pX3_personNamed
  rw [show (0 : Int32) = nI 0 from rfl, zl1_seek (fun p => decide (N p = w)) (fun p => some (nI p)) (some (-1)) (n := F 0) 0 (by omega) (by omega) ?_ ?_]
  · show (fnP F N w).elim _ _ = _
    cases fnP F N w <;> rfl
  · intro r i _ hi
    unfold pX3_personNamed_2 pX3_personNamed_21
    rw [f0, if_neg (nI_ge hi (by omega)), ix_nI (by omega) (by decide), nI_clamp (by omega), q6, gp i hi]
    simp only [lt, nI_1]
    by_cases e : N i = w
    · rw [if_pos (cmp_eq.mpr (by rw [e])), if_pos (decide_eq_true e)]
    · rw [if_neg (fun z => e ((w5_inj (hN.1 i hi) hw).mp (cmp_eq.mp z))), if_neg (by simp [e])]
  · intro r
    unfold pX3_personNamed_2 pX3_personNamed_29
    rw [f0, if_pos (nI_le (by omega) (by omega))]
theorem c_itemNamed {R : Rf} {T : Mm} {g : Nat} {F : Nat → Nat} {N : Nat → List Nat} {w : List Nat} (h : CG R T g F N) (hv : VF F) (hN : NW F N) (hw : IW w) : pX3_itemNamed R T g (w5 w) = some (oI (fnI F N w)) := by
  obtain ⟨⟨⟨q5, q6, q7, q8, q9, q10, q11, q12⟩, f0, f1, f2, f3, f4, f14, f15, cs, co, cw, ca, cb, ch⟩, g13, gp, gi⟩ := h
  obtain ⟨v0, v1, v2, v3, v4, v5, v6, vs, vo, vj⟩ := hv
  unfold pX3_itemNamed
  rw [show (0 : Int32) = nI 0 from rfl, zl1_seek (fun p => decide (N (5 + p) = w)) (fun p => some (nI p)) (some (-1)) (n := F 1) 0 (by omega) (by omega) ?_ ?_]
  · show (fnI F N w).elim _ _ = _
    cases fnI F N w <;> rfl
  · intro r i _ hi
    unfold pX3_itemNamed_2 pX3_itemNamed_21
    rw [f1, if_neg (nI_ge hi (by omega)), ix_nI (by omega) (by decide), nI_clamp (by omega), q7, gi i hi]
    simp only [lt, nI_1]
    by_cases e : N (5 + i) = w
    · rw [if_pos (cmp_eq.mpr (by rw [e])), if_pos (decide_eq_true e)]
    · rw [if_neg (fun z => e ((w5_inj (hN.2 i hi) hw).mp (cmp_eq.mp z))), if_neg (by simp [e])]
  · intro r
    unfold pX3_itemNamed_2 pX3_itemNamed_29
    rw [f1, if_pos (nI_le (by omega) (by omega))]
theorem c_fail1 {R : Rf} {T : Mm} {b : Nat → Nat} {L M n t : Nat} (hR : RT R) (h : CuC T b L M n t) : pX10_fail R T 1 1 = some (0, flc T 1 (psS b L M t)) := c_fail hR h 1
theorem c_fail3 {R : Rf} {T : Mm} {b : Nat → Nat} {L M n t : Nat} (hR : RT R) (h : CuC T b L M n t) : pX10_fail R T 1 3 = some (0, flc T 3 (psS b L M t)) := c_fail hR h 3
theorem c_fail4 {R : Rf} {T : Mm} {b : Nat → Nat} {L M n t : Nat} (hR : RT R) (h : CuC T b L M n t) : pX10_fail R T 1 4 = some (0, flc T 4 (psS b L M t)) := c_fail hR h 4
/-- taken: a found number, or not -/
theorem c_taken3 {R : Rf} {T : Mm} {b : Nat → Nat} {L M n t : Nat} {o : Option Nat} (hR : RT R) (h : CuC T b L M n t) (ho : ∀ i, o = some i → i < 100) : (∃ v, naP b L M t o = paO v ∧ o = some v ∧ kkS b L M t = 3 ∧ pX3_taken R T 1 (if kkS b L M t = 3 then oI o else -1) = some (nI v, wI T 1 6 (nI (t + 1))) ∧ CuC (wI T 1 6 (nI (t + 1))) b L M n (t + 1)) ∨ ∃ k p, naP b L M t o = paB k p ∧ pX3_taken R T 1 (if kkS b L M t = 3 then oI o else -1) = some (-1, flc T k p) := by
  unfold pX3_taken pX3_taken_24 naP
  rw [c_atName hR h, bd1_some, c_fail3 hR h, c_fail1 hR h]
  by_cases e : kkS b L M t = 3
  · rw [if_pos e, if_pos e]
    cases o with
    | none =>
      right
      refine ⟨_, _, rfl, ?_⟩
      rw [if_pos (show oI none = -1 from rfl), if_pos e, if10, bd2_some]
    | some i =>
      left
      obtain ⟨a1, a2⟩ := c_advance (R := R) h (h.lt (by omega))
      refine ⟨_, rfl, rfl, e, ?_, a2⟩
      rw [if_neg (show ¬ oI (some i) = -1 from ne_m1 (by have := ho i rfl; omega)), a1, bd1_some]
      rfl
  · rw [if_neg e, if_neg e]
    right
    refine ⟨_, _, rfl, ?_⟩
    rw [if_pos rfl, if_neg e, if00, bd2_some]
theorem c_takePerson {R : Rf} {T : Mm} {b : Nat → Nat} {L M n t g : Nat} {F : Nat → Nat} {N : Nat → List Nat} (hR : RT R) (h : CuC T b L M n t) (hg : CG R T g F N) (hv : VF F) (hN : NW F N) : pX3_takePerson R T g 1 = pX3_taken R T 1 (if kkS b L M t = 3 then oI (fnP F N (wwS b L t)) else -1) := by
  unfold pX3_takePerson pX3_takePerson_20
  rw [c_atName hR h, bd1_some]
  have hid : ∀ o : Option (Int32 × Mm), bd2 o (fun u2 T2 => some (u2, T2)) = o := fun o => by
    cases o <;> rfl
  by_cases e : kkS b L M t = 3
  · rw [if_pos e, if10, c_name hR h (Or.inl e), bd1_some, c_personNamed hg hv hN (kk_word (Or.inl e)).1, bd1_some, hid, if_pos e]
  · rw [if_neg e, if00, hid, if_neg e]
theorem c_takeItem {R : Rf} {T : Mm} {b : Nat → Nat} {L M n t g : Nat} {F : Nat → Nat} {N : Nat → List Nat} (hR : RT R) (h : CuC T b L M n t) (hg : CG R T g F N) (hv : VF F) (hN : NW F N) : pX3_takeItem R T g 1 = pX3_taken R T 1 (if kkS b L M t = 3 then oI (fnI F N (wwS b L t)) else -1) := by
  unfold pX3_takeItem pX3_takeItem_20
  rw [c_atName hR h, bd1_some]
  have hid : ∀ o : Option (Int32 × Mm), bd2 o (fun u2 T2 => some (u2, T2)) = o := fun o => by
    cases o <;> rfl
  by_cases e : kkS b L M t = 3
  · rw [if_pos e, if10, c_name hR h (Or.inl e), bd1_some, c_itemNamed hg hv hN (kk_word (Or.inl e)).1, bd1_some, hid, if_pos e]
  · rw [if_neg e, if00, hid, if_neg e]
theorem bz_0 {ρ : Type} {k : Option ρ} : bz 0 k = k := by
  unfold bz
  rw [if_pos (by decide)]
theorem c_newName {R : Rf} {T : Mm} {b : Nat → Nat} {L M n t g : Nat} {F : Nat → Nat} {N : Nat → List Nat} (hR : RT R) (h : CuC T b L M n t) (hg : CG R T g F N) (hv : VF F) (hN : NW F N) : (neP b L M t F N = paO () ∧ kkS b L M t = 3 ∧ pX3_isNewName R T g 1 = some (1, T)) ∨ ∃ k p, neP b L M t F N = paB k p ∧ pX3_isNewName R T g 1 = some (0, flc T k p) := by
  unfold pX3_isNewName pX3_isNewName_37 neP
  rw [c_atName hR h, bd1_some, c_fail1 hR h, bd2_some, bz_0, c_fail3 hR h, bd2_some, bz_0]
  by_cases e : kkS b L M t = 3
  · rw [if_pos e, if_pos e, if10, c_name hR h (Or.inl e), bd1_some, c_personNamed hg hv hN (kk_word (Or.inl e)).1, bd1_some, bd1_some, c_itemNamed hg hv hN (kk_word (Or.inl e)).1, bd1_some]
    obtain ⟨v0, v1, v2, v3, v4, v5, v6, vs, vo, vj⟩ := hv
    cases e1 : fnP F N (wwS b L t) with
    | some p =>
      have := fnP_lt e1
      rw [if_neg (show ¬ oI (some p) = -1 from ne_m1 (by omega)), if_neg (by simp)]
      exact Or.inr ⟨_, _, rfl, rfl⟩
    | none =>
      rw [if_pos (show oI none = -1 from rfl)]
      cases e2 : fnI F N (wwS b L t) with
      | some p =>
        have := fnI_lt e2
        rw [if_neg (show ¬ oI (some p) = -1 from ne_m1 (by omega)), if_neg (by simp)]
        exact Or.inr ⟨_, _, rfl, rfl⟩
      | none =>
        rw [if_pos (show oI none = -1 from rfl), if_pos ⟨rfl, rfl⟩]
        exact Or.inl ⟨rfl, e, rfl⟩
  · rw [if_neg e, if_neg e, if00]
    exact Or.inr ⟨_, _, rfl, rfl⟩
