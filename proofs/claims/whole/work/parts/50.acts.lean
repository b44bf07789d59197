/-! the class's acts -/
theorem c_hasInside {R : Rf} {T : Mm} {c i : Nat} (hi : i < 32) : pX1_hasInside R T c (nI i) = some (if bt (T.1 c 1) i = false then 0 else 1) := by
  unfold pX1_hasInside
  simp only [bt_test _ hi]
  by_cases h : bt (T.1 c 1) i = false
  · rw [if_pos h, if_pos h]
  · rw [if_neg h, if_neg h]
theorem c_isWhole {R : Rf} {T : Mm} {c i : Nat} (hi : i < 32) : pX1_isWhole R T c (nI i) = some (if bt (T.1 c 2) i = false then 1 else 0) := by
  unfold pX1_isWhole
  simp only [bt_test _ hi]
  by_cases h : bt (T.1 c 2) i = false
  · rw [if_pos h, if_pos h]
  · rw [if_neg h, if_neg h]
theorem c_letGo {R : Rf} {T : Mm} {f c : Nat} {F : Nat → Nat} (hF : CF R T f F) (hv : VF F) (hc : R c 4 = c + 1) (hd : c + 1 < f ∨ f + 8 < c) {p : Nat} (hp : p < F 0) (C : Nat → Int32) : pX1_letGo R (setC T c C) c f (nI p) = some ((goS F C p).1, setC T c (goS F C p).2) := by
  have v0 := hv.1
  unfold pX1_letGo goS
  rw [ix_nI (by omega) (by omega), ix_nI (by omega) (by omega), nI_clamp (by omega), hc, setC_h (by omega)]
  by_cases h : C (4 + p) = 0
  · simp only [if_pos h, lt]
    rw [setC_wh (by omega), c_drop hF hv hc hd hp]
    rfl
  · simp only [if_neg h]
theorem c_letOut {R : Rf} {T : Mm} {c : Nat} (hc : R c 4 = c + 1) {p : Nat} (hp : p < 5) (C : Nat → Int32) : pX1_letOut R (setC T c C) c (nI p) = some ((frS C p).1, setC T c (frS C p).2) := by
  unfold pX1_letOut frS
  rw [ix_nI (by omega) (by omega), ix_nI (by omega) (by omega), nI_clamp (by omega), hc, setC_h (by omega)]
  by_cases h : C (4 + p) = 2
  · simp only [if_pos h, lt]
    rw [setC_wh (by omega)]
  · simp only [if_neg h]
theorem c_joinsAtS {R : Rf} {T : Mm} {f : Nat} {F : Nat → Nat} (hF : CF R T f F) (hv : VF F) {i : Nat} (hi : i < F 1) : pX3_joinsAt R T f (nI i) = some (jaS F i) := by
  obtain ⟨v0, v1, v2, v3, v4, v5, v6, vs, vo, vj⟩ := hv
  obtain ⟨⟨q5, q6, q7, q8, q9, q10, q11, q12⟩, f0, f1, f2, f3, f4, f14, f15, cs, co, cw, ca, cb, ch⟩ := hF
  unfold pX3_joinsAt jaS
  refine zl2_set (f := pX3_joinsAt_4 R T f (nI i) (pX3_joinsAt_44 R T f (nI i))) _ (fun a => some a) (n := F 2) (by omega) ?_ ?_
  · intro r j a hj
    have h1 := (vj j hj).1
    have h2 := (vj j hj).2.1
    unfold pX3_joinsAt_4 pX3_joinsAt_32
    simp (disch := omega) only [lt, jn, bd1_some, bd2_some, ix_nI, ix_lit, nI_clamp, lit_clamp, lit_add, add_lit, nI_add, nI_leI, nI_ltI, nI_eq, lit_le, le_lit, lit_lt, lt_lit, lit_eq, eq_lit, if_pos, if_neg, f2, q10, q11, ca, cb]
    by_cases e1 : F (32 + j) = i
    · simp [e1]
    · by_cases e2 : F (48 + j) = i
      · simp [e1, e2]
      · simp [e1, e2]
  · intro r a
    unfold pX3_joinsAt_4
    simp (disch := omega) only [lt, jn, bd1_some, bd2_some, ix_nI, ix_lit, nI_clamp, lit_clamp, lit_add, add_lit, nI_add, nI_leI, nI_ltI, nI_eq, lit_le, le_lit, lit_lt, lt_lit, lit_eq, eq_lit, if_pos, if_neg, f2]
    rfl
theorem c_takeOut {R : Rf} {T : Mm} {f c : Nat} {F : Nat → Nat} (hF : CF R T f F) (hv : VF F) (hc : R c 4 = c + 1) (hd : c + 1 < f ∨ f + 8 < c) {i : Nat} (hi : i < F 1) (C : Nat → Int32) : pX1_takeOut R (setC T c C) c f (nI i) = some ((unS F C i).1, setC T c (unS F C i).2) := by
  obtain ⟨v0, v1, v2, v3, v4, v5, v6, vs, vo, vj⟩ := id hv
  have ho := (vo i hi).1
  have hF' : ∀ D, CF R (setC T c D) f F := fun D => hF.sC hd
  have hj := c_joinsAtS (hF' (uC C 1 (C 1 &&& ((1 <<< (nI i &&& 31)) ^^^ (-1 : Int32))))) hv hi
  obtain ⟨⟨q5, q6, q7, q8, q9, q10, q11, q12⟩, f0, f1, f2, f3, f4, f14, f15, cs, co, cw, ca, cb, ch⟩ := hF' C
  unfold pX1_takeOut unS
  rw [c_hasInside (by omega)]
  simp (disch := omega) only [lt, jn, bd1_some, bd2_some, ix_nI, ix_lit, nI_clamp, lit_clamp, lit_add, add_lit, nI_add, nI_leI, nI_ltI, nI_eq, lit_le, le_lit, lit_lt, lt_lit, lit_eq, eq_lit, if_pos, if_neg, q8, co, hc, setC_c, setC_h]
  by_cases h1 : bt (C 1) i = false
  · simp only [if_pos h1, if_pos]
  · simp only [if_neg h1]
    rw [if_neg (by decide)]
    by_cases h2 : C (4 + F (12 + i)) < 2
    · simp only [if_pos h2]
      rw [setC_w (by decide), hj]
      simp (disch := omega) only [bd1_some, setC_c, uC_n]
      rw [setC_w (by decide), c_drop hF hv hc hd ho]
      rfl
    · simp only [if_neg h2]
theorem c_putIn {R : Rf} {T : Mm} {f c : Nat} {F : Nat → Nat} (hF : CF R T f F) (hv : VF F) (hc : R c 4 = c + 1) (hd : c + 1 < f ∨ f + 8 < c) {i : Nat} (hi : i < F 1) (C : Nat → Int32) : pX1_putIn R (setC T c C) c f (nI i) = some ((ldS F C i).1, setC T c (ldS F C i).2) := by
  obtain ⟨v0, v1, v2, v3, v4, v5, v6, vs, vo, vj⟩ := id hv
  have ho := (vo i hi).1
  obtain ⟨⟨q5, q6, q7, q8, q9, q10, q11, q12⟩, f0, f1, f2, f3, f4, f14, f15, cs, co, cw, ca, cb, ch⟩ := hF.sC (C := C) hd
  unfold pX1_putIn ldS
  rw [c_hasInside (by omega)]
  simp (disch := omega) only [lt, jn, bd1_some, bd2_some, ix_nI, ix_lit, nI_clamp, lit_clamp, lit_add, add_lit, nI_add, nI_leI, nI_ltI, nI_eq, lit_le, le_lit, lit_lt, lt_lit, lit_eq, eq_lit, if_pos, if_neg, q8, co, hc, setC_c, setC_h]
  by_cases h1 : bt (C 1) i = false
  · simp only [if_pos h1, if_pos]
    by_cases h2 : C (4 + F (12 + i)) = 0
    · simp only [if_pos h2]
      rw [setC_w (by decide)]
    · simp only [if_neg h2]
  · simp only [if_neg h1]
    rw [if_neg (by decide)]
theorem c_makeWhole {R : Rf} {T : Mm} {f c : Nat} {F : Nat → Nat} (hF : CF R T f F) (hv : VF F) (hc : R c 4 = c + 1) (hd : c + 1 < f ∨ f + 8 < c) {j : Nat} (hj : j < F 2) (C : Nat → Int32) : pX1_makeWhole R (setC T c C) c f (nI j) = some ((bdS F C j).1, setC T c (bdS F C j).2) := by
  obtain ⟨v0, v1, v2, v3, v4, v5, v6, vs, vo, vj⟩ := id hv
  have h1 := (vj j hj).1
  have h2 := (vj j hj).2.1
  have ho := (vo _ h1).1
  have hF' := hF.sC (C := C) hd
  have hown := bd_owner hF' hv hj
  obtain ⟨⟨q5, q6, q7, q8, q9, q10, q11, q12⟩, f0, f1, f2, f3, f4, f14, f15, cs, co, cw, ca, cb, ch⟩ := hF'
  unfold pX1_makeWhole bdS
  rw [c_isWhole (by omega), hown]
  simp (disch := omega) only [lt, jn, bd1_some, bd2_some, ix_nI, ix_lit, nI_clamp, lit_clamp, lit_add, add_lit, nI_add, nI_leI, nI_ltI, nI_eq, lit_le, le_lit, lit_lt, lt_lit, lit_eq, eq_lit, if_pos, if_neg, q10, q11, ca, cb, hc, setC_c, setC_h]
  rw [c_hasInside (by omega), c_hasInside (by omega)]
  simp (disch := omega) only [bd1_some, setC_c, setC_w]
  by_cases e1 : bt (C 2) j = false
  · simp only [if_pos e1]
    rw [if_neg (by decide)]
  · simp only [if_neg e1, if_pos]
    by_cases e2 : bt (C 1) (F (32 + j)) = false
    · simp only [if_pos e2, if_pos]
    · simp only [if_neg e2]
      rw [if_neg (by decide)]
      by_cases e3 : bt (C 1) (F (48 + j)) = false
      · simp only [if_pos e3, if_pos]
      · simp only [if_neg e3]
        rw [if_neg (by decide)]
        by_cases e4 : C (4 + F (12 + F (32 + j))) = 0
        · simp only [if_pos e4]
        · simp only [if_neg e4]
theorem c_passDay {R : Rf} {T : Mm} {f c : Nat} {F : Nat → Nat} (hF : CF R T f F) (hv : VF F) (hc : R c 4 = c + 1) (hd : c + 1 < f ∨ f + 8 < c) (C : Nat → Int32) : pX1_passDay R (setC T c C) c f = some (setC T c (dayS F C)) := by
  have v0 := hv.1
  unfold pX1_passDay dayS
  simp only [lt]
  rw [setC_c (by decide), setC_w (by decide)]
  refine zl2_forE (f := pX1_passDay_12 R c f (pX1_passDay_32 R c f)) (fun D => setC T c D) (fun p D => dropS F D p) (fun D => some (setC T c D)) (F 0) (by omega) ?_ ?_ _
  · intro r p D hp
    obtain ⟨⟨q5, q6, q7, q8, q9, q10, q11, q12⟩, f0, f1, f2, f3, f4, f14, f15, cs, co, cw, ca, cb, ch⟩ := hF.sC (C := D) hd
    unfold pX1_passDay_12
    rw [f0, if_neg (nI_ge hp (by omega)), c_drop hF hv hc hd hp, bd1_some]
    simp only [lt, nI_1]
  · intro r D
    obtain ⟨⟨q5, q6, q7, q8, q9, q10, q11, q12⟩, f0, f1, f2, f3, f4, f14, f15, cs, co, cw, ca, cb, ch⟩ := hF.sC (C := D) hd
    unfold pX1_passDay_12
    rw [f0, if_pos (nI_le (Nat.le_refl _) (by omega))]
    rfl
