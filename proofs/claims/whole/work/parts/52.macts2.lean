theorem m_isDownS {R : Rf} {T : Mm} {n : Nat} {C : Nat → Int32} (r6 : R 105 6 = 107) {p : Nat} (hp : p < 5) : pX12_isDown R (setM T n C) 105 (nI p) = some (if C (4 + p) < 2 then 0 else 1) := by
  unfold pX12_isDown
  simp (disch := omega) only [lt, jn, bd1_some, bd2_some, ix_nI, ix_lit, nI_clamp, lit_clamp, lit_add, add_lit, nI_add, nI_leI, nI_ltI, nI_eq, lit_le, le_lit, lit_lt, lt_lit, lit_eq, eq_lit, if_pos, if_neg, r6, setM_h]
  by_cases h : C (4 + p) < 2 <;> simp [h]
theorem m_whyUnloadS {R : Rf} {T : Mm} {F : Nat → Nat} (r6 : R 105 6 = 107) (hM : MF T F) (hv : VF F) {i : Nat} (hi : i < F 1) (C : Nat → Int32) : pX12_whyUnload R (setM T (F 2) C) 105 (nI i) = some (unS F C i).1 := by
  obtain ⟨v0, v1, v2, v3, v4, v5, v6, vs, vo, vj⟩ := id hv
  have ho := (vo i hi).1
  have hm : ∀ D : Nat → Int32, ∀ k, k < 80 → (setM T (F 2) D).1 107 k = nI (F k) := fun D => hM.sM
  unfold pX12_whyUnload unS
  rw [m_bitOfS (by omega)]
  simp (disch := omega) only [lt, jn, bd1_some, bd2_some, ix_nI, ix_lit, nI_clamp, lit_clamp, lit_add, add_lit, nI_add, nI_leI, nI_ltI, nI_eq, lit_le, le_lit, lit_lt, lt_lit, lit_eq, eq_lit, if_pos, if_neg, r6, hm, setM_1]
  rw [m_isDownS r6 (by omega)]
  by_cases h1 : bt (C 1) i = false
  · simp [h1]
  · by_cases h2 : C (4 + F (12 + i)) < 2
    · simp [h1, h2, bd1_some]
    · simp [h1, h2, bd1_some]
theorem m_whyLoadS {R : Rf} {T : Mm} {F : Nat → Nat} (r6 : R 105 6 = 107) (hM : MF T F) (hv : VF F) {i : Nat} (hi : i < F 1) (C : Nat → Int32) : pX12_whyLoad R (setM T (F 2) C) 105 (nI i) = some (ldS F C i).1 := by
  obtain ⟨v0, v1, v2, v3, v4, v5, v6, vs, vo, vj⟩ := id hv
  have ho := (vo i hi).1
  have hm : ∀ D : Nat → Int32, ∀ k, k < 80 → (setM T (F 2) D).1 107 k = nI (F k) := fun D => hM.sM
  unfold pX12_whyLoad ldS
  rw [m_bitOfS (by omega)]
  simp (disch := omega) only [lt, jn, bd1_some, bd2_some, ix_nI, ix_lit, nI_clamp, lit_clamp, lit_add, add_lit, nI_add, nI_leI, nI_ltI, nI_eq, lit_le, le_lit, lit_lt, lt_lit, lit_eq, eq_lit, if_pos, if_neg, r6, hm, setM_1, setM_h]
  by_cases h1 : bt (C 1) i = false
  · by_cases h2 : C (4 + F (12 + i)) = 0
    · simp [h1, h2]
    · simp [h1, h2]
  · simp [h1]
theorem m_whyBindS {R : Rf} {T : Mm} {F : Nat → Nat} (r6 : R 105 6 = 107) (hM : MF T F) (hv : VF F) {j : Nat} (hj : j < F 2) (C : Nat → Int32) : pX12_whyBind R (setM T (F 2) C) 105 (nI j) = some (bdS F C j).1 := by
  obtain ⟨v0, v1, v2, v3, v4, v5, v6, vs, vo, vj⟩ := id hv
  have h1 := (vj j hj).1
  have h2 := (vj j hj).2.1
  have ho := (vo _ h1).1
  have hm : ∀ D : Nat → Int32, ∀ k, k < 80 → (setM T (F 2) D).1 107 k = nI (F k) := fun D => hM.sM
  unfold pX12_whyBind bdS
  rw [m_bitOfS (by omega)]
  simp (disch := omega) only [lt, jn, bd1_some, bd2_some, ix_nI, ix_lit, nI_clamp, lit_clamp, lit_add, add_lit, nI_add, nI_leI, nI_ltI, nI_eq, lit_le, le_lit, lit_lt, lt_lit, lit_eq, eq_lit, if_pos, if_neg, r6, hm, setM_1, setM_2, setM_h, m_bitOfS]
  rw [bt_wh (by omega) (by omega)]
  by_cases e1 : bt (C 2) j = false
  · simp [e1, hj]
  · by_cases e2 : bt (C 1) (F (32 + j)) = false
    · simp [e1, e2, hj]
    · by_cases e3 : bt (C 1) (F (48 + j)) = false
      · simp [e1, e2, e3, hj]
      · by_cases e4 : C (4 + F (12 + F (32 + j))) = 0
        · simp [e1, e2, e3, e4, hj]
        · simp [e1, e2, e3, e4, hj]
theorem dropS_hang {F : Nat → Nat} {C : Nat → Int32} {p : Nat} (h : C (4 + p) = 1) : dropS F (uC C (4 + p) 1) p = dropS F C p := by rw [← h, uC_id]
theorem dropS_not {F : Nat → Nat} {C : Nat → Int32} {p : Nat} (h : ¬ C (4 + p) = 1) : dropS F C p = C := if_neg (fun q => h q.1)
theorem m_takesOutS {R : Rf} {T : Mm} {F : Nat → Nat} (r6 : R 105 6 = 107) (hM : MF T F) (hv : VF F) {i : Nat} (hi : i < F 1) (C : Nat → Int32) : pX12_takesOut R (setM T (F 2) C) 105 (nI i) = some (setM T (F 2) (dropS F (uC (uC C 1 (C 1 &&& ((1 <<< (nI i &&& 31)) ^^^ (-1 : Int32)))) 2 (C 2 ||| jaS F i)) (F (12 + i)))) := by
  obtain ⟨v0, v1, v2, v3, v4, v5, v6, vs, vo, vj⟩ := id hv
  have ho := (vo i hi).1
  have hm : ∀ D : Nat → Int32, ∀ k, k < 80 → (setM T (F 2) D).1 107 k = nI (F k) := fun D => hM.sM
  unfold pX12_takesOut
  simp (disch := omega) only [lt, jn, bd1_some, bd2_some, ix_nI, ix_lit, nI_clamp, lit_clamp, lit_add, add_lit, nI_add, nI_leI, nI_ltI, nI_eq, lit_le, le_lit, lit_lt, lt_lit, lit_eq, eq_lit, if_pos, if_neg, r6, setM_1, setM_w1]
  have key : ∀ D : Nat → Int32, zl2 (pX12_takesOut_17 R 105 (nI i) (pX12_takesOut_74 R 105 (nI i))) FU (setM T (F 2) D) 0 = some (setM T (F 2) (dropS F (uC D 2 (D 2 ||| jaS F i)) (F (12 + i)))) := by
    intro D
    have hu : uC D 2 (D 2) = D := uC_id
    have k2 := zl2_forI (f := pX12_takesOut_17 R 105 (nI i) (pX12_takesOut_74 R 105 (nI i))) (fun b => setM T (F 2) (uC D 2 b)) (fun j a => if (decide (F (32 + j) = i) || decide (F (48 + j) = i)) = true then a ||| ((1 : Int32) <<< (nI j &&& 31)) else a) (fun b => some (setM T (F 2) (dropS F (uC D 2 b) (F (12 + i))))) (F 2) (fun _ _ => True) (by omega) (fun _ _ _ _ => trivial) ?_ ?_ (D 2) trivial
    · rw [hu] at k2
      rw [k2, fo_or _ (by omega)]
      rfl
    · intro r j b hj _
      have h1 := (vj j hj).1
      have h2 := (vj j hj).2.1
      have hw : wI (setM T (F 2) (uC D 2 b)) 107 82 (wh (F 2) (uC D 2 b 2) &&& (((1 : Int32) <<< (nI j &&& 31)) ^^^ (-1 : Int32))) = setM T (F 2) (uC D 2 (b ||| ((1 : Int32) <<< (nI j &&& 31)))) := by
        rw [setM_w2 (b ||| ((1 : Int32) <<< (nI j &&& 31))) (by rw [uC_s, wh_or (by omega) (by omega)])]
        congr 1
        funext k
        by_cases hk : k = 2
        · subst hk; simp [uC_s]
        · simp [uC_n hk]
      unfold pX12_takesOut_17 pX12_takesOut_53
      simp (disch := omega) only [lt, jn, bd1_some, bd2_some, ix_nI, ix_lit, nI_clamp, lit_clamp, lit_add, add_lit, nI_add, nI_leI, nI_ltI, nI_eq, lit_le, le_lit, lit_lt, lt_lit, lit_eq, eq_lit, if_pos, if_neg, r6, hm, setM_2, hw]
      by_cases e1 : F (32 + j) = i
      · simp [e1]
      · by_cases e2 : F (48 + j) = i
        · simp [e1, e2]
        · simp [e1, e2]
    · intro r b _
      unfold pX12_takesOut_17 pX12_takesOut_74
      simp (disch := omega) only [lt, jn, bd1_some, bd2_some, ix_nI, ix_lit, nI_clamp, lit_clamp, lit_add, add_lit, nI_add, nI_leI, nI_ltI, nI_eq, lit_le, le_lit, lit_lt, lt_lit, lit_eq, eq_lit, if_pos, if_neg, r6, hm, setM_h]
      by_cases e1 : uC D 2 b (4 + F (12 + i)) = 1
      · rw [if_pos e1, m_hangsS r6 hM hv ho, bd1_some, dropS_hang e1]
      · rw [if_neg e1, dropS_not e1]
  rw [key]
  rfl
theorem m_dayS {R : Rf} {T : Mm} {F : Nat → Nat} (r6 : R 105 6 = 107) (hM : MF T F) (hv : VF F) (C : Nat → Int32) : pX12_day R (setM T (F 2) C) 105 = some (setM T (F 2) (dayS F C)) := by
  obtain ⟨v0, v1, v2, v3, v4, v5, v6, vs, vo, vj⟩ := id hv
  have hm : ∀ D : Nat → Int32, ∀ k, k < 80 → (setM T (F 2) D).1 107 k = nI (F k) := fun D => hM.sM
  unfold pX12_day dayS
  simp (disch := omega) only [lt, jn, bd1_some, bd2_some, ix_nI, ix_lit, nI_clamp, lit_clamp, lit_add, add_lit, nI_add, nI_leI, nI_ltI, nI_eq, lit_le, le_lit, lit_lt, lt_lit, lit_eq, eq_lit, if_pos, if_neg, r6, setM_0, setM_w0]
  refine zl2_forI (f := pX12_day_13 R 105 (pX12_day_47 R 105)) (fun D => setM T (F 2) D) (fun p D => dropS F D p) (fun D => some (setM T (F 2) D)) (F 0) (fun _ _ => True) (by omega) (fun _ _ _ _ => trivial) ?_ ?_ _ trivial
  · intro r p D hp _
    unfold pX12_day_13
    simp (disch := omega) only [lt, jn, bd1_some, bd2_some, ix_nI, ix_lit, nI_clamp, lit_clamp, lit_add, add_lit, nI_add, nI_leI, nI_ltI, nI_eq, lit_le, le_lit, lit_lt, lt_lit, lit_eq, eq_lit, if_pos, if_neg, r6, hm, setM_h]
    by_cases e : D (4 + p) = 1
    · rw [if_pos e, m_hangsS r6 hM hv hp, bd1_some, dropS_hang e]
    · rw [if_neg e, dropS_not e]
  · intro r D _
    unfold pX12_day_13
    simp (disch := omega) only [lt, jn, bd1_some, bd2_some, ix_nI, ix_lit, nI_clamp, lit_clamp, lit_add, add_lit, nI_add, nI_leI, nI_ltI, nI_eq, lit_le, le_lit, lit_lt, lt_lit, lit_eq, eq_lit, if_pos, if_neg, r6, hm]
    rfl
theorem dropS_0 {F : Nat → Nat} {C : Nat → Int32} {p : Nat} : dropS F C p 0 = C 0 := by
  unfold dropS
  by_cases h : C (4 + p) = 1 ∧ nI (wtC F C p) ≤ flS F (C 0)
  · rw [if_pos h, uC_n (by omega), uC_n (by omega), uC_n (by omega)]
  · rw [if_neg h]
theorem fo_inv {α β : Type} {F : Nat → α → α} (g : α → β) (h : ∀ i a, g (F i a) = g a) : ∀ (k i : Nat) (a : α), g (fo F i k a) = g a
  | 0, _, _ => rfl
  | k + 1, i, a => by
    show g (fo F (i + 1) k (F i a)) = g a
    rw [fo_inv g h k (i + 1), h]
theorem dayS_0 {F : Nat → Nat} {C : Nat → Int32} : dayS F C 0 = C 0 + 1 := by
  unfold dayS
  rw [fo_inv (fun C : Nat → Int32 => C 0) (fun i a => dropS_0), uC_s]
/-- k days -/
def daysS (F : Nat → Nat) (k : Nat) (C : Nat → Int32) : Nat → Int32 := fo (fun _ D => dayS F D) 0 k C
theorem fo_const {α : Type} (G : α → α) : ∀ (k i j : Nat) (a : α), fo (fun _ D => G D) i k a = fo (fun _ D => G D) j k a
  | 0, _, _, _ => rfl
  | k + 1, i, j, a => fo_const G k (i + 1) (j + 1) (G a)
theorem fo_0 {F : Nat → Nat} : ∀ (k i d : Nat) (C : Nat → Int32), C 0 = nI d → fo (fun _ D => dayS F D) i k C 0 = nI (d + k)
  | 0, _, _, _, h => h
  | k + 1, i, d, C, h => by
    show fo (fun _ D => dayS F D) (i + 1) k (dayS F C) 0 = _
    rw [fo_0 k (i + 1) (d + 1) (dayS F C) (by rw [dayS_0, h, nI_1])]
    congr 1
    omega
theorem daysS_0 {F : Nat → Nat} {k d : Nat} {C : Nat → Int32} (h : C 0 = nI d) : daysS F k C 0 = nI (d + k) := fo_0 k 0 d C h
theorem m_goesOnS {R : Rf} {T : Mm} {F : Nat → Nat} (r6 : R 105 6 = 107) (hM : MF T F) (hv : VF F) {n d : Nat} (hn : n ≤ 60) (hd : d ≤ 400) {C : Nat → Int32} (hC : C 0 = nI d) : pX12_goesOn R (setM T (F 2) C) 105 (nI n) = some (nI (min n (400 - d)), setM T (F 2) (daysS F (min n (400 - d)) C)) := by
  unfold pX12_goesOn
  refine zl2_forI (f := pX12_goesOn_2 R 105 (nI n) (pX12_goesOn_30 R 105 (nI n))) (fun D => setM T (F 2) D) (fun _ D => dayS F D) (fun D => some (nI (min n (400 - d)), setM T (F 2) D)) (min n (400 - d)) (fun i D => D 0 = nI (d + i)) (by omega) ?_ ?_ ?_ C hC
  · intro i b hi hb
    show dayS F b 0 = _
    rw [dayS_0, hb, nI_1]
    rfl
  · intro r i b hi hb
    unfold pX12_goesOn_2
    simp (disch := omega) only [lt, jn, bd1_some, bd2_some, ix_nI, ix_lit, nI_clamp, lit_clamp, lit_add, add_lit, nI_add, nI_leI, nI_ltI, nI_eq, lit_le, le_lit, lit_lt, lt_lit, lit_eq, eq_lit, if_pos, if_neg, r6, setM_0, hb]
    rw [m_dayS r6 hM hv, bd1_some]
  · intro r b hb
    unfold pX12_goesOn_2 pX12_goesOn_30
    by_cases h : n ≤ min n (400 - d)
    · rw [if_pos (nI_le h (by omega))]
    · rw [if_neg (fun q => h ((nI_leI (by omega) (by omega)).mp q))]
      simp (disch := omega) only [lt, jn, bd1_some, bd2_some, ix_nI, ix_lit, nI_clamp, lit_clamp, lit_add, add_lit, nI_add, nI_leI, nI_ltI, nI_eq, lit_le, le_lit, lit_lt, lt_lit, lit_eq, eq_lit, if_pos, if_neg, r6, setM_0, hb]
theorem c_daysS {R : Rf} {T : Mm} {f c : Nat} {F : Nat → Nat} (hF : CF R T f F) (hv : VF F) (hc : R c 4 = c + 1) (hd : c + 1 < f ∨ f + 8 < c) {n d : Nat} (hn : n ≤ 60) (hdn : d + n ≤ 400) {C : Nat → Int32} (hC : C 0 = nI d) : pX0_liveDays R (setC T c C) f c (nI n) = some (0, setC T c (daysS F n C)) := by
  unfold pX0_liveDays
  have h4 : nI 400 - nI d = nI (400 - d) := pk_sub (by omega)
  rw [setC_c (by decide), hC, show (400 : Int32) = nI 400 from rfl, h4, if_pos (nI_le (by omega) (by omega))]
  refine zl2_forI (f := pX0_liveDays_17 R f c (nI n) (pX0_liveDays_33 R f c (nI n))) (fun D => setC T c D) (fun _ D => dayS F D) (fun D => some (0, setC T c D)) n (fun _ _ => True) (by omega) (fun _ _ _ _ => trivial) ?_ ?_ C trivial
  · intro r i b hi _
    unfold pX0_liveDays_17
    simp (disch := omega) only [lt, jn, bd1_some, bd2_some, ix_nI, ix_lit, nI_clamp, lit_clamp, lit_add, add_lit, nI_add, nI_leI, nI_ltI, nI_eq, lit_le, le_lit, lit_lt, lt_lit, lit_eq, eq_lit, if_pos, if_neg]
    rw [c_passDay hF hv hc hd, bd1_some]
  · intro r b _
    unfold pX0_liveDays_17 pX0_liveDays_33
    simp (disch := omega) only [lt, jn, bd1_some, bd2_some, ix_nI, ix_lit, nI_clamp, lit_clamp, lit_add, add_lit, nI_add, nI_leI, nI_ltI, nI_eq, lit_le, le_lit, lit_lt, lt_lit, lit_eq, eq_lit, if_pos, if_neg]
