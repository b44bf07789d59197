/-! the reference's acts -/
theorem zl2_forI {α β ρ : Type} {f : (α → Int32 → Option ρ) → α → Int32 → Option ρ} (emb : β → α) (F : Nat → β → β) (ex : β → Option ρ) (n : Nat) (P : Nat → β → Prop) (hn : n < 100000) (hP : ∀ i b, i < n → P i b → P (i + 1) (F i b)) (hs : ∀ (r : α → Int32 → Option ρ) (i : Nat) (b : β), i < n → P i b → f r (emb b) (nI i) = r (emb (F i b)) (nI (i + 1))) (he : ∀ (r : α → Int32 → Option ρ) (b : β), P n b → f r (emb b) (nI n) = ex b) (b : β) (hb : P 0 b) : zl2 f FU (emb b) 0 = ex (fo F 0 n b) := by
  have key : ∀ (k fuel i : Nat) (b : β), i + k = n → k < fuel → P i b → zl2 f fuel (emb b) (nI i) = ex (fo F i k b) := by
    intro k
    induction k with
    | zero =>
      intro fuel i b hi hf hp
      cases fuel with
      | zero => omega
      | succ m =>
        have e : i = n := by omega
        subst e
        rw [zl2_s, he _ _ hp]
        rfl
    | succ k ih =>
      intro fuel i b hi hf hp
      cases fuel with
      | zero => omega
      | succ m =>
        rw [zl2_s, hs _ i b (by omega) hp]
        exact ih m (i + 1) (F i b) (by omega) (by omega) (hP i b (by omega) hp)
  exact key n FU 0 b (by omega) (by rw [FU_eq]; omega) hb
theorem zl3_forI {α γ β ρ : Type} {f : (α → γ → Int32 → Option ρ) → α → γ → Int32 → Option ρ} (emb : β → α) (emc : β → γ) (F : Nat → β → β) (ex : β → Option ρ) (n : Nat) (P : Nat → β → Prop) (hn : n < 100000) (hP : ∀ i b, i < n → P i b → P (i + 1) (F i b)) (hs : ∀ (r : α → γ → Int32 → Option ρ) (i : Nat) (b : β), i < n → P i b → f r (emb b) (emc b) (nI i) = r (emb (F i b)) (emc (F i b)) (nI (i + 1))) (he : ∀ (r : α → γ → Int32 → Option ρ) (b : β), P n b → f r (emb b) (emc b) (nI n) = ex b) (b : β) (hb : P 0 b) : zl3 f FU (emb b) (emc b) 0 = ex (fo F 0 n b) := by
  have key : ∀ (k fuel i : Nat) (b : β), i + k = n → k < fuel → P i b → zl3 f fuel (emb b) (emc b) (nI i) = ex (fo F i k b) := by
    intro k
    induction k with
    | zero =>
      intro fuel i b hi hf hp
      cases fuel with
      | zero => omega
      | succ m =>
        have e : i = n := by omega
        subst e
        rw [zl3_s, he _ _ hp]
        rfl
    | succ k ih =>
      intro fuel i b hi hf hp
      cases fuel with
      | zero => omega
      | succ m =>
        rw [zl3_s, hs _ i b (by omega) hp]
        exact ih m (i + 1) (F i b) (by omega) (by omega) (hP i b (by omega) hp)
  exact key n FU 0 b (by omega) (by rw [FU_eq]; omega) hb
def ofS (F : Nat → Nat) (p : Nat) : Int32 := sB (fun i => decide (F (12 + i) = p)) (F 1)
def wtS (F : Nat → Nat) (x : Int32) : Nat := sW (fun i => bt x i) (fun i => F (22 + i)) (F 1)
def jfS (F : Nat → Nat) (w much : Int32) : Int32 := sB (fun j => bt w j && decide (much ≤ nI (F (64 + j)))) (F 2)
theorem bt_ofS {F : Nat → Nat} (hv : VF F) {p i : Nat} (hi : i < 32) : bt (ofS F p) i = (decide (i < F 1) && decide (F (12 + i) = p)) := bt_sB _ (by have := hv.2.1; omega) hi
theorem wtC_wtS {F : Nat → Nat} (hv : VF F) (C : Nat → Int32) (p : Nat) : wtC F C p = wtS F (ofS F p &&& C 1) := by
  obtain ⟨v0, v1, v2, v3, v4, v5, v6, vs, vo, vj⟩ := id hv
  unfold wtC wtS
  refine sW_congr (fun i hi => ?_) (fun _ _ => rfl)
  rw [b_and, bt_ofS hv (by omega)]
  simp [hi]
theorem wtS_le {F : Nat → Nat} (hv : VF F) (x : Int32) : wtS F x ≤ 200 := by
  obtain ⟨v0, v1, v2, v3, v4, v5, v6, vs, vo, vj⟩ := hv
  have := sW_bound (c := fun i => bt x i) (w := fun i => F (22 + i)) (n := F 1) (m := 20) (fun j hj => (vo j hj).2.2)
  unfold wtS
  omega
theorem c_itemsOfS {R : Rf} {T : Mm} {f : Nat} {F : Nat → Nat} (hF : CF R T f F) (hv : VF F) {p : Nat} (hp : p < 5) : pX3_itemsOf R T f (nI p) = some (ofS F p) := by
  obtain ⟨v0, v1, v2, v3, v4, v5, v6, vs, vo, vj⟩ := hv
  obtain ⟨⟨q5, q6, q7, q8, q9, q10, q11, q12⟩, f0, f1, f2, f3, f4, f14, f15, cs, co, cw, ca, cb, ch⟩ := hF
  unfold pX3_itemsOf ofS
  refine zl2_set (f := pX3_itemsOf_4 R T f (nI p) (pX3_itemsOf_34 R T f (nI p))) _ (fun a => some a) (n := F 1) (by omega) ?_ ?_
  · intro r i a hi
    have ho := (vo i hi).1
    unfold pX3_itemsOf_4
    simp (disch := omega) only [lt, jn, bd1_some, bd2_some, ix_nI, ix_lit, nI_clamp, lit_clamp, lit_add, add_lit, nI_add, nI_leI, nI_ltI, nI_eq, lit_le, le_lit, lit_lt, lt_lit, lit_eq, eq_lit, if_pos, if_neg, f1, q8, co]
    by_cases e : F (12 + i) = p <;> simp [e]
  · intro r a
    unfold pX3_itemsOf_4
    simp (disch := omega) only [lt, jn, bd1_some, bd2_some, ix_nI, ix_lit, nI_clamp, lit_clamp, lit_add, add_lit, nI_add, nI_leI, nI_ltI, nI_eq, lit_le, le_lit, lit_lt, lt_lit, lit_eq, eq_lit, if_pos, if_neg, f1]
    rfl
theorem c_weightOfS {R : Rf} {T : Mm} {f : Nat} {F : Nat → Nat} (hF : CF R T f F) (hv : VF F) (x : Int32) : pX3_weightOf R T f x = some (nI (wtS F x)) := by
  obtain ⟨v0, v1, v2, v3, v4, v5, v6, vs, vo, vj⟩ := hv
  obtain ⟨⟨q5, q6, q7, q8, q9, q10, q11, q12⟩, f0, f1, f2, f3, f4, f14, f15, cs, co, cw, ca, cb, ch⟩ := hF
  unfold pX3_weightOf wtS
  refine zl2_sum (f := pX3_weightOf_4 R T f x (pX3_weightOf_35 R T f x)) _ _ (fun a => some a) (n := F 1) (by omega) ?_ ?_
  · intro r i a hi
    unfold pX3_weightOf_4
    simp (disch := omega) only [lt, jn, bd1_some, bd2_some, ix_nI, ix_lit, nI_clamp, lit_clamp, lit_add, add_lit, nI_add, nI_leI, nI_ltI, nI_eq, lit_le, le_lit, lit_lt, lt_lit, lit_eq, eq_lit, if_pos, if_neg, f1, q9, cw, bt_test]
    by_cases e : bt x i = false <;> simp [e]
  · intro r a
    unfold pX3_weightOf_4
    simp (disch := omega) only [lt, jn, bd1_some, bd2_some, ix_nI, ix_lit, nI_clamp, lit_clamp, lit_add, add_lit, nI_add, nI_leI, nI_ltI, nI_eq, lit_le, le_lit, lit_lt, lt_lit, lit_eq, eq_lit, if_pos, if_neg, f1]
    rfl
theorem m_bitOfS {R : Rf} {T : Mm} {x : Int32} {i : Nat} (hi : i < 32) : pX12_bitOf R T x (nI i) = some (if bt x i = false then 0 else 1) := by
  rw [m_bitOf]
  simp only [bt_test x hi]
theorem m_allOfS {R : Rf} {T : Mm} {F : Nat → Nat} (r6 : R 105 6 = 107) (hM : MF T F) (hv : VF F) {p : Nat} (hp : p < 5) : pX12_allOf R T 105 (nI p) = some (ofS F p) := by
  obtain ⟨v0, v1, v2, v3, v4, v5, v6, vs, vo, vj⟩ := hv
  have hm : ∀ k, k < 80 → T.1 107 k = nI (F k) := hM
  unfold pX12_allOf ofS
  refine zl2_set (f := pX12_allOf_4 R T 105 (nI p) (pX12_allOf_43 R T 105 (nI p))) _ (fun a => some a) (n := F 1) (by omega) ?_ ?_
  · intro r i a hi
    have ho := (vo i hi).1
    unfold pX12_allOf_4
    simp (disch := omega) only [lt, jn, bd1_some, bd2_some, ix_nI, ix_lit, nI_clamp, lit_clamp, lit_add, add_lit, nI_add, nI_leI, nI_ltI, nI_eq, lit_le, le_lit, lit_lt, lt_lit, lit_eq, eq_lit, if_pos, if_neg, r6, hm]
    by_cases e : F (12 + i) = p <;> simp [e]
  · intro r a
    unfold pX12_allOf_4
    simp (disch := omega) only [lt, jn, bd1_some, bd2_some, ix_nI, ix_lit, nI_clamp, lit_clamp, lit_add, add_lit, nI_add, nI_leI, nI_ltI, nI_eq, lit_le, le_lit, lit_lt, lt_lit, lit_eq, eq_lit, if_pos, if_neg, r6, hm]
    rfl
theorem m_weighsInS {R : Rf} {T : Mm} {F : Nat → Nat} (r6 : R 105 6 = 107) (hM : MF T F) (hv : VF F) (x : Int32) : pX12_weighsIn R T 105 x = some (nI (wtS F x)) := by
  obtain ⟨v0, v1, v2, v3, v4, v5, v6, vs, vo, vj⟩ := hv
  have hm : ∀ k, k < 80 → T.1 107 k = nI (F k) := hM
  unfold pX12_weighsIn wtS
  refine zl2_sum (f := pX12_weighsIn_4 R T 105 x (pX12_weighsIn_44 R T 105 x)) _ _ (fun a => some a) (n := F 1) (by omega) ?_ ?_
  · intro r i a hi
    unfold pX12_weighsIn_4
    rw [m_bitOfS (by omega)]
    simp (disch := omega) only [lt, jn, bd1_some, bd2_some, ix_nI, ix_lit, nI_clamp, lit_clamp, lit_add, add_lit, nI_add, nI_leI, nI_ltI, nI_eq, lit_le, le_lit, lit_lt, lt_lit, lit_eq, eq_lit, if_pos, if_neg, r6, hm]
    by_cases e : bt x i = false <;> simp [e]
  · intro r a
    unfold pX12_weighsIn_4
    simp (disch := omega) only [lt, jn, bd1_some, bd2_some, ix_nI, ix_lit, nI_clamp, lit_clamp, lit_add, add_lit, nI_add, nI_leI, nI_ltI, nI_eq, lit_le, le_lit, lit_lt, lt_lit, lit_eq, eq_lit, if_pos, if_neg, r6, hm]
    rfl
theorem m_barrelOfS {R : Rf} {T : Mm} {F : Nat → Nat} {n : Nat} {C : Nat → Int32} (r6 : R 105 6 = 107) (hM : MF T F) (hv : VF F) {p : Nat} (hp : p < 5) : pX12_barrelOf R (setM T n C) 105 (nI p) = some (ofS F p &&& C 1) := by
  unfold pX12_barrelOf
  rw [m_allOfS r6 hM.sM hv hp, bd1_some, ix_lit (by decide) (by decide), lit_clamp (by decide), r6, setM_1]
theorem m_weightOfS {R : Rf} {T : Mm} {F : Nat → Nat} {n : Nat} {C : Nat → Int32} (r6 : R 105 6 = 107) (hM : MF T F) (hv : VF F) {p : Nat} (hp : p < 5) : pX12_weightOf R (setM T n C) 105 (nI p) = some (nI (wtC F C p)) := by
  unfold pX12_weightOf
  rw [m_barrelOfS r6 hM hv hp, bd1_some, m_weighsInS r6 hM.sM hv, bd1_some, wtC_wtS hv]
theorem m_flowOnS {R : Rf} {T : Mm} {F : Nat → Nat} (r6 : R 105 6 = 107) (hM : MF T F) (d : Int32) : pX12_flowOn R T 105 d = some (flS F d) := by
  have hm : ∀ k, k < 80 → T.1 107 k = nI (F k) := hM
  rw [m_flowOn, r6, hm 4 (by decide), hm 5 (by decide), hm 6 (by decide)]
  rfl
theorem m_flowNowS {R : Rf} {T : Mm} {F : Nat → Nat} {n : Nat} {C : Nat → Int32} (r6 : R 105 6 = 107) (hM : MF T F) : pX12_flowNow R (setM T n C) 105 = some (flS F (C 0)) := by
  unfold pX12_flowNow
  rw [ix_lit (by decide) (by decide), lit_clamp (by decide), r6, setM_0, m_flowOnS r6 hM.sM, bd1_some]
theorem m_joinsFromS {R : Rf} {T : Mm} {F : Nat → Nat} {w : Int32} (r6 : R 105 6 = 107) (hM : MF T F) (hw : T.1 107 82 = w) (hv : VF F) (much : Int32) : pX12_joinsFrom R T 105 much = some (jfS F w much) := by
  obtain ⟨v0, v1, v2, v3, v4, v5, v6, vs, vo, vj⟩ := hv
  have hm : ∀ k, k < 80 → T.1 107 k = nI (F k) := hM
  unfold pX12_joinsFrom jfS
  refine zl2_set (f := pX12_joinsFrom_4 R T 105 much (pX12_joinsFrom_57 R T 105 much)) _ (fun a => some a) (n := F 2) (by omega) ?_ ?_
  · intro r j a hj
    unfold pX12_joinsFrom_4
    rw [m_bitOfS (by omega)]
    simp (disch := omega) only [lt, jn, bd1_some, bd2_some, ix_nI, ix_lit, nI_clamp, lit_clamp, lit_add, add_lit, nI_add, nI_leI, nI_ltI, nI_eq, lit_le, le_lit, lit_lt, lt_lit, lit_eq, eq_lit, if_pos, if_neg, r6, hm, hw]
    by_cases e : bt w j = false
    · simp [e]
    · by_cases e2 : nI (F (64 + j)) < much
      · have e3 : ¬ much ≤ nI (F (64 + j)) := Int32.not_le.mpr e2
        simp [e, e2, e3]
      · have e3 : much ≤ nI (F (64 + j)) := Int32.not_lt.mp e2
        simp [e, e2, e3]
  · intro r a
    unfold pX12_joinsFrom_4
    simp (disch := omega) only [lt, jn, bd1_some, bd2_some, ix_nI, ix_lit, nI_clamp, lit_clamp, lit_add, add_lit, nI_add, nI_leI, nI_ltI, nI_eq, lit_le, le_lit, lit_lt, lt_lit, lit_eq, eq_lit, if_pos, if_neg, r6, hm]
    rfl
theorem m_plungesS {R : Rf} {T : Mm} {F : Nat → Nat} (r6 : R 105 6 = 107) (hM : MF T F) (hv : VF F) {p : Nat} (hp : p < F 0) (C : Nat → Int32) : pX12_plunges R (setM T (F 2) C) 105 (nI p) = some (setM T (F 2) (uC (uC (uC C 2 (C 2 ||| brS F p)) (4 + p) 2) 3 (C 3 + 1))) := by
  obtain ⟨v0, v1, v2, v3, v4, v5, v6, vs, vo, vj⟩ := id hv
  have hm : ∀ D : Nat → Int32, ∀ k, k < 80 → (setM T (F 2) D).1 107 k = nI (F k) := fun D => hM.sM
  have hu : uC C 2 (C 2) = C := uC_id
  have key := zl3_forI (f := pX12_plunges_23 R 105 (nI p) (pX12_plunges_83 R 105 (nI p))) (fun b => setM T (F 2) (uC C 2 b)) (fun _ => jfS F (wh (F 2) (C 2)) (nI (F 3) - nI (F (7 + p)))) (fun j a => if (decide (F (12 + F (32 + j)) = p) && !(bt (wh (F 2) (C 2)) j && decide (nI (F 3) - nI (F (7 + p)) ≤ nI (F (64 + j))))) = true then a ||| ((1 : Int32) <<< (nI j &&& 31)) else a) (fun b => some (setM T (F 2) (uC (uC (uC C 2 b) (4 + p) 2) 3 (C 3 + 1)))) (F 2) (fun _ _ => True) (by omega) (fun _ _ _ _ => trivial) ?_ ?_ (C 2) trivial
  · unfold pX12_plunges
    rw [m_joinsFromS r6 hM.sM setM_2 hv]
    simp (disch := omega) only [lt, jn, bd1_some, bd2_some, ix_nI, ix_lit, nI_clamp, lit_clamp, lit_add, add_lit, nI_add, nI_leI, nI_ltI, nI_eq, lit_le, le_lit, lit_lt, lt_lit, lit_eq, eq_lit, if_pos, if_neg, r6, hm]
    rw [hu] at key
    rw [key, fo_or _ (by omega)]
    congr 5
    apply b_ext
    intro i hi
    unfold brS
    rw [b_or, b_or, bt_sB _ (by omega) hi, bt_sB _ (by omega) hi, bt_wh (by omega) hi]
    by_cases e1 : i < F 2
    · cases bt (C 2) i <;> simp [e1]
    · simp [e1]
  · intro r j b hj _
    have h1 := (vj j hj).1
    have h2 := (vo _ h1).1
    have h3 : bt (jfS F (wh (F 2) (C 2)) (nI (F 3) - nI (F (7 + p)))) j = (bt (wh (F 2) (C 2)) j && decide (nI (F 3) - nI (F (7 + p)) ≤ nI (F (64 + j)))) := by
      unfold jfS
      rw [bt_sB _ (by omega) (by omega)]
      simp [hj]
    unfold pX12_plunges_23
    rw [m_bitOfS (by omega), h3]
    simp (disch := omega) only [lt, jn, bd1_some, bd2_some, ix_nI, ix_lit, nI_clamp, lit_clamp, lit_add, add_lit, nI_add, nI_leI, nI_ltI, nI_eq, lit_le, le_lit, lit_lt, lt_lit, lit_eq, eq_lit, if_pos, if_neg, r6, hm, setM_2]
    by_cases e1 : F (12 + F (32 + j)) = p
    · by_cases e2 : (bt (wh (F 2) (C 2)) j && decide (nI (F 3) - nI (F (7 + p)) ≤ nI (F (64 + j)))) = false
      · simp only [e1, e2, if_pos, decide_true, Bool.not_false, Bool.and_self]
        rw [setM_w2 (b ||| ((1 : Int32) <<< (nI j &&& 31))) (by rw [uC_s, wh_or (by omega) (by omega)])]
        congr 2
        funext k
        by_cases hk : k = 2
        · subst hk; simp [uC_s]
        · simp [uC_n hk]
      · have e3 : (bt (wh (F 2) (C 2)) j && decide (nI (F 3) - nI (F (7 + p)) ≤ nI (F (64 + j)))) = true := by simpa using e2
        simp only [e1, e3]
        simp
    · simp [e1]
  · intro r b _
    unfold pX12_plunges_23 pX12_plunges_83
    simp (disch := omega) only [lt, jn, bd1_some, bd2_some, ix_nI, ix_lit, nI_clamp, lit_clamp, lit_add, add_lit, nI_add, nI_leI, nI_ltI, nI_eq, lit_le, le_lit, lit_lt, lt_lit, lit_eq, eq_lit, if_pos, if_neg, r6, hm, setM_wh, setM_3, setM_w3, uC_n]
theorem m_hangsS {R : Rf} {T : Mm} {F : Nat → Nat} (r6 : R 105 6 = 107) (hM : MF T F) (hv : VF F) {p : Nat} (hp : p < F 0) (C : Nat → Int32) : pX12_hangs R (setM T (F 2) C) 105 (nI p) = some (setM T (F 2) (dropS F (uC C (4 + p) 1) p)) := by
  have v0 := hv.1
  unfold pX12_hangs dropS
  simp (disch := omega) only [lt, jn, bd1_some, bd2_some, ix_nI, ix_lit, nI_clamp, lit_clamp, lit_add, add_lit, nI_add, nI_leI, nI_ltI, nI_eq, lit_le, le_lit, lit_lt, lt_lit, lit_eq, eq_lit, if_pos, if_neg, r6, setM_wh]
  rw [m_weightOfS r6 hM hv (by omega), m_flowNowS r6 hM, m_plungesS r6 hM hv hp]
  simp only [bd1_some, uC_s]
  by_cases h : flS F (uC C (4 + p) 1 0) < nI (wtC F (uC C (4 + p) 1) p)
  · rw [if_pos h, if_neg (fun q => Int32.not_le.mpr h q.2)]
  · rw [if_neg h, if_pos ⟨trivial, Int32.not_lt.mp h⟩]
