theorem bd_owner {R : Rf} {T : Mm} {f : Nat} {F : Nat → Nat} (hF : CF R T f F) (hv : VF F) {j : Nat} (hj : j < F 2) : pX3_ownerOfJoin R T f (nI j) = some (nI (F (12 + F (32 + j)))) := by
  obtain ⟨v0, v1, v2, v3, v4, v5, v6, vs, vo, vj⟩ := hv
  obtain ⟨⟨q5, q6, q7, q8, q9, q10, q11, q12⟩, f0, f1, f2, f3, f4, f14, f15, cs, co, cw, ca, cb, ch⟩ := hF
  have h1 := (vj j hj).1
  unfold pX3_ownerOfJoin
  simp (disch := omega) only [lt, jn, bd1_some, bd2_some, ix_nI, ix_lit, nI_clamp, lit_clamp, lit_add, add_lit, nI_add, nI_leI, nI_ltI, nI_eq, lit_le, le_lit, lit_lt, lt_lit, lit_eq, eq_lit, if_pos, if_neg, q8, q10, ca, co]
/-- Course.dropIfLight -/
theorem c_drop {R : Rf} {T : Mm} {f c : Nat} {F : Nat → Nat} (hF : CF R T f F) (hv : VF F) (hc : R c 4 = c + 1) (hd : c + 1 < f ∨ f + 8 < c) {p : Nat} (hp : p < F 0) (C : Nat → Int32) : pX1_dropIfLight R (setC T c C) c f (nI p) = some (setC T c (dropS F C p)) := by
  have hF' : ∀ D, CF R (setC T c D) f F := fun D => hF.sC hd
  have hw := c_weight (C := C) (hF' C) hv (setC_c (by decide)) (p := p) (by have := hv.1; omega)
  have hfl : pX3_flowOn R (setC T c C) f ((setC T c C).1 c 0) = some (flS F (C 0)) := by
    rw [c_flowOn, setC_c (by decide)]
    obtain ⟨⟨q5, q6, q7, q8, q9, q10, q11, q12⟩, f0, f1, f2, f3, f4, f14, f15, cs, co, cw, ca, cb, ch⟩ := hF' C
    rw [f4, f14, f15]
    rfl
  obtain ⟨v0, v1, v2, v3, v4, v5, v6, vs, vo, vj⟩ := id hv
  have hloop : zl2 (pX1_dropIfLight_30 R c f (nI p) (pX1_dropIfLight_85 R c f (nI p))) FU (setC T c C) 0 = some (setC T c (uC (uC (uC C 2 (C 2 ||| brS F p)) (4 + p) 2) 3 (C 3 + 1))) := by
    have key := zl2_forE (f := pX1_dropIfLight_30 R c f (nI p) (pX1_dropIfLight_85 R c f (nI p))) (fun b => setC T c (uC C 2 b)) (fun j a => if (decide (F (12 + F (32 + j)) = p) && !decide (nI (F 3) - nI (F (7 + p)) ≤ nI (F (64 + j)))) = true then a ||| ((1 : Int32) <<< (nI j &&& 31)) else a) (fun b => some (setC T c (uC (uC (uC C 2 b) (4 + p) 2) 3 (C 3 + 1)))) (F 2) (by omega) ?_ ?_ (C 2)
    · rw [uC_id] at key
      rw [key, fo_or _ (by omega)]
      rfl
    · intro r j b hj
      have ho := bd_owner (hF' (uC C 2 b)) hv hj
      have h1 := (vj j hj).1
      have h2 := (vo _ h1).1
      obtain ⟨⟨q5, q6, q7, q8, q9, q10, q11, q12⟩, f0, f1, f2, f3, f4, f14, f15, cs, co, cw, ca, cb, ch⟩ := hF' (uC C 2 b)
      unfold pX1_dropIfLight_30
      rw [ho]
      simp (disch := omega) only [lt, jn, bd1_some, bd2_some, ix_nI, ix_lit, nI_clamp, lit_clamp, lit_add, add_lit, nI_add, nI_leI, nI_ltI, nI_eq, lit_le, le_lit, lit_lt, lt_lit, lit_eq, eq_lit, if_pos, if_neg, f2, f3, q5, q12, cs, ch, setC_c, uC_s, setC_w]
      by_cases e1 : F (12 + F (32 + j)) = p
      · by_cases e2 : nI (F 3) - nI (F (7 + p)) ≤ nI (F (64 + j))
        · simp [e1, e2]
        · simp [e1, e2]
          congr 1
          congr 1
          funext k
          by_cases hk : k = 2
          · subst hk; simp [uC_s]
          · simp [uC_n hk]
      · simp [e1]
    · intro r b
      obtain ⟨⟨q5, q6, q7, q8, q9, q10, q11, q12⟩, f0, f1, f2, f3, f4, f14, f15, cs, co, cw, ca, cb, ch⟩ := hF' (uC C 2 b)
      unfold pX1_dropIfLight_30 pX1_dropIfLight_85
      simp (disch := omega) only [lt, jn, bd1_some, bd2_some, ix_nI, ix_lit, nI_clamp, lit_clamp, lit_add, add_lit, nI_add, nI_leI, nI_ltI, nI_eq, lit_le, le_lit, lit_lt, lt_lit, lit_eq, eq_lit, if_pos, if_neg, f2, hc, setC_wh, setC_c, setC_w, uC_n]
  unfold pX1_dropIfLight dropS
  rw [ix_nI (by omega) (by omega), nI_clamp (by omega), hc, setC_h (by omega), hw, hfl]
  simp only [bd1_some]
  by_cases h1 : C (4 + p) = 1
  · rw [if_pos h1]
    by_cases h2 : nI (wtC F C p) ≤ flS F (C 0)
    · rw [if_pos h2, if_pos ⟨h1, h2⟩, hloop]
    · rw [if_neg h2, if_neg (fun q => h2 q.2)]
  · rw [if_neg h1, if_neg (fun q => h1 q.1)]
