/-! the reference's draws -/
theorem m_drawPersonS {R : Rf} {T : Mm} {F : Nat → Nat} (r6 : R 105 6 = 107) (hM : MF T F) (hv : VF F) {p : Nat} (hp : p < F 0) (s : Int32 × (Nat → Int32)) : pX12_drawPerson R (emM T (F 2) s) 105 (nI p) = some (emM T (F 2) (dpS F p s)) := by
  obtain ⟨x, C⟩ := s
  have v0 := hv.1
  have hM' : ∀ x, MF (wI T 105 36 x) F := fun x => hM.sw (by decide)
  have hlt := rdS_lt (x := nxS x) (n := 8) (by decide)
  have g3 : ∀ x C, (emM T (F 2) (x, C)).1 107 (84 + p) = C (4 + p) := fun x C => setM_h (by omega)
  have g4 : ∀ x C v, wI (emM T (F 2) (x, C)) 107 (84 + p) v = emM T (F 2) (x, uC C (4 + p) v) := fun x C v => setM_wh (by omega)
  unfold pX12_drawPerson pX12_drawPerson_31 dpS
  rw [m_draw (y := 8) (n := 8) rfl (by decide) (by decide), bd2_some]
  simp (disch := omega) only [lt, jn, bd1_some, bd2_some, ix_nI, ix_lit, nI_clamp, lit_clamp, lit_add, add_lit, nI_add, nI_leI, nI_ltI, nI_eq, lit_le, le_lit, lit_lt, lt_lit, lit_eq, eq_lit, if_pos, if_neg, r6, g3, g4]
  by_cases e : rdS (nxS x) 8 = 0
  · have e1 : ¬ rdS (nxS x) 8 = 1 := by omega
    rw [if_pos e, if_pos e]
    unfold goS
    by_cases e2 : C (4 + p) = 0
    · have hh := m_hangsS r6 (hM' (nxS x)) hv hp C
      rw [if_pos e2, if_pos e2]
      unfold emM
      rw [hh, bd1_some]
    · rw [if_neg e2, if_neg e2]
  · by_cases e1 : rdS (nxS x) 8 = 1
    · rw [if_neg e, if_neg e, if_pos e1, if_pos e1]
      unfold frS
      by_cases e2 : C (4 + p) = 2
      · rw [if_pos e2, if_pos e2]
      · rw [if_neg e2, if_neg e2]
    · rw [if_neg e, if_neg e, if_neg e1, if_neg e1]
theorem m_drawItemS {R : Rf} {T : Mm} {F : Nat → Nat} (r6 : R 105 6 = 107) (hM : MF T F) (hv : VF F) (s : Int32 × (Nat → Int32)) : pX12_drawItem R (emM T (F 2) s) 105 = some (emM T (F 2) (diS F s)) := by
  obtain ⟨x, C⟩ := s
  obtain ⟨v0, v1, v2, v3, v4, v5, v6, vs, vo, vj⟩ := id hv
  have hM' : ∀ x, MF (wI T 105 36 x) F := fun x => hM.sw (by decide)
  have hm : ∀ x C k, k < 80 → (emM T (F 2) (x, C)).1 107 k = nI (F k) := fun x C => (hM' x).sM
  have g1 : ∀ x C, (emM T (F 2) (x, C)).1 107 81 = C 1 := fun x C => setM_1
  have g2 : ∀ x C, (emM T (F 2) (x, C)).1 107 82 = wh (F 2) (C 2) := fun x C => setM_2
  have w1 : ∀ x C v, wI (emM T (F 2) (x, C)) 107 81 v = emM T (F 2) (x, uC C 1 v) := fun x C v => setM_w1
  have hlt := rdS_lt (x := nxS x) (n := 4) (by decide)
  have h81 : ∀ (x : Int32) (C : Nat → Int32) (u : Nat), u < 4 → pX12_drawItem_81 R 105 (emM T (F 2) (x, C)) (nI u) = some (if u = 1 ∧ 0 < F 2 then emM T (F 2) (nxS x, (bdS F C (rdS (nxS x) (F 2))).2) else emM T (F 2) (x, C)) := by
    intro x C u hu
    unfold pX12_drawItem_81
    simp (disch := omega) only [lt, jn, bd1_some, bd2_some, ix_nI, ix_lit, nI_clamp, lit_clamp, lit_add, add_lit, nI_add, nI_leI, nI_ltI, nI_eq, lit_le, le_lit, lit_lt, lt_lit, lit_eq, eq_lit, if_pos, if_neg, r6, hm]
    by_cases e : u = 1
    · by_cases e2 : 0 < F 2
      · rw [if_pos e, if_neg (by omega), if_pos ⟨e, e2⟩, m_draw rfl e2 (by omega), bd2_some]
        have hj := rdS_lt (x := nxS x) e2
        generalize rdS (nxS x) (F 2) = j at hj ⊢
        have hb := m_whyBindS r6 (hM' (nxS x)) hv hj C
        simp only [g2]
        unfold emM
        rw [hb, bd1_some]
        unfold bdS
        by_cases e1 : bt (C 2) j = false
        · simp [e1]
        · by_cases e2 : bt (C 1) (F (32 + j)) = false
          · simp [e1, e2]
          · by_cases e3 : bt (C 1) (F (48 + j)) = false
            · simp [e1, e2, e3]
            · by_cases e4 : C (4 + F (12 + F (32 + j))) = 0
              · simp only [e1, e2, e3, e4, if_true, if_false]
                rw [setM_w2 (C 2 &&& (((1 : Int32) <<< (nI j &&& 31)) ^^^ (-1 : Int32))) (wh_clr (by omega) hj)]
                rfl
              · simp [e1, e2, e3, e4]
      · have e3 : F 2 = 0 := by omega
        rw [if_pos e, if_pos e3, if_neg (by omega)]
    · rw [if_neg e, if_neg (fun q => e q.1)]
  unfold pX12_drawItem diS
  rw [m_draw (y := 4) (n := 4) rfl (by decide) (by decide), bd2_some]
  simp (disch := omega) only [lt, jn, bd1_some, bd2_some, ix_nI, ix_lit, nI_clamp, lit_clamp, lit_add, add_lit, nI_add, nI_leI, nI_ltI, nI_eq, lit_le, le_lit, lit_lt, lt_lit, lit_eq, eq_lit, if_pos, if_neg, r6, hm]
  by_cases e : rdS (nxS x) 4 = 0
  · rw [if_pos e]
    have h810 : ∀ (x' : Int32) (C' : Nat → Int32), pX12_drawItem_81 R 105 (emM T (F 2) (x', C')) (nI (rdS (nxS x) 4)) = some (emM T (F 2) (x', C')) := by
      intro x' C'
      rw [h81 x' C' _ hlt, if_neg (by omega)]
    by_cases e2 : 0 < F 1
    · have hi := rdS_lt (x := nxS (nxS x)) e2
      rw [if_neg (by omega), m_draw rfl e2 (by omega), bd2_some, if_pos ⟨e, e2⟩]
      generalize rdS (nxS (nxS x)) (F 1) = i at hi ⊢
      have hb1 := m_whyLoadS r6 (hM' (nxS (nxS x))) hv hi C
      have hb2 := m_whyUnloadS r6 (hM' (nxS (nxS x))) hv hi C
      have hb3 : pX12_takesOut R (emM T (F 2) (nxS (nxS x), C)) 105 (nI i) = some (emM T (F 2) (nxS (nxS x), dropS F (uC (uC C 1 (C 1 &&& ((1 <<< (nI i &&& 31)) ^^^ (-1 : Int32)))) 2 (C 2 ||| jaS F i)) (F (12 + i)))) := m_takesOutS r6 (hM' (nxS (nxS x))) hv hi C
      change pX12_whyLoad R (emM T (F 2) (nxS (nxS x), C)) 105 (nI i) = _ at hb1
      change pX12_whyUnload R (emM T (F 2) (nxS (nxS x), C)) 105 (nI i) = _ at hb2
      rw [m_bitOfS (by omega), bd1_some, g1, hb1, hb2, hb3]
      simp only [bd1_some, w1, h810]
      unfold ldS unS
      by_cases e3 : bt (C 1) i = false
      · rw [if_pos e3, if_pos rfl, if_pos e3, if_pos e3]
        by_cases e4 : C (4 + F (12 + i)) = 0
        · rw [if_pos e4, if_pos rfl]
        · rw [if_neg e4, if_neg (show ¬ (2 : Int32) = 0 by decide)]
      · rw [if_neg e3, if_neg (by decide), if_neg e3, if_neg e3]
        by_cases e4 : C (4 + F (12 + i)) < 2
        · rw [if_pos e4, if_pos rfl]
        · rw [if_neg e4, if_neg (show ¬ (2 : Int32) = 0 by decide)]
    · rw [if_pos (by omega), if_neg (by omega), if_neg (by omega), h810]
  · rw [if_neg e, if_neg (fun q => e q.1), h81 _ _ _ hlt]
    by_cases e2 : rdS (nxS x) 4 = 1 ∧ 0 < F 2
    · rw [if_pos e2, if_pos e2]
    · rw [if_neg e2, if_neg e2]
