/-! the reference's person, item, join of FALLS, and a line -/
theorem uT_row {G H : Nat → Nat} (k : Nat) (h : k < 80) (e : ∀ k, k < 80 → G k = H k) : nI (G k) = nI (H k) := by rw [e k h]
theorem m_readPerson {R : Rf} {T : Mm} {b : Nat → Nat} {L M t : Nat} {F : Nat → Nat} {N : Nat → List Nat} (hr : RM R) (h : CuM T b L M t) (hg : MG T F N) (hv : VF F) (hN : NW F N) (hk : kkS b L M t ≠ 0) : MP R b L M T (pX12_readPerson R T 105) (rF2 b L M F N t) := by
  obtain ⟨r1, r6, r7, r8, r9, r10, r21, r22, r28, r32, r33, r34, r38, r40, r46, r47, r48, r49⟩ := id hr
  obtain ⟨v0, v1, v2, v3, v4, v5, v6, vs, vo, vj⟩ := id hv
  obtain ⟨g1, g2, g3, g4, g5⟩ := id hg
  obtain ⟨V, v1, v2, v3⟩ := m_nextS (R := R) r1 h hk
  unfold pX12_readPerson rF2
  simp (disch := omega) only [lt, ix_lit, lit_clamp]
  rw [r7, g1 0 (by omega), m_bad4 h, bd2_some, bz_0, v1, bd1_some]
  simp (disch := omega) only [eq_lit, lit_add]
  by_cases e : F 0 < 5
  · rw [if_pos e, if_neg (by omega)]
    have hgV := hg.fx v2
    have fr : FQ T V := FQ.refl.x v2
    obtain ⟨n1, n3, W, w1, w2, w3⟩ | ⟨k, p, n1, n2⟩ := m_fresh (x := nI (15 + F 0)) (q := 15 + F 0) hr v3 hgV hv hN rfl (by omega)
    · rw [n1, paD_o, w1, bd2_some, if10]
      have fr2 : FQ T W := (fr.n (by omega)).x w2
      obtain ⟨v, X, p1, p2, p3, p4, p5, p6, p7, p15, p8, p9⟩ | ⟨k, p, p1, p2⟩ := m_puts (w := nI (7 + F 0)) (y := 0) (z := 9) (x := 7 + F 0) (lo := 0) (hi := 9) hr w3 rfl (by omega) rfl rfl (by omega) (by omega)
      · rw [show t + 2 = t + 1 + 1 from rfl, p1, paD_o, p2, bd2_some, if10]
        have e108 : W.1 108 = T.1 108 := (w2.1 108 (by decide)).1.trans (v2.1 108 (by decide)).1
        have e110 : W.2 110 = uT (T.2 110) (15 + F 0) (w8 (wwS b L (t + 1))) := by
          rw [(w2.1 110 (by decide)).2, wJ_row, (v2.1 110 (by decide)).2]
        have e20 : W.1 105 20 = T.1 105 20 := by
          rw [w2.2.1 20 (by decide) (by decide) (by decide) (by decide) (by decide)]
          exact v2.2.1 20 (by decide) (by decide) (by decide) (by decide) (by decide)
        have ex0 : X.1 108 0 = nI (F 0) := by rw [p5, uT_n (by omega), e108, g1 0 (by omega)]
        rw [ex0, nI_1]
        refine ⟨1, _, rfl, (fr2.trans p3).h8, Or.inr ⟨_, _, _, rfl, rfl, by rw [wI_n (Or.inl (by decide)), p15, w2.f15]; exact v2.f15, ⟨?_, ?_, ?_, ?_, ?_⟩, p4.wa (by decide) (by decide)⟩⟩
        · intro k hk8
          rw [wI_row, p5, e108, uT_nI (uT_nI g1 (7 + F 0) v) 0 (F 0 + 1) k hk8]
        · rw [wI_n (Or.inl (by decide)), p7, e20, g2]
          simp (disch := omega) only [uT_n]
        · rw [wI_n (Or.inl (by decide)), p7, e20, g3]
          simp (disch := omega) only [uT_n]
        · intro p hp
          simp only [uT_s] at hp
          show X.2 110 _ = _
          rw [p6, e110]
          by_cases e2 : p = F 0
          · subst e2; rw [uT_s, uT_s]
          · rw [uT_n (by omega), uT_n e2]; exact g4 p (by omega)
        · intro p hp
          simp (disch := omega) only [uT_n] at hp
          show X.2 110 _ = _
          rw [p6, e110, uT_n (by omega), uT_n (by omega)]; exact g5 p hp
      · rw [show t + 2 = t + 1 + 1 from rfl, p1, paD_b, p2, bd2_some, if_pos rfl]
        exact MP.fl fr2
    · rw [n1, paD_b, n2, bd2_some, if_pos rfl]
      exact MP.fl fr
  · rw [if_neg e, if_pos (by omega)]
    exact MP.fl FQ.refl
theorem m_readItem {R : Rf} {T : Mm} {b : Nat → Nat} {L M t : Nat} {F : Nat → Nat} {N : Nat → List Nat} (hr : RM R) (h : CuM T b L M t) (hg : MG T F N) (hv : VF F) (hN : NW F N) (hk : kkS b L M t ≠ 0) : MP R b L M T (pX12_readItem R T 105) (rF3 b L M F N t) := by
  obtain ⟨r1, r6, r7, r8, r9, r10, r21, r22, r28, r32, r33, r34, r38, r40, r46, r47, r48, r49⟩ := id hr
  obtain ⟨v0, v1, v2, v3, v4, v5, v6, vs, vo, vj⟩ := id hv
  obtain ⟨g1, g2, g3, g4, g5⟩ := id hg
  obtain ⟨V, v1, v2, v3⟩ := m_nextS (R := R) r1 h hk
  unfold pX12_readItem rF3
  simp (disch := omega) only [lt, ix_lit, lit_clamp]
  rw [r7, g1 1 (by omega), m_bad4 h, bd2_some, bz_0, v1, bd1_some]
  simp (disch := omega) only [eq_lit, lit_add]
  by_cases e : F 1 < 10
  · rw [if_pos e, if_neg (by omega)]
    have hgV := hg.fx v2
    have fr : FQ T V := FQ.refl.x v2
    obtain ⟨n1, n3, W, w1, w2, w3⟩ | ⟨k, p, n1, n2⟩ := m_fresh (x := nI (20 + F 1)) (q := 20 + F 1) hr v3 hgV hv hN rfl (by omega)
    · rw [n1, paD_o, w1, bd2_some, if10]
      have fr2 : FQ T W := (fr.n (by omega)).x w2
      have e108 : W.1 108 = T.1 108 := (w2.1 108 (by decide)).1.trans (v2.1 108 (by decide)).1
      have e110 : W.2 110 = uT (T.2 110) (20 + F 1) (w8 (wwS b L (t + 1))) := by
        rw [(w2.1 110 (by decide)).2, wJ_row, (v2.1 110 (by decide)).2]
      have e20 : W.1 105 20 = T.1 105 20 := by
        rw [w2.2.1 20 (by decide) (by decide) (by decide) (by decide) (by decide)]
        exact v2.2.1 20 (by decide) (by decide) (by decide) (by decide) (by decide)
      rw [e108, g1 0 (by omega), show t + 2 = t + 1 + 1 from rfl]
      obtain ⟨x, X, o1, o2, o3, o4, o5, o6⟩ | ⟨k, p, U, o1, o2, o3⟩ := m_takesNameG (x := 15) (y := nI (F 0)) (base := 15) (cnt := F 0) (N := N) hr w3 rfl rfl (by omega) hN.1 (fun i hi => by rw [e110, uT_n (by omega)]; exact g4 i hi)
      · have hx : x < F 0 := fnP_lt o2
        have o1' : naP b L M (t + 1 + 1) (fnP F N (wwS b L (t + 1 + 1))) = paO x := o1
        rw [o1', paD_o, o4, bd2_some, if10, ix_nI (by omega) (by decide), nI_clamp (by omega)]
        have fr3 : FQ T X := (fr2.w (by omega)).x o5
        have e18 : X.1 105 18 = nI x := (o5.2.1 18 (by decide) (by decide) (by decide) (by decide) (by decide)).trans wI_s
        rw [e18, show t + 3 = t + 1 + 1 + 1 from rfl]
        obtain ⟨v, Y, p1, p2, p3, p4, p5, p6, p7, p15, p8, p9⟩ | ⟨k, p, p1, p2⟩ := m_puts (w := nI (22 + F 1)) (y := 1) (z := 20) (x := 22 + F 1) (lo := 1) (hi := 20) hr (o6.wa (a := 108) (k := 12 + F 1) (v := nI x) (by decide) (by decide)) rfl (by omega) rfl rfl (by omega) (by omega)
        · rw [p1, paD_o, p2, bd2_some, if10]
          have f108 : Y.1 108 = uT (uT (T.1 108) (12 + F 1) (nI x)) (22 + F 1) (nI v) := by
            rw [p5, wI_row, (o5.1 108 (by decide)).1, wI_1, up2_row (by decide), e108]
          have f110 : Y.2 110 = uT (T.2 110) (20 + F 1) (w8 (wwS b L (t + 1))) := by
            rw [p6]
            show X.2 110 = _
            rw [(o5.1 110 (by decide)).2]
            exact e110
          have f20 : Y.1 105 20 = T.1 105 20 := by
            rw [p7, wI_n (Or.inl (by decide)), o5.2.1 20 (by decide) (by decide) (by decide) (by decide) (by decide), wI_n (Or.inr (by decide)), e20]
          have ex0 : Y.1 108 1 = nI (F 1) := by rw [f108, uT_n (by omega), uT_n (by omega), g1 1 (by omega)]
          rw [ex0, nI_1]
          refine ⟨1, _, rfl, (fr3.h8.trans p3).h8, Or.inr ⟨_, _, _, rfl, rfl, by rw [wI_n (Or.inl (by decide)), p15, wI_n (Or.inl (by decide)), o5.f15, wI_n (Or.inr (by decide)), w2.f15]; exact v2.f15, ⟨?_, ?_, ?_, ?_, ?_⟩, p4.wa (by decide) (by decide)⟩⟩
          · intro k hk8
            rw [wI_row, f108, uT_nI (uT_nI (uT_nI g1 (12 + F 1) x) (22 + F 1) v) 1 (F 1 + 1) k hk8]
          · rw [wI_n (Or.inl (by decide)), f20, g2]
            simp (disch := omega) only [uT_n]
          · rw [wI_n (Or.inl (by decide)), f20, g3]
            simp (disch := omega) only [uT_n]
          · intro p hp
            simp (disch := omega) only [uT_n] at hp
            show Y.2 110 _ = _
            rw [f110, uT_n (by omega), uT_n (by omega)]; exact g4 p hp
          · intro p hp
            simp only [uT_s] at hp
            show Y.2 110 _ = _
            rw [f110]
            by_cases e2 : p = F 1
            · subst e2; rw [uT_s, uT_s]
            · rw [uT_n (by omega), uT_n (by omega)]; exact g5 p (by omega)
        · rw [p1, paD_b, p2, bd2_some, if_pos rfl]
          exact MP.fl fr3.h8
      · have o1' : naP b L M (t + 1 + 1) (fnP F N (wwS b L (t + 1 + 1))) = paB k p := o1
        rw [o1', paD_b, o2, bd2_some, if_pos rfl]
        rcases o3 with rfl | rfl
        · exact MP.fl fr2
        · exact MP.fl (fr2.w (by omega))
    · rw [n1, paD_b, n2, bd2_some, if_pos rfl]
      exact MP.fl fr
  · rw [if_neg e, if_pos (by omega)]
    exact MP.fl FQ.refl
