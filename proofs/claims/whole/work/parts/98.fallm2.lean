/-! the reference's lines of FALLS -/
def MP (R : Rf) (b : Nat → Nat) (L M : Nat) (T : Mm) (o : Option (Int32 × Mm)) (r : Pa FSt) : Prop := ∃ u V, o = some (u, V) ∧ FQ T V ∧ ((∃ k p, r = paB k p ∧ u = 0 ∧ V.1 105 15 = nI k ∧ V.1 105 16 = nI p) ∨ ∃ F' N' t', r = paO (F', N', t') ∧ u = 1 ∧ V.1 105 15 = T.1 105 15 ∧ MG V F' N' ∧ CuM V b L M t')
theorem MP.fl {R : Rf} {b : Nat → Nat} {L M : Nat} {T U : Mm} {k p : Nat} (h : FQ T U) : MP R b L M T (some (0, flm U k p)) (paB k p) := ⟨0, _, rfl, h.fl, Or.inl ⟨k, p, rfl, rfl, flm_15, flm_16⟩⟩
theorem MP.tr {R : Rf} {b : Nat → Nat} {L M : Nat} {T U : Mm} {o : Option (Int32 × Mm)} {r : Pa FSt} (h : MP R b L M U o r) (f : FQ T U) (e : U.1 105 15 = T.1 105 15) : MP R b L M T o r := by
  obtain ⟨u, V, h1, h2, h3⟩ := h
  rw [e] at h3
  exact ⟨u, V, h1, f.trans h2, h3⟩
theorem m_fresh {R : Rf} {T : Mm} {b : Nat → Nat} {L M t : Nat} {F : Nat → Nat} {N : Nat → List Nat} (hr : RM R) (h : CuM T b L M t) (hg : MG T F N) (hv : VF F) (hN : NW F N) {x : Int32} {q : Nat} (ex : x = nI q) (hq : q < 30) : (neP b L M t F N = paO () ∧ kkS b L M t = 3 ∧ ∃ V, pX12_fresh R T 105 x = some (1, V) ∧ FX (wJ T 110 q (w8 (wwS b L t))) V ∧ CuM V b L M (t + 1)) ∨ ∃ k p, neP b L M t F N = paB k p ∧ pX12_fresh R T 105 x = some (0, flm T k p) := by
  obtain ⟨r1, r6, r7, r8, r9, r10, r21, r22, r28, r32, r33, r34, r38, r40, r46, r47, r48, r49⟩ := id hr
  obtain ⟨v0, v1, v2, v3, v4, v5, v6, vs, vo, vj⟩ := id hv
  obtain ⟨g1, g2, g3, g4, g5⟩ := id hg
  subst ex
  unfold pX12_fresh pX12_fresh_43 neP
  rw [m_isNameK r10 h, bd1_some, m_bad1 h, bd2_some, bz_0, m_bad3 h, bd2_some, bz_0]
  by_cases e : kkS b L M t = 3
  · have hw := (kk_word (Or.inl e)).1
    have h17 := (h.tok.2.2.2.2.1 (Or.inl e)).2
    rw [if_pos e, if_pos e, if10]
    simp (disch := omega) only [ix_lit, lit_clamp]
    rw [r7, g1 0 (by omega), g1 1 (by omega), show (15 : Int32) = nI 15 from rfl, show (20 : Int32) = nI 20 from rfl, m_seekG (N := N) r9 (by omega) hN.1 g4 hw h17, bd1_some, m_seekG (N := fun i => N (5 + i)) r9 (by omega) hN.2 g5 hw h17, bd1_some]
    change (_ ∧ _ ∧ ∃ V, (if 0 ≤ oI (fnP F N (wwS b L t)) then _ else if oI (fnI F N (wwS b L t)) < 0 then _ else _) = _ ∧ _) ∨ _
    cases e1 : fnP F N (wwS b L t) with
    | some p =>
      have := fnP_lt e1
      right
      refine ⟨3, psS b L M t, by rw [if_neg (by simp)], ?_⟩
      change (if 0 ≤ oI (fnP F N (wwS b L t)) then _ else _) = _
      rw [e1, if_pos (show (0 : Int32) ≤ oI (some p) from nI_le (a := 0) (by omega) (by omega))]
    | none =>
      cases e2 : fnI F N (wwS b L t) with
      | some p =>
        have := fnI_lt e2
        right
        refine ⟨3, psS b L M t, by rw [if_neg (by simp)], ?_⟩
        change (if 0 ≤ oI (fnP F N (wwS b L t)) then _ else if oI (fnI F N (wwS b L t)) < 0 then _ else _) = _
        rw [e1, e2, if_neg (show ¬ (0 : Int32) ≤ oI none by decide), if_neg (show ¬ oI (some p) < 0 from nI_pos (by omega))]
      | none =>
        left
        obtain ⟨V, v1, v2, v3⟩ := m_nextS (R := R) r1 (h.wj (k := q) (v := w8 (wwS b L t))) (by omega)
        refine ⟨by rw [if_pos ⟨rfl, rfl⟩], e, V, ?_, v2, v3⟩
        rw [if_neg (show ¬ (0 : Int32) ≤ oI none by decide), if_pos (show oI none < 0 by decide), ix_nI hq (by decide), nI_clamp (by omega), r9, h17]
        simp only [lt]
        rw [v1, bd1_some]
  · rw [if_neg e, if_neg e, if00]
    exact Or.inr ⟨_, _, rfl, rfl⟩
theorem m_once {R : Rf} {T : Mm} {b : Nat → Nat} {L M t i : Nat} {x : Int32} (hr : RM R) (h : CuM T b L M t) (ex : x = nI i) (hi : i < 32) (hk : kkS b L M t ≠ 0) : (bt (T.1 105 20) i = false → ∃ V, pX12_once R T 105 x = some (1, V) ∧ FX (wI T 105 20 (T.1 105 20 ||| (1 <<< (nI i &&& 31)))) V ∧ CuM V b L M (t + 1)) ∧ (bt (T.1 105 20) i = true → pX12_once R T 105 x = some (0, flm T 3 (psS b L M t))) := by
  subst ex
  unfold pX12_once
  rw [m_bitOfS hi, bd1_some, m_bad3 h, bd2_some, bz_0]
  refine ⟨fun e => ?_, fun e => ?_⟩
  · obtain ⟨V, v1, v2, v3⟩ := m_nextS (R := R) hr.1 (h.w5 (k := 20) (v := T.1 105 20 ||| (1 <<< (nI i &&& 31))) (by omega)) hk
    rw [if_pos e, if_pos rfl]
    simp only [lt]
    rw [v1, bd1_some]
    exact ⟨V, rfl, v2, v3⟩
  · rw [e, if_neg (by decide)]
theorem m_rFalls {R : Rf} {T : Mm} {b : Nat → Nat} {L M t : Nat} {F : Nat → Nat} {N : Nat → List Nat} (hr : RM R) (h : CuM T b L M t) (hg : MG T F N) (hv : VF F) (hN : NW F N) (h80 : F 80 ≤ 1) (hk : kkS b L M t ≠ 0) : MP R b L M T (bd2 (pX12_once R T 105 0) (fun (u13 : Int32) (T13 : Mm) => if u13 = 0 then some (0, T13) else bd2 (pX12_puts R T13 105 3 1 30) (fun (u14 : Int32) (T14 : Mm) => if u14 = 0 then some (0, T14) else bd2 (pX12_puts R T14 105 4 1 99) (fun (u15 : Int32) (T15 : Mm) => if u15 = 0 then some (0, T15) else some (1, T15))))) (rF0 b L M F N t) := by
  obtain ⟨g1, g2, g3, g4, g5⟩ := id hg
  obtain ⟨o1, o2⟩ := m_once (x := 0) (i := 0) hr h rfl (by omega) hk
  unfold rF0
  by_cases e : F 80 = 0
  · rw [if_pos e]
    obtain ⟨V, v1, v2, v3⟩ := o1 (by rw [g2, e]; rfl)
    have fr : FQ T V := (FQ.refl.w (by omega)).x v2
    rw [v1, bd2_some, if10]
    obtain ⟨v, W, n1, n2, n3, n4, n5, n6, n7, n15, n8, n9⟩ | ⟨k, p, n1, n2⟩ := m_puts (w := 3) (y := 1) (z := 30) (x := 3) (lo := 1) (hi := 30) hr v3 rfl (by omega) rfl rfl (by omega) (by omega)
    · rw [n1, paD_o, n2, bd2_some, if10]
      obtain ⟨w, X, p1, p2, p3, p4, p5, p6, p7, p15, p8, p9⟩ | ⟨k, p, p1, p2⟩ := m_puts (w := 4) (y := 1) (z := 99) (x := 4) (lo := 1) (hi := 99) hr n4 rfl (by omega) rfl rfl (by omega) (by omega)
      · rw [show t + 2 = t + 1 + 1 from rfl, p1, paD_o, p2, bd2_some, if10]
        have e108 : V.1 108 = T.1 108 := (v2.1 108 (by decide)).1.trans (by rw [wI_1, up2_row (by decide)])
        have e110 : V.2 110 = T.2 110 := (v2.1 110 (by decide)).2
        have e20 : X.1 105 20 = T.1 105 20 ||| (1 <<< (nI 0 &&& 31)) := by
          rw [p7, n7, v2.2.1 20 (by decide) (by decide) (by decide) (by decide) (by decide), wI_s]
        refine ⟨1, X, rfl, (fr.trans n3).trans p3, Or.inr ⟨_, _, _, rfl, rfl, by rw [p15, n15, v2.f15, wI_n (Or.inr (by decide))], ⟨?_, ?_, ?_, ?_, ?_⟩, p4⟩⟩
        · intro k hk8
          rw [p5, n5, e108, uT_nI (uT_nI g1 3 v) 4 w k hk8]
          by_cases e4 : k = 4
          · subst e4; rw [uT_s, uT_s]
          · rw [uT_n e4, uT_n e4]
            by_cases e3 : k = 3
            · subst e3; rw [uT_s, uT_s]
            · rw [uT_n e3, uT_n e3, uT_n (by omega)]
        · rw [e20, b_or, bt_one 0 (by omega) (by omega)]
          simp (disch := omega) only [uT_n, uT_s]
          simp
        · rw [e20, b_or, bt_one 0 (by omega) (by omega), g3]
          simp (disch := omega) only [uT_n]
          simp
        · intro p hp
          simp (disch := omega) only [uT_n] at hp
          rw [p6, n6, e110]; exact g4 p hp
        · intro p hp
          simp (disch := omega) only [uT_n] at hp
          rw [p6, n6, e110]; exact g5 p hp
      · rw [show t + 2 = t + 1 + 1 from rfl, p1, paD_b, p2, bd2_some, if_pos rfl]
        exact MP.fl (fr.trans n3)
    · rw [n1, paD_b, n2, bd2_some, if_pos rfl]
      exact MP.fl fr
  · rw [if_neg e, o2 (by rw [g2]; simp [e]), bd2_some, if_pos rfl]
    exact MP.fl FQ.refl
theorem m_rRain {R : Rf} {T : Mm} {b : Nat → Nat} {L M t : Nat} {F : Nat → Nat} {N : Nat → List Nat} (hr : RM R) (h : CuM T b L M t) (hg : MG T F N) (hv : VF F) (hN : NW F N) (hk : kkS b L M t ≠ 0) : MP R b L M T (bd2 (pX12_once R T 105 1) (fun (u13 : Int32) (T13 : Mm) => if u13 = 0 then some (0, T13) else bd2 (pX12_puts R T13 105 5 1 9) (fun (u14 : Int32) (T14 : Mm) => if u14 = 0 then some (0, T14) else bd2 (pX12_puts R T14 105 6 1 99) (fun (u15 : Int32) (T15 : Mm) => if u15 = 0 then some (0, T15) else some (1, T15))))) (rF1 b L M F N t) := by
  obtain ⟨g1, g2, g3, g4, g5⟩ := id hg
  obtain ⟨o1, o2⟩ := m_once (x := 1) (i := 1) hr h rfl (by omega) hk
  unfold rF1
  by_cases e : F 5 = 0
  · rw [if_pos e]
    obtain ⟨V, v1, v2, v3⟩ := o1 (by rw [g3, e]; rfl)
    have fr : FQ T V := (FQ.refl.w (by omega)).x v2
    rw [v1, bd2_some, if10]
    obtain ⟨v, W, n1, n2, n3, n4, n5, n6, n7, n15, n8, n9⟩ | ⟨k, p, n1, n2⟩ := m_puts (w := 5) (y := 1) (z := 9) (x := 5) (lo := 1) (hi := 9) hr v3 rfl (by omega) rfl rfl (by omega) (by omega)
    · rw [n1, paD_o, n2, bd2_some, if10]
      obtain ⟨w, X, p1, p2, p3, p4, p5, p6, p7, p15, p8, p9⟩ | ⟨k, p, p1, p2⟩ := m_puts (w := 6) (y := 1) (z := 99) (x := 6) (lo := 1) (hi := 99) hr n4 rfl (by omega) rfl rfl (by omega) (by omega)
      · rw [show t + 2 = t + 1 + 1 from rfl, p1, paD_o, p2, bd2_some, if10]
        have e108 : V.1 108 = T.1 108 := (v2.1 108 (by decide)).1.trans (by rw [wI_1, up2_row (by decide)])
        have e110 : V.2 110 = T.2 110 := (v2.1 110 (by decide)).2
        have e20 : X.1 105 20 = T.1 105 20 ||| (1 <<< (nI 1 &&& 31)) := by
          rw [p7, n7, v2.2.1 20 (by decide) (by decide) (by decide) (by decide) (by decide), wI_s]
        refine ⟨1, X, rfl, (fr.trans n3).trans p3, Or.inr ⟨_, _, _, rfl, rfl, by rw [p15, n15, v2.f15, wI_n (Or.inr (by decide))], ⟨?_, ?_, ?_, ?_, ?_⟩, p4⟩⟩
        · intro k hk8
          rw [p5, n5, e108, uT_nI (uT_nI g1 5 v) 6 w k hk8]
        · rw [e20, b_or, bt_one 1 (by omega) (by omega), g2]
          simp (disch := omega) only [uT_n]
          simp
        · rw [e20, b_or, bt_one 1 (by omega) (by omega)]
          simp (disch := omega) only [uT_n, uT_s]
          have : v ≠ 0 := by omega
          simp [this]
        · intro p hp
          simp (disch := omega) only [uT_n] at hp
          rw [p6, n6, e110]; exact g4 p hp
        · intro p hp
          simp (disch := omega) only [uT_n] at hp
          rw [p6, n6, e110]; exact g5 p hp
      · rw [show t + 2 = t + 1 + 1 from rfl, p1, paD_b, p2, bd2_some, if_pos rfl]
        exact MP.fl (fr.trans n3)
    · rw [n1, paD_b, n2, bd2_some, if_pos rfl]
      exact MP.fl fr
  · rw [if_neg e, o2 (by rw [g3]; simp [e]), bd2_some, if_pos rfl]
    exact MP.fl FQ.refl
