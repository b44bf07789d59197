/-! questions, whole calls: the class's answer is the reference's -/
theorem mask_bt : ∀ n, n < 17 → ∀ i, i < 32 → bt (((1 : Int32) <<< (nI n &&& 31)) - 1) i = decide (i < n) := by decide +kernel
theorem bitAt {x : Int32} {i : Nat} (hi : i < 32) : (x >>> (nI i &&& 31)) &&& 1 = if bt x i = false then 0 else 1 := by
  have h := bt_test x hi
  rcases and1 (x >>> (nI i &&& 31)) with q | q
  · rw [q, if_pos (h.mp q)]
  · rw [q, if_neg]
    intro z
    have := h.mpr z
    rw [q] at this
    exact absurd this (by decide)
theorem if10 {ρ : Type} {a b : ρ} : (if (1 : Int32) = 0 then a else b) = b := if_neg (by decide)
theorem if00 {ρ : Type} {a b : ρ} : (if (0 : Int32) = 0 then a else b) = a := if_pos rfl
theorem self34 {T : Mm} : T = setN T (T.1 34) := setN_self.symm
theorem k_fate {R : Rf} {T T' : Mm} {f : Nat} {F : Nat → Nat} {C : Nat → Int32} (h : KV R T f F C) (l : LV R T' F C) (x : Int32) : ∃ a g, pX11_fate R T 0 x = some (a, setN T g) ∧ pX12_fate R T' 105 x = some (a, wI T' 105 0 0) := by
  have l' := l.sw (a := 105) (k := 0) (v := 0) (by decide)
  obtain ⟨k1, k2, k3, k4, k5, k6, k7, k8, k9, k10⟩ := id h
  unfold pX11_fate pX12_fate
  simp only [lt]
  by_cases e : ∃ p, p < F 0 ∧ x = nI p
  · obtain ⟨p, hp, rfl⟩ := e
    obtain ⟨g, hg⟩ := c_byFate k4 (by omega) k7 k8 k5 (by decide) k9.1 k9.2 hp
    rw [k3, h.hasP1 hp, bd1_some, if10, k2, k1, hg, bd2_some, l'.isP1 hp, bd1_some, if10, l'.fateOf hp, bd1_some]
    exact ⟨_, g, rfl, rfl⟩
  · refine ⟨-1, T.1 34, ?_, ?_⟩
    · rw [k3, h.hasP0 e, bd1_some, if00, setN_self]
    · rw [l'.isP0 e, bd1_some, if00]
theorem k_straw {R : Rf} {T T' : Mm} {f : Nat} {F : Nat → Nat} {C : Nat → Int32} (h : KV R T f F C) (l : LV R T' F C) (x : Int32) : ∃ a g, pX11_straw R T 0 x = some (a, setN T g) ∧ pX12_straw R T' 105 x = some (a, wI T' 105 0 0) := by
  by_cases e : ∃ p, p < F 0 ∧ x = nI p ∧ C (4 + p) < 2
  · obtain ⟨p, hp, rfl, hd⟩ := e
    obtain ⟨g, hg⟩ := c_straw1 h hp hd
    exact ⟨_, g, hg, m_straw1 l hp hd⟩
  · refine ⟨-1, T.1 34, ?_, ?_⟩
    · unfold pX11_straw
      rw [c_canStill h, if_neg e, bd1_some, if00, setN_self]
    · have l' := l.sw (a := 105) (k := 0) (v := 0) (by decide)
      unfold pX12_straw
      simp only [lt]
      by_cases e2 : ∃ p, p < F 0 ∧ x = nI p
      · obtain ⟨p, hp, rfl⟩ := e2
        have hd : ¬ C (4 + p) < 2 := fun z => e ⟨p, hp, rfl, z⟩
        rw [l'.isP1 hp, bd1_some, if10, l'.isDown (by have := l'.2.2.1.1; omega), bd1_some, if_neg hd, if10]
      · rw [l'.isP0 e2, bd1_some, if00]
theorem k_crack {R : Rf} {T T' : Mm} {f : Nat} {F : Nat → Nat} {C : Nat → Int32} (h : KV R T f F C) (l : LV R T' F C) (x : Int32) : ∃ a, pX11_crack R T 0 x = some a ∧ pX12_crack R T' 105 x = some (a, wI T' 105 0 0) := by
  by_cases e : ∃ p, p < F 0 ∧ x = nI p
  · obtain ⟨p, hp, rfl⟩ := e
    exact ⟨_, c_crack1 h hp, m_crack1 l hp⟩
  · refine ⟨-1, ?_, ?_⟩
    · unfold pX11_crack
      rw [h.2.2.1, h.hasP0 e, bd1_some, if00]
    · have l' := l.sw (a := 105) (k := 0) (v := 0) (by decide)
      unfold pX12_crack
      simp only [lt]
      rw [l'.isP0 e, bd1_some, if00]
theorem k_drops {R : Rf} {T T' : Mm} {f : Nat} {F : Nat → Nat} {C : Nat → Int32} (h : KV R T f F C) (l : LV R T' F C) (x : Int32) : ∃ a, pX11_drops R T 0 x = some a ∧ pX12_drops R T' 105 x = some (a, wI T' 105 0 0) := by
  by_cases e : ∃ p, p < F 0 ∧ x = nI p
  · obtain ⟨p, hp, rfl⟩ := e
    exact ⟨_, c_drops1 h hp, m_drops1 l hp⟩
  · refine ⟨-1, ?_, ?_⟩
    · unfold pX11_drops
      rw [h.2.2.1, h.hasP0 e, bd1_some, if00]
    · have l' := l.sw (a := 105) (k := 0) (v := 0) (by decide)
      unfold pX12_drops
      simp only [lt]
      rw [l'.isP0 e, bd1_some, if00]
theorem k_lighten {R : Rf} {T T' : Mm} {f : Nat} {F : Nat → Nat} {C : Nat → Int32} (h : KV R T f F C) (l : LV R T' F C) (x : Int32) : (∃ a v, pX11_lighten R T 0 x = some (a, wI T 0 16 v) ∧ pX12_lighten R T' 105 x = some (a, wI (wI (wI T' 105 0 0) 105 26 1) 105 24 v)) ∨ (pX11_lighten R T 0 x = some (-1, T) ∧ pX12_lighten R T' 105 x = some (-1, wI T' 105 0 0)) := by
  by_cases e : ∃ p, p < F 0 ∧ x = nI p ∧ C (4 + p) < 2
  · obtain ⟨p, hp, rfl, hd⟩ := e
    obtain ⟨B, hB, eB⟩ := brl_nI l.2.2.1 C p
    obtain ⟨φ, hφ, eφ⟩ := flS_nI l.2.2.1 (C 0)
    exact Or.inl ⟨_, _, c_lighten1 h hp hd hB eB hφ eφ, m_lighten1 l hp hd hB eB hφ eφ⟩
  · refine Or.inr ⟨?_, ?_⟩
    · unfold pX11_lighten
      rw [c_canStill h, if_neg e, bd1_some, if00]
    · have l' := l.sw (a := 105) (k := 0) (v := 0) (by decide)
      unfold pX12_lighten
      simp only [lt]
      by_cases e2 : ∃ p, p < F 0 ∧ x = nI p
      · obtain ⟨p, hp, rfl⟩ := e2
        have hd : ¬ C (4 + p) < 2 := fun z => e ⟨p, hp, rfl, z⟩
        rw [l'.isP1 hp, bd1_some, if10, l'.isDown (by have := l'.2.2.1.1; omega), bd1_some, if_neg hd, if10]
      · rw [l'.isP0 e2, bd1_some, if00]
theorem k_keep {R : Rf} {T T' : Mm} {f : Nat} {F : Nat → Nat} {C : Nat → Int32} (h : KV R T f F C) (l : LV R T' F C) (x : Int32) : (∃ a v g, pX11_keep R T 0 x = some (a, wI (setN T g) 0 17 v) ∧ pX12_keep R T' 105 x = some (a, wI (wI (wI T' 105 0 0) 105 27 1) 105 25 v)) ∨ (pX11_keep R T 0 x = some (-1, T) ∧ pX12_keep R T' 105 x = some (-1, wI T' 105 0 0)) := by
  by_cases e : ∃ p, p < F 0 ∧ x = nI p ∧ C (4 + p) < 2
  · obtain ⟨p, hp, rfl, hd⟩ := e
    obtain ⟨B, hB, eB⟩ := brl_nI l.2.2.1 C p
    obtain ⟨φ, hφ, eφ⟩ := flS_nI l.2.2.1 (C 0)
    obtain ⟨g, hg⟩ := c_keep1 h hp hd hB eB hφ eφ
    exact Or.inl ⟨_, _, g, hg, m_keep1 l hp hd hB eB hφ eφ⟩
  · refine Or.inr ⟨?_, ?_⟩
    · unfold pX11_keep
      rw [c_canStill h, if_neg e, bd1_some, if00]
    · have l' := l.sw (a := 105) (k := 0) (v := 0) (by decide)
      unfold pX12_keep
      simp only [lt]
      by_cases e2 : ∃ p, p < F 0 ∧ x = nI p
      · obtain ⟨p, hp, rfl⟩ := e2
        have hd : ¬ C (4 + p) < 2 := fun z => e ⟨p, hp, rfl, z⟩
        rw [l'.isP1 hp, bd1_some, if10, l'.isDown (by have := l'.2.2.1.1; omega), bd1_some, if_neg hd, if10]
      · rw [l'.isP0 e2, bd1_some, if00]
theorem k_apart {R : Rf} {T T' : Mm} {f : Nat} {F : Nat → Nat} {C : Nat → Int32} (h : KV R T f F C) (l : LV R T' F C) (x y : Int32) : ∃ a g, pX11_apart R T 0 x y = some (a, setN T g) ∧ pX12_apart R T' 105 x y = some (a, wI T' 105 0 0) := by
  have l' := l.sw (a := 105) (k := 0) (v := 0) (by decide)
  obtain ⟨k1, k2, k3, k4, k5, k6, k7, k8, k9, k10⟩ := id h
  obtain ⟨l1, l2, l3, l4, l5⟩ := id l'
  obtain ⟨v0, v1, v2, v3, v4, v5, v6, vs, vo, vj⟩ := id k8
  unfold pX11_apart pX12_apart
  simp only [lt]
  generalize wI T' 105 0 0 = U at *
  have hm : ∀ k, k < 80 → U.1 107 k = nI (F k) := l2
  have no : ∀ (P Q : Option (Int32 × Mm)), P = some (-1, T) → Q = some (-1, U) → ∃ a g, P = some (a, setN T g) ∧ Q = some (a, U) := fun P Q hP hQ => ⟨-1, T.1 34, by rw [hP, setN_self], hQ⟩
  by_cases e1 : ∃ p, p < F 1 ∧ x = nI p
  · obtain ⟨i, hi, rfl⟩ := e1
    rw [k3, h.hasI1 hi, bd1_some, if10, l'.isI1 hi, bd1_some, if10]
    by_cases e2 : ∃ p, p < F 1 ∧ y = nI p
    · obtain ⟨k, hk, rfl⟩ := e2
      rw [h.hasI1 hk, bd1_some, if10, l'.isI1 hk, bd1_some, if10]
      by_cases e3 : nI i = nI k
      · rw [if_pos e3, if_pos e3]
        exact no _ _ rfl rfl
      · rw [if_neg e3, if_neg e3]
        have ho := (vo i hi).1
        have ho2 := (vo k hk).1
        obtain ⟨⟨q5, q6, q7, q8, q9, q10, q11, q12⟩, f0, f1, f2, f3, f4, f14, f15, cs, co, cw, ca, cb, ch⟩ := id k7
        rw [k1, c_hasInside (by omega), c_hasInside (by omega), k9.1 1 (by decide), k2]
        simp (disch := omega) only [lt, jn, bd1_some, bd2_some, ix_nI, ix_lit, nI_clamp, lit_clamp, lit_add, add_lit, nI_add, nI_leI, nI_ltI, nI_eq, lit_le, le_lit, lit_lt, lt_lit, lit_eq, eq_lit, if_pos, if_neg, l1, hm, l5.2.1, m_bitOfS, q8, co]
        by_cases e4 : F (12 + k) = F (12 + i)
        · rw [if_pos e4, if_pos e4.symm]
          by_cases e5 : bt (C 1) i = false
          · simp only [if_pos e5, if00]
            exact no _ _ rfl rfl
          · by_cases e6 : bt (C 1) k = false
            · simp only [if_neg e5, if_pos e6, if10, if00]
              exact no _ _ rfl rfl
            · have e5' : bt (C 1) i = true := by simpa using e5
              simp only [if_neg e5, if_neg e6]
              simp only [if10]
              rw [c_holdByFate k4 (by omega) k7 k8 k5 k9.1 k9.2 ho, bd1_some, setN_o (by decide), k9.1 1 (by decide), c_around k8 k4 (fun k hk => setN_s hk) (by omega), bd1_some, rc_own k8 rfl (fun j hj => cj_fj k8 hj)]
              rw [l'.fateJoins ho, bd1_some, l'.heldWith (by omega) e5', bd1_some]
              simp only [bt_test _ (show k < 32 by omega)]
              by_cases e7 : bt (rc F (fjS F C (F (12 + i)) (nI (F 3))) (C 1) i) k = false
              · rw [if_pos e7, if_pos e7, if00]
                exact ⟨1, _, rfl, rfl⟩
              · rw [if_neg e7, if_neg e7, if10]
                exact ⟨0, _, rfl, rfl⟩
        · rw [if_neg e4, if_neg (fun z => e4 z.symm)]
          exact no _ _ rfl rfl
    · rw [h.hasI0 e2, bd1_some, if00, l'.isI0 e2, bd1_some, if00]
      exact no _ _ rfl rfl
  · rw [k3, h.hasI0 e1, bd1_some, if00, l'.isI0 e1, bd1_some, if00]
    exact no _ _ rfl rfl
theorem k_join {R : Rf} {T T' : Mm} {f : Nat} {F : Nat → Nat} {C : Nat → Int32} (h : KV R T f F C) (l : LV R T' F C) (x y : Int32) : ∃ a, pX11_join R T 0 x y = some a ∧ pX12_join R T' 105 x y = some (a, wI T' 105 0 0) := by
  have l' := l.sw (a := 105) (k := 0) (v := 0) (by decide)
  obtain ⟨k1, k2, k3, k4, k5, k6, k7, k8, k9, k10⟩ := id h
  obtain ⟨l1, l2, l3, l4, l5⟩ := id l'
  obtain ⟨v0, v1, v2, v3, v4, v5, v6, vs, vo, vj⟩ := id k8
  unfold pX11_join pX12_join
  simp only [lt]
  generalize wI T' 105 0 0 = U at *
  have hm : ∀ k, k < 80 → U.1 107 k = nI (F k) := l2
  by_cases e1 : ∃ p, p < F 2 ∧ x = nI p
  · obtain ⟨j, hj, rfl⟩ := e1
    obtain ⟨⟨q5, q6, q7, q8, q9, q10, q11, q12⟩, f0, f1, f2, f3, f4, f14, f15, cs, co, cw, ca, cb, ch⟩ := id k7
    rw [k3, h.hasJ1 hj, bd1_some, if10, l'.isJ1 hj, bd1_some, if10, k1, c_isWhole (by omega), k9.1 2 (by decide), bd1_some]
    simp (disch := omega) only [lt, jn, bd1_some, bd2_some, ix_nI, ix_lit, nI_clamp, lit_clamp, lit_add, add_lit, nI_add, nI_leI, nI_ltI, nI_eq, lit_le, le_lit, lit_lt, lt_lit, lit_eq, eq_lit, if_pos, if_neg, l1, hm, l5.2.2.1, q10, q11, q12, ca, cb, ch, bitAt]
    rw [bt_wh (by omega) (by omega)]
    by_cases e : y = 0
    · rw [if_pos e, if_pos e]
      exact ⟨_, rfl, rfl⟩
    · by_cases e2 : y = 1
      · rw [if_neg e, if_pos e2, if_neg e, if_pos e2]
        exact ⟨_, rfl, rfl⟩
      · by_cases e3 : y = 2
        · rw [if_neg e, if_neg e2, if_pos e3, if_neg e, if_neg e2, if_pos e3]
          exact ⟨_, rfl, rfl⟩
        · by_cases e4 : y = 3
          · rw [if_neg e, if_neg e2, if_neg e3, if_pos e4, if_neg e, if_neg e2, if_neg e3, if_pos e4]
            by_cases e5 : bt (C 2) j = false
            · exact ⟨1, by simp [e5], by simp [e5, hj]⟩
            · exact ⟨0, by simp [e5], by simp [e5]⟩
          · rw [if_neg e, if_neg e2, if_neg e3, if_neg e4, if_neg e, if_neg e2, if_neg e3, if_neg e4]
            exact ⟨_, rfl, rfl⟩
  · rw [k3, h.hasJ0 e1, bd1_some, if00, l'.isJ0 e1, bd1_some, if00]
    exact ⟨_, rfl, rfl⟩
theorem whoS {R : Rf} {T U : Mm} {f : Nat} {F : Nat → Nat} {C : Nat → Int32} (h : KV R T f F C) (l : LV R U F C) (so : Int32) : ∃ a, pX1_whoAre R T 8 f so = some a ∧ pX12_who0 R U 105 so = some a := by
  obtain ⟨k1, k2, k3, k4, k5, k6, k7, k8, k9, k10⟩ := h
  obtain ⟨l1, l2, l3, l4, l5⟩ := l
  have v0 := k8.1
  refine ⟨_, c_whoAre k7.2.1 (by omega) so, ?_⟩
  rw [m_who0 (n := F 0) (by rw [l1]; exact l2 0 (by decide)) (by omega)]
  congr 1
  apply itI_congr
  intro i hi
  rw [l1, l5.2.2.2.2 i (by omega), k5, k9.2 i (by omega)]
theorem k_now {R : Rf} {T T' : Mm} {f : Nat} {F : Nat → Nat} {C : Nat → Int32} (h : KV R T f F C) (l : LV R T' F C) (x : Int32) : ∃ a, pX11_now R T 0 x = some a ∧ pX12_now R T' 105 x = some (a, wI T' 105 0 0) := by
  have l' := l.sw (a := 105) (k := 0) (v := 0) (by decide)
  obtain ⟨k1, k2, k3, k4, k5, k6, k7, k8, k9, k10⟩ := id h
  obtain ⟨l1, l2, l3, l4, l5⟩ := id l'
  obtain ⟨v0, v1, v2, v3, v4, v5, v6, vs, vo, vj⟩ := id k8
  have hfl : pX3_flowOn R T f (C 0) = some (flS F (C 0)) := by
    rw [c_flowOn]
    obtain ⟨⟨q5, q6, q7, q8, q9, q10, q11, q12⟩, f0, f1, f2, f3, f4, f14, f15, cs, co, cw, ca, cb, ch⟩ := k7
    rw [f4, f14, f15]
    rfl
  unfold pX11_now pX12_now
  simp only [lt]
  generalize wI T' 105 0 0 = U at *
  have hm : ∀ k, k < 80 → U.1 107 k = nI (F k) := l2
  obtain ⟨a0, a1, a2⟩ := whoS h l' 0
  obtain ⟨b0, b1, b2⟩ := whoS h l' 1
  obtain ⟨c0, c1, c2⟩ := whoS h l' 2
  obtain ⟨d0, d1, d2⟩ := whoS h l' 3
  have hbr : (((1 : Int32) <<< (nI (F 2) &&& 31)) - 1) &&& (wh (F 2) (C 2) ^^^ (-1 : Int32)) = C 2 := by
    apply b_ext
    intro i hi
    rw [b_and, mask_bt _ (by omega) i hi, bt_not _ hi, bt_wh (by omega) hi]
    cases z : bt (C 2) i with
    | true => simp [k10.2.2.1 i z]
    | false =>
      by_cases y : i < F 2 <;> simp [y]
  rw [k3, k1, k9.1 0 (by decide), k9.1 2 (by decide), k9.1 3 (by decide), hfl, a1, a2, b1, b2, c1, c2, d1, d2, l'.flow]
  simp (disch := omega) only [lt, jn, bd1_some, bd2_some, ix_nI, ix_lit, nI_clamp, lit_clamp, lit_add, add_lit, nI_add, nI_leI, nI_ltI, nI_eq, lit_le, le_lit, lit_lt, lt_lit, lit_eq, eq_lit, if_pos, if_neg, l1, hm, l5.1, l5.2.2.1, l5.2.2.2.1, hbr]
  by_cases e0 : x = 0
  · rw [if_pos e0, if_pos e0]
    exact ⟨_, rfl, rfl⟩
  · rw [if_neg e0, if_neg e0]
    by_cases e1 : x = 1
    · rw [if_pos e1, if_pos e1]
      exact ⟨_, rfl, rfl⟩
    · rw [if_neg e1, if_neg e1]
      by_cases e2 : x = 2
      · rw [if_pos e2, if_pos e2]
        exact ⟨_, rfl, rfl⟩
      · rw [if_neg e2, if_neg e2]
        by_cases e3 : x = 3
        · rw [if_pos e3, if_pos e3]
          exact ⟨_, rfl, rfl⟩
        · rw [if_neg e3, if_neg e3]
          by_cases e4 : x = 4
          · rw [if_pos e4, if_pos e4]
            exact ⟨_, rfl, rfl⟩
          · rw [if_neg e4, if_neg e4]
            by_cases e5 : x = 5
            · rw [if_pos e5, if_pos e5]
              exact ⟨_, rfl, rfl⟩
            · rw [if_neg e5, if_neg e5]
              by_cases e6 : x = 6
              · rw [if_pos e6, if_pos e6]
                exact ⟨_, rfl, rfl⟩
              · rw [if_neg e6, if_neg e6]
                by_cases e7 : x = 7
                · rw [if_pos e7, if_pos e7]
                  exact ⟨_, rfl, rfl⟩
                · rw [if_neg e7, if_neg e7]
                  exact ⟨_, rfl, rfl⟩
