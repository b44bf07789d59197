/-! the class's lines of FALLS -/
theorem c_numL {R : Rf} {T : Mm} {b : Nat → Nat} {L M n t lo hi : Nat} {x y : Int32} (hR : RT R) (h : CuC T b L M n t) (ex : x = nI lo) (ey : y = nI hi) (hlo : lo ≤ 999) (hhi : hi ≤ 999) : (∃ v, nuP b L M t lo hi = paO v ∧ pX10_takeNumber R T 1 x y = some (nI v, wI T 1 6 (nI (t + 1))) ∧ CuC (wI T 1 6 (nI (t + 1))) b L M n (t + 1) ∧ lo ≤ v ∧ v ≤ hi) ∨ ∃ k p, nuP b L M t lo hi = paB k p ∧ pX10_takeNumber R T 1 x y = some (-1, flc T k p) := by
  subst ex
  subst ey
  rcases c_num hR h hlo hhi with ⟨v, h1, h2, h3⟩ | h
  · exact Or.inl ⟨v, h1, h2, h3, (nuP_ok h1).1, (nuP_ok h1).2.1⟩
  · exact Or.inr h
def CP (g : Nat) (R : Rf) (b : Nat → Nat) (L M n : Nat) (T : Mm) (o : Option (Int32 × Mm)) (r : Pa FSt) : Prop := ∃ u V, o = some (u, V) ∧ FC g T V ∧ ((∃ k p, r = paB k p ∧ u = 0 ∧ V.1 1 2 = nI k ∧ V.1 1 3 = nI p) ∨ ∃ F' N' t', r = paO (F', N', t') ∧ u = 1 ∧ V.1 1 2 = T.1 1 2 ∧ CG R V g F' N' ∧ CuC V b L M n t')
theorem flc_2 {T : Mm} {k p : Nat} : (flc T k p).1 1 2 = nI k := (wI_n (Or.inr (by decide))).trans wI_s
theorem flc_3 {T : Mm} {k p : Nat} : (flc T k p).1 1 3 = nI p := wI_s
theorem CP.fl {g : Nat} {R : Rf} {b : Nat → Nat} {L M n : Nat} {T U : Mm} {k p : Nat} (h : FC g T U) : CP g R b L M n T (some (0, flc U k p)) (paB k p) := ⟨0, _, rfl, h.fl, Or.inl ⟨k, p, rfl, rfl, flc_2, flc_3⟩⟩
theorem CP.flw {g : Nat} {R : Rf} {b : Nat → Nat} {L M n : Nat} {T U : Mm} {k p a j : Nat} {v : Int32} (h : FC g T U) (h1 : g ≤ a) (h2 : a ≤ g + 8) (hg : 79 ≤ g) : CP g R b L M n T (some (0, wI (flc U k p) a j v)) (paB k p) := ⟨0, _, rfl, h.fl.wg h1 h2 hg, Or.inl ⟨k, p, rfl, rfl, (wI_n (Or.inl (by omega))).trans flc_2, (wI_n (Or.inl (by omega))).trans flc_3⟩⟩
theorem c_readFalls {R : Rf} {T : Mm} {b : Nat → Nat} {L M n t g : Nat} {F : Nat → Nat} {N : Nat → List Nat} (hR : RT R) (h : CuC T b L M n t) (hg : CG R T g F N) (hv : VF F) (h80 : F 80 ≤ 1) (h79 : 79 ≤ g) (hk : kkS b L M t ≠ 0) : CP g R b L M n T (pX3_readFalls R T g 1) (rF0 b L M F N t) := by
  obtain ⟨⟨⟨q5, q6, q7, q8, q9, q10, q11, q12⟩, f0, f1, f2, f3, f4, f14, f15, cs, co, cw, ca, cb, ch⟩, g13, gp, gi⟩ := id hg
  obtain ⟨v0, v1, v2, v3, v4, v5, v6, vs, vo, vj⟩ := hv
  obtain ⟨a1, a2⟩ := c_advance (R := R) h (h.lt hk)
  unfold pX3_readFalls rF0
  rw [g13, c_fail3 hR h, bd2_some, bz_0, a1, bd1_some]
  simp only [lt]
  by_cases e : F 80 = 0
  · rw [if_pos e, if_pos (by rw [e]; rfl)]
    have fr : FC g T (wI (wI T 1 6 (nI (t + 1))) g 13 1) := (FC.refl.w1 (by omega)).wg (by omega) (by omega) h79
    obtain ⟨v, n1, n2, n3, n4, n5⟩ | ⟨k, p, n1, n2⟩ := c_numL (x := 1) (y := 30) (lo := 1) (hi := 30) hR (a2.wg (a := g) (k := 13) (v := 1) (by omega)) rfl rfl (by omega) (by omega)
    · rw [n1, paD_o, n2, bd2_some, wI_s, if_neg (ne_m1 (by omega))]
      have fr2 := (fr.w1 (k := 6) (v := nI (t + 1 + 1)) (by omega)).wg (a := g) (k := 3) (v := nI v) (by omega) (by omega) h79
      obtain ⟨w, o1, o2, o3, o4, o5⟩ | ⟨k, p, o1, o2⟩ := c_numL (x := 1) (y := 99) (lo := 1) (hi := 99) hR (n3.wg (a := g) (k := 3) (v := nI v) (by omega)) rfl rfl (by omega) (by omega)
      · rw [o1, paD_o, o2, bd2_some, wI_s, if_neg (ne_m1 (by omega))]
        refine ⟨1, _, rfl, (fr2.w1 (by omega)).wg (by omega) (by omega) h79, Or.inr ⟨_, _, _, rfl, rfl, by simp (disch := omega) only [wI_n, wJ_1], ⟨⟨⟨q5, q6, q7, q8, q9, q10, q11, q12⟩, ?_, ?_, ?_, ?_, ?_, ?_, ?_, ?_, ?_, ?_, ?_, ?_, ?_⟩, ?_, ?_, ?_⟩, o3.wg (by omega)⟩⟩
        · simp (disch := omega) only [uT_n, uT_s, wI_n, wI_s, wJ_1, wJ_n, wJ_s]; exact f0
        · simp (disch := omega) only [uT_n, uT_s, wI_n, wI_s, wJ_1, wJ_n, wJ_s]; exact f1
        · simp (disch := omega) only [uT_n, uT_s, wI_n, wI_s, wJ_1, wJ_n, wJ_s]; exact f2
        · simp (disch := omega) only [uT_n, uT_s, wI_n, wI_s, wJ_1, wJ_n, wJ_s]
        · simp (disch := omega) only [uT_n, uT_s, wI_n, wI_s, wJ_1, wJ_n, wJ_s]
        · simp (disch := omega) only [uT_n, uT_s, wI_n, wI_s, wJ_1, wJ_n, wJ_s]; exact f14
        · simp (disch := omega) only [uT_n, uT_s, wI_n, wI_s, wJ_1, wJ_n, wJ_s]; exact f15
        · intro p hp; simp (disch := omega) only [uT_n] at hp; simp (disch := omega) only [uT_n, uT_s, wI_n, wI_s, wJ_1, wJ_n, wJ_s]; exact cs p hp
        · intro p hp; simp (disch := omega) only [uT_n] at hp; simp (disch := omega) only [uT_n, uT_s, wI_n, wI_s, wJ_1, wJ_n, wJ_s]; exact co p hp
        · intro p hp; simp (disch := omega) only [uT_n] at hp; simp (disch := omega) only [uT_n, uT_s, wI_n, wI_s, wJ_1, wJ_n, wJ_s]; exact cw p hp
        · intro p hp; simp (disch := omega) only [uT_n] at hp; simp (disch := omega) only [uT_n, uT_s, wI_n, wI_s, wJ_1, wJ_n, wJ_s]; exact ca p hp
        · intro p hp; simp (disch := omega) only [uT_n] at hp; simp (disch := omega) only [uT_n, uT_s, wI_n, wI_s, wJ_1, wJ_n, wJ_s]; exact cb p hp
        · intro p hp; simp (disch := omega) only [uT_n] at hp; simp (disch := omega) only [uT_n, uT_s, wI_n, wI_s, wJ_1, wJ_n, wJ_s]; exact ch p hp
        · simp (disch := omega) only [uT_n, uT_s, wI_n, wI_s, wJ_1, wJ_n, wJ_s]; rfl
        · intro p hp; simp (disch := omega) only [uT_n] at hp; exact gp p hp
        · intro p hp; simp (disch := omega) only [uT_n] at hp; exact gi p hp
      · rw [o1, paD_b, o2, bd2_some, wI_s, if_pos rfl]
        exact CP.flw fr2 (by omega) (by omega) h79
    · rw [n1, paD_b, n2, bd2_some, wI_s, if_pos rfl]
      exact CP.flw fr (by omega) (by omega) h79
  · rw [if_neg e, if_neg (show ¬ nI (F 80) = 0 from fun z => e ((nI_eq (b := 0) (by omega) (by omega)).mp z))]
    exact CP.fl FC.refl
theorem c_readRain {R : Rf} {T : Mm} {b : Nat → Nat} {L M n t g : Nat} {F : Nat → Nat} {N : Nat → List Nat} (hR : RT R) (h : CuC T b L M n t) (hg : CG R T g F N) (hv : VF F) (hN : NW F N) (h79 : 79 ≤ g) (hk : kkS b L M t ≠ 0) : CP g R b L M n T (pX3_readRain R T g 1) (rF1 b L M F N t) := by
  obtain ⟨⟨⟨q5, q6, q7, q8, q9, q10, q11, q12⟩, f0, f1, f2, f3, f4, f14, f15, cs, co, cw, ca, cb, ch⟩, g13, gp, gi⟩ := id hg
  obtain ⟨v0, v1, v2, v3, v4, v5, v6, vs, vo, vj⟩ := hv
  obtain ⟨a1, a2⟩ := c_advance (R := R) h (h.lt hk)
  unfold pX3_readRain rF1
  rw [f14, c_fail3 hR h, bd2_some, bz_0, a1, bd1_some]
  simp only [lt]
  by_cases e : F 5 = 0
  · rw [if_pos e, if_pos (by rw [e]; decide)]
    have fr : FC g T (wI T 1 6 (nI (t + 1))) := FC.refl.w1 (by omega)
    obtain ⟨v, n1, n2, n3, n4, n5⟩ | ⟨k, p, n1, n2⟩ := c_numL (x := 1) (y := 9) (lo := 1) (hi := 9) hR a2 rfl rfl (by omega) (by omega)
    · rw [n1, paD_o, n2, bd2_some, wI_s, if_neg (ne_m1 (by omega))]
      have fr2 := (fr.w1 (k := 6) (v := nI (t + 1 + 1)) (by omega)).wg (a := g) (k := 14) (v := nI v) (by omega) (by omega) h79
      obtain ⟨w, o1, o2, o3, o4, o5⟩ | ⟨k, p, o1, o2⟩ := c_numL (x := 1) (y := 99) (lo := 1) (hi := 99) hR (n3.wg (a := g) (k := 14) (v := nI v) (by omega)) rfl rfl (by omega) (by omega)
      · rw [o1, paD_o, o2, bd2_some, wI_s, if_neg (ne_m1 (by omega))]
        refine ⟨1, _, rfl, (fr2.w1 (by omega)).wg (by omega) (by omega) h79, Or.inr ⟨_, _, _, rfl, rfl, by simp (disch := omega) only [wI_n, wJ_1], ⟨⟨⟨q5, q6, q7, q8, q9, q10, q11, q12⟩, ?_, ?_, ?_, ?_, ?_, ?_, ?_, ?_, ?_, ?_, ?_, ?_, ?_⟩, ?_, ?_, ?_⟩, o3.wg (by omega)⟩⟩
        · simp (disch := omega) only [uT_n, uT_s, wI_n, wI_s, wJ_1, wJ_n, wJ_s]; exact f0
        · simp (disch := omega) only [uT_n, uT_s, wI_n, wI_s, wJ_1, wJ_n, wJ_s]; exact f1
        · simp (disch := omega) only [uT_n, uT_s, wI_n, wI_s, wJ_1, wJ_n, wJ_s]; exact f2
        · simp (disch := omega) only [uT_n, uT_s, wI_n, wI_s, wJ_1, wJ_n, wJ_s]; exact f3
        · simp (disch := omega) only [uT_n, uT_s, wI_n, wI_s, wJ_1, wJ_n, wJ_s]; exact f4
        · simp (disch := omega) only [uT_n, uT_s, wI_n, wI_s, wJ_1, wJ_n, wJ_s]
        · simp (disch := omega) only [uT_n, uT_s, wI_n, wI_s, wJ_1, wJ_n, wJ_s]
        · intro p hp; simp (disch := omega) only [uT_n] at hp; simp (disch := omega) only [uT_n, uT_s, wI_n, wI_s, wJ_1, wJ_n, wJ_s]; exact cs p hp
        · intro p hp; simp (disch := omega) only [uT_n] at hp; simp (disch := omega) only [uT_n, uT_s, wI_n, wI_s, wJ_1, wJ_n, wJ_s]; exact co p hp
        · intro p hp; simp (disch := omega) only [uT_n] at hp; simp (disch := omega) only [uT_n, uT_s, wI_n, wI_s, wJ_1, wJ_n, wJ_s]; exact cw p hp
        · intro p hp; simp (disch := omega) only [uT_n] at hp; simp (disch := omega) only [uT_n, uT_s, wI_n, wI_s, wJ_1, wJ_n, wJ_s]; exact ca p hp
        · intro p hp; simp (disch := omega) only [uT_n] at hp; simp (disch := omega) only [uT_n, uT_s, wI_n, wI_s, wJ_1, wJ_n, wJ_s]; exact cb p hp
        · intro p hp; simp (disch := omega) only [uT_n] at hp; simp (disch := omega) only [uT_n, uT_s, wI_n, wI_s, wJ_1, wJ_n, wJ_s]; exact ch p hp
        · simp (disch := omega) only [uT_n, uT_s, wI_n, wI_s, wJ_1, wJ_n, wJ_s]; exact g13
        · intro p hp; simp (disch := omega) only [uT_n] at hp; exact gp p hp
        · intro p hp; simp (disch := omega) only [uT_n] at hp; exact gi p hp
      · rw [o1, paD_b, o2, bd2_some, wI_s, if_pos rfl]
        exact CP.flw fr2 (by omega) (by omega) h79
    · rw [n1, paD_b, n2, bd2_some, wI_s, if_pos rfl]
      exact CP.flw fr (by omega) (by omega) h79
  · rw [if_neg e, if_neg (show ¬ nI (F 5) ≤ 0 from nI_ge (b := F 5) (a := 0) (by omega) (by omega))]
    exact CP.fl FC.refl
theorem c_readPerson {R : Rf} {T : Mm} {b : Nat → Nat} {L M n t g : Nat} {F : Nat → Nat} {N : Nat → List Nat} (hR : RT R) (h : CuC T b L M n t) (hg : CG R T g F N) (hv : VF F) (hN : NW F N) (h79 : 79 ≤ g) (hk : kkS b L M t ≠ 0) : CP g R b L M n T (pX3_readPerson R T g 1) (rF2 b L M F N t) := by
  obtain ⟨⟨⟨q5, q6, q7, q8, q9, q10, q11, q12⟩, f0, f1, f2, f3, f4, f14, f15, cs, co, cw, ca, cb, ch⟩, g13, gp, gi⟩ := id hg
  obtain ⟨v0, v1, v2, v3, v4, v5, v6, vs, vo, vj⟩ := id hv
  obtain ⟨a1, a2⟩ := c_advance (R := R) h (h.lt hk)
  unfold pX3_readPerson rF2
  rw [f0, c_fail4 hR h, bd2_some, bz_0, a1, bd1_some]
  simp only [lt]
  by_cases e : F 0 < 5
  · rw [if_pos e, if_pos (show nI (F 0) < 5 from (nI_ltI (b := 5) (by omega) (by omega)).mpr e)]
    have fr : FC g T (wI T 1 6 (nI (t + 1))) := FC.refl.w1 (by omega)
    have hg1 : CG R (wI T 1 6 (nI (t + 1))) g F N := ⟨hg.1.of (fun a h1 h2 => by rw [wI_1, up2_row (by omega)]), (wI_n (Or.inl (by omega))).trans g13, gp, gi⟩
    obtain ⟨n1, n3, n2⟩ | ⟨k, p, n1, n2⟩ := c_newName hR a2 hg1 hv hN
    · obtain ⟨c1, c2⟩ := c_advance (R := R) (a2.jg (a := g + 2) (k := F 0) (v := w5 (wwS b L (t + 1))) (by omega)) (a2.lt (by omega))
      rw [n1, paD_o, n2, bd2_some, if10, c_name hR a2 (Or.inl n3), bd1_some, wI_n (Or.inl (by omega)), f0, ix_nI (by omega) (by omega), nI_clamp (by omega), q6, c1, bd1_some]
      have fr2 := (fr.jg (a := g + 2) (k := F 0) (v := w5 (wwS b L (t + 1))) (by omega)).w1 (k := 6) (v := nI (t + 1 + 1)) (by omega)
      rw [wI_n (Or.inl (by omega)), wJ_1, wI_n (Or.inl (by omega)), f0]
      obtain ⟨v, o1, o2, o3, o4, o5⟩ | ⟨k, p, o1, o2⟩ := c_numL (x := 0) (y := 9) (lo := 0) (hi := 9) hR c2 rfl rfl (by omega) (by omega)
      · rw [o1, paD_o, o2, bd2_some, ix_nI (by omega) (by omega), nI_clamp (by omega), q5]
        simp (disch := omega) only [wI_n, wJ_1]
        rw [f0, ix_nI (by omega) (by omega), nI_clamp (by omega), wI_s, if_neg (ne_m1 (by omega)), nI_1]
        refine ⟨1, _, rfl, ((fr2.w1 (by omega)).wg (by omega) (by omega) h79).wg (by omega) (by omega) h79, Or.inr ⟨_, _, _, rfl, rfl, by simp (disch := omega) only [wI_n, wJ_1], ⟨⟨⟨q5, q6, q7, q8, q9, q10, q11, q12⟩, ?_, ?_, ?_, ?_, ?_, ?_, ?_, ?_, ?_, ?_, ?_, ?_, ?_⟩, ?_, ?_, ?_⟩, (o3.wg (by omega)).wg (by omega)⟩⟩
        · simp (disch := omega) only [uT_n, uT_s, wI_n, wI_s, wJ_1, wJ_n, wJ_s]
        · simp (disch := omega) only [uT_n, uT_s, wI_n, wI_s, wJ_1, wJ_n, wJ_s]; exact f1
        · simp (disch := omega) only [uT_n, uT_s, wI_n, wI_s, wJ_1, wJ_n, wJ_s]; exact f2
        · simp (disch := omega) only [uT_n, uT_s, wI_n, wI_s, wJ_1, wJ_n, wJ_s]; exact f3
        · simp (disch := omega) only [uT_n, uT_s, wI_n, wI_s, wJ_1, wJ_n, wJ_s]; exact f4
        · simp (disch := omega) only [uT_n, uT_s, wI_n, wI_s, wJ_1, wJ_n, wJ_s]; exact f14
        · simp (disch := omega) only [uT_n, uT_s, wI_n, wI_s, wJ_1, wJ_n, wJ_s]; exact f15
        · intro p hp
          simp only [uT_s] at hp
          by_cases e2 : p = F 0
          · subst e2; simp (disch := omega) only [uT_n, uT_s, wI_n, wI_s, wJ_1, wJ_n, wJ_s]
          · simp (disch := omega) only [uT_n, uT_s, wI_n, wI_s, wJ_1, wJ_n, wJ_s]; exact cs p (by omega)
        · intro p hp; simp (disch := omega) only [uT_n] at hp; simp (disch := omega) only [uT_n, uT_s, wI_n, wI_s, wJ_1, wJ_n, wJ_s]; exact co p hp
        · intro p hp; simp (disch := omega) only [uT_n] at hp; simp (disch := omega) only [uT_n, uT_s, wI_n, wI_s, wJ_1, wJ_n, wJ_s]; exact cw p hp
        · intro p hp; simp (disch := omega) only [uT_n] at hp; simp (disch := omega) only [uT_n, uT_s, wI_n, wI_s, wJ_1, wJ_n, wJ_s]; exact ca p hp
        · intro p hp; simp (disch := omega) only [uT_n] at hp; simp (disch := omega) only [uT_n, uT_s, wI_n, wI_s, wJ_1, wJ_n, wJ_s]; exact cb p hp
        · intro p hp; simp (disch := omega) only [uT_n] at hp; simp (disch := omega) only [uT_n, uT_s, wI_n, wI_s, wJ_1, wJ_n, wJ_s]; exact ch p hp
        · simp (disch := omega) only [uT_n, uT_s, wI_n, wI_s, wJ_1, wJ_n, wJ_s]; exact g13
        · intro p hp
          simp only [uT_s] at hp
          by_cases e2 : p = F 0
          · subst e2
            rw [uT_s]
            exact wJ_s
          · rw [uT_n e2]
            exact (wJ_n (Or.inr e2)).trans (gp p (by omega))
        · intro p hp
          simp (disch := omega) only [uT_n] at hp
          rw [uT_n (by omega)]
          exact (wJ_n (Or.inl (by omega))).trans (gi p hp)
      · rw [o1, paD_b, o2, bd2_some, ix_nI (by omega) (by omega), nI_clamp (by omega), q5]
        unfold flc
        simp (disch := omega) only [wI_n, wJ_1]
        rw [f0, ix_nI (by omega) (by omega), nI_clamp (by omega), wI_s, if_pos rfl]
        exact CP.flw fr2 (by omega) (by omega) h79
    · rw [n1, paD_b, n2, bd2_some, if_pos rfl]
      exact CP.fl fr
  · rw [if_neg e, if_neg (show ¬ nI (F 0) < 5 from fun z => e ((nI_ltI (b := 5) (by omega) (by omega)).mp z))]
    exact CP.fl FC.refl
