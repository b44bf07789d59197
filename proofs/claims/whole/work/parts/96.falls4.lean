/-! the class's join of FALLS, and a line -/
theorem c_join72n {R : Rf} {T : Mm} {b : Nat → Nat} {L M n t g : Nat} {F : Nat → Nat} {N : Nat → List Nat} (hR : RT R) (h : CuC T b L M n t) (hg : CG R T g F N) (hv : VF F) (hN : NW F N) (h79 : 79 ≤ g) {x : Int32} (y : Int32) (hn : ∀ z, ¬ (kkS b L M t = 3 ∧ fnI F N (wwS b L t) = some z)) : ∃ k p, naP b L M t (fnI F N (wwS b L t)) = paB k p ∧ pX3_readJoin_72 R g 1 T x y = some (0, flc T k p) := by
  obtain ⟨v0, v1, v2, v3, v4, v5, v6, vs, vo, vj⟩ := id hv
  unfold pX3_readJoin_72
  rw [c_takeItem hR h hg hv hN]
  obtain ⟨z, p1, p2, p3, p4, p5⟩ | ⟨k, p, p1, p2⟩ := c_taken3 (R := R) hR h (o := fnI F N (wwS b L t)) (fun i hi => by have := fnI_lt hi; omega)
  · exact absurd ⟨p3, p2⟩ (hn z)
  · rw [p2, bd2_some, if_pos rfl]
    exact ⟨_, _, p1, rfl⟩
theorem c_join72 {R : Rf} {T : Mm} {b : Nat → Nat} {L M n t g : Nat} {F : Nat → Nat} {N : Nat → List Nat} (hR : RT R) (h : CuC T b L M n t) (hg : CG R T g F N) (hv : VF F) (hN : NW F N) (h79 : 79 ≤ g) {x y : Nat} (h3 : kkS b L M t = 3) (hy : fnI F N (wwS b L t) = some y) (hx : x < F 1) (h16 : F 2 < 16) : CP g R b L M n T (pX3_readJoin_72 R g 1 T (nI x) (nI y)) (paD (nuP b L M (t + 1) 1 30) fun v => paO (uT (uT (uT (uT F (32 + F 2) x) (48 + F 2) y) (64 + F 2) v) 2 (F 2 + 1), N, t + 2)) := by
  obtain ⟨⟨⟨q5, q6, q7, q8, q9, q10, q11, q12⟩, f0, f1, f2, f3, f4, f14, f15, cs, co, cw, ca, cb, ch⟩, g13, gp, gi⟩ := id hg
  obtain ⟨v0, v1, v2, v3, v4, v5, v6, vs, vo, vj⟩ := id hv
  unfold pX3_readJoin_72
  rw [c_takeItem hR h hg hv hN]
  obtain ⟨z, p1, p2, p3, p4, p5⟩ | ⟨k, p, p1, p2⟩ := c_taken3 (R := R) hR h (o := fnI F N (wwS b L t)) (fun i hi => by have := fnI_lt hi; omega)
  · rw [hy] at p2
    cases p2
    have hyl := fnI_lt hy
    rw [p4, bd2_some, if_neg (ne_m1 (by omega)), wI_n (Or.inl (by omega)), f2, ix_nI (by omega) (by omega), nI_clamp (by omega), q10, q11, q12]
    simp (disch := omega) only [lt, wI_n]
    rw [f2, ix_nI (by omega) (by omega), nI_clamp (by omega)]
    have fr3 := ((FC.refl (g := g) (T := T)).w1 (k := 6) (v := nI (t + 1)) (by omega)).wg (a := g + 6) (k := F 2) (v := nI x) (by omega) (by omega) h79 |>.wg (a := g + 7) (k := F 2) (v := nI y) (by omega) (by omega) h79
    obtain ⟨v, o1, o2, o3, o4, o5⟩ | ⟨k, p, o1, o2⟩ := c_numL (x := 1) (y := 30) (lo := 1) (hi := 30) hR ((p5.wg (a := g + 6) (k := F 2) (v := nI x) (by omega)).wg (a := g + 7) (k := F 2) (v := nI y) (by omega)) rfl rfl (by omega) (by omega)
    · rw [o1, paD_o, o2, bd2_some, ix_nI (by omega) (by omega)]
      simp (disch := omega) only [wI_n]
      rw [f2, ix_nI (by omega) (by omega), nI_clamp (by omega), wI_s, if_neg (ne_m1 (by omega)), nI_1]
      refine ⟨1, _, rfl, ((fr3.w1 (by omega)).wg (by omega) (by omega) h79).wg (by omega) (by omega) h79, Or.inr ⟨_, _, _, rfl, rfl, by simp (disch := omega) only [wI_n], ⟨⟨⟨q5, q6, q7, q8, q9, q10, q11, q12⟩, ?_, ?_, ?_, ?_, ?_, ?_, ?_, ?_, ?_, ?_, ?_, ?_, ?_⟩, ?_, ?_, ?_⟩, (o3.wg (by omega)).wg (by omega)⟩⟩
      · simp (disch := omega) only [uT_n, uT_s, wI_n, wI_s, wJ_1, wJ_n, wJ_s]; exact f0
      · simp (disch := omega) only [uT_n, uT_s, wI_n, wI_s, wJ_1, wJ_n, wJ_s]; exact f1
      · simp (disch := omega) only [uT_n, uT_s, wI_n, wI_s, wJ_1, wJ_n, wJ_s]
      · simp (disch := omega) only [uT_n, uT_s, wI_n, wI_s, wJ_1, wJ_n, wJ_s]; exact f3
      · simp (disch := omega) only [uT_n, uT_s, wI_n, wI_s, wJ_1, wJ_n, wJ_s]; exact f4
      · simp (disch := omega) only [uT_n, uT_s, wI_n, wI_s, wJ_1, wJ_n, wJ_s]; exact f14
      · simp (disch := omega) only [uT_n, uT_s, wI_n, wI_s, wJ_1, wJ_n, wJ_s]; exact f15
      · intro p hp; simp (disch := omega) only [uT_n] at hp; simp (disch := omega) only [uT_n, uT_s, wI_n, wI_s, wJ_1, wJ_n, wJ_s]; exact cs p hp
      · intro p hp; simp (disch := omega) only [uT_n] at hp; simp (disch := omega) only [uT_n, uT_s, wI_n, wI_s, wJ_1, wJ_n, wJ_s]; exact co p hp
      · intro p hp; simp (disch := omega) only [uT_n] at hp; simp (disch := omega) only [uT_n, uT_s, wI_n, wI_s, wJ_1, wJ_n, wJ_s]; exact cw p hp
      · intro p hp
        simp only [uT_s] at hp
        by_cases e2 : p = F 2
        · subst e2; simp (disch := omega) only [uT_n, uT_s, wI_n, wI_s, wJ_1, wJ_n, wJ_s]
        · simp (disch := omega) only [uT_n, uT_s, wI_n, wI_s, wJ_1, wJ_n, wJ_s]; exact ca p (by omega)
      · intro p hp
        simp only [uT_s] at hp
        by_cases e2 : p = F 2
        · subst e2; simp (disch := omega) only [uT_n, uT_s, wI_n, wI_s, wJ_1, wJ_n, wJ_s]
        · simp (disch := omega) only [uT_n, uT_s, wI_n, wI_s, wJ_1, wJ_n, wJ_s]; exact cb p (by omega)
      · intro p hp
        simp only [uT_s] at hp
        by_cases e2 : p = F 2
        · subst e2; simp (disch := omega) only [uT_n, uT_s, wI_n, wI_s, wJ_1, wJ_n, wJ_s]
        · simp (disch := omega) only [uT_n, uT_s, wI_n, wI_s, wJ_1, wJ_n, wJ_s]; exact ch p (by omega)
      · simp (disch := omega) only [uT_n, uT_s, wI_n, wI_s, wJ_1, wJ_n, wJ_s]; exact g13
      · intro p hp; simp (disch := omega) only [uT_n] at hp; exact gp p hp
      · intro p hp; simp (disch := omega) only [uT_n] at hp; exact gi p hp
    · rw [o1, paD_b, o2, bd2_some, ix_nI (by omega) (by omega)]
      unfold flc
      simp (disch := omega) only [wI_n]
      rw [f2, ix_nI (by omega) (by omega), nI_clamp (by omega), wI_s, if_pos rfl]
      exact CP.flw fr3 (by omega) (by omega) h79
  · unfold naP at p1
    rw [if_pos h3, hy] at p1
    cases p1
theorem CP.tr {g : Nat} {R : Rf} {b : Nat → Nat} {L M n : Nat} {T U : Mm} {o : Option (Int32 × Mm)} {r : Pa FSt} (h : CP g R b L M n U o r) (f : FC g T U) (e : U.1 1 2 = T.1 1 2) : CP g R b L M n T o r := by
  obtain ⟨u, V, h1, h2, h3⟩ := h
  rw [e] at h3
  exact ⟨u, V, h1, f.trans h2, h3⟩
theorem c_readJoin {R : Rf} {T : Mm} {b : Nat → Nat} {L M n t g : Nat} {F : Nat → Nat} {N : Nat → List Nat} (hR : RT R) (h : CuC T b L M n t) (hg : CG R T g F N) (hv : VF F) (hN : NW F N) (h79 : 79 ≤ g) (hk : kkS b L M t ≠ 0) : CP g R b L M n T (pX3_readJoin R T g 1) (rF4 b L M F N t) := by
  obtain ⟨⟨⟨q5, q6, q7, q8, q9, q10, q11, q12⟩, f0, f1, f2, f3, f4, f14, f15, cs, co, cw, ca, cb, ch⟩, g13, gp, gi⟩ := id hg
  obtain ⟨v0, v1, v2, v3, v4, v5, v6, vs, vo, vj⟩ := id hv
  obtain ⟨a1, a2⟩ := c_advance (R := R) h (h.lt hk)
  unfold pX3_readJoin rF4
  rw [f2, c_fail4 hR h, bd2_some, bz_0, a1, bd1_some]
  by_cases e : F 2 < 16
  · rw [if_pos e, if_pos (show nI (F 2) < 16 from (nI_ltI (b := 16) (by omega) (by omega)).mpr e)]
    have fr : FC g T (wI T 1 6 (nI (t + 1))) := FC.refl.w1 (by omega)
    have hg1 : CG R (wI T 1 6 (nI (t + 1))) g F N := hg.w1 h79
    rw [c_takeItem hR a2 hg1 hv hN]
    obtain ⟨x, p1, p2, p3, p4, p5⟩ | ⟨k, p, p1, p2⟩ := c_taken3 (R := R) hR a2 (o := fnI F N (wwS b L (t + 1))) (fun i hi => by have := fnI_lt hi; omega)
    · have hx := fnI_lt p2
      have fr2 := fr.w1 (k := 6) (v := nI (t + 1 + 1)) (by omega)
      have hg2 : CG R (wI (wI T 1 6 (nI (t + 1))) 1 6 (nI (t + 1 + 1))) g F N := hg1.w1 h79
      rw [p1, paD_o, p4, bd2_some, if_neg (ne_m1 (by omega)), c_atName hR p5, bd1_some, show t + 2 = t + 1 + 1 from rfl]
      by_cases e3 : kkS b L M (t + 1 + 1) = 3
      · rw [if_pos e3, if10, c_name hR p5 (Or.inl e3), bd1_some, c_itemNamed hg2 hv hN (kk_word (Or.inl e3)).1, bd1_some]
        unfold pX3_readJoin_51
        cases e4 : fnI F N (wwS b L (t + 1 + 1)) with
        | none =>
          rw [if_pos (show oI none = -1 from rfl)]
          obtain ⟨k, p, j1, j2⟩ := c_join72n (x := nI x) hR p5 hg2 hv hN h79 (oI none) (fun z hz => by rw [e4] at hz; cases hz.2)
          rw [← e4, j1, paD_b, e4, j2]
          exact CP.fl fr2
        | some y =>
          have hy := fnI_lt e4
          rw [if_neg (show ¬ oI (some y) = -1 from ne_m1 (by omega)), show oI (some y) = nI y from rfl, c_mayBeJoined hg2.1 hv hx hy, bd1_some]
          unfold naP
          rw [if_pos e3]
          show CP g R b L M n T _ (paD (paO y) _)
          rw [paD_o]
          by_cases e5 : x ≠ y ∧ F (12 + x) = F (12 + y) ∧ jnB F x y = false
          · rw [if_pos e5, if10, if_pos e5]
            exact (c_join72 hR p5 hg2 hv hN h79 e3 e4 hx e).tr fr2 (by simp (disch := omega) only [wI_n])
          · rw [if_neg e5, if00, if_neg e5, c_fail3 hR p5, bd2_some, bz_0]
            exact CP.fl fr2
      · rw [if_neg e3, if00]
        unfold pX3_readJoin_51
        rw [if_pos rfl]
        obtain ⟨k, p, j1, j2⟩ := c_join72n (x := nI x) hR p5 hg2 hv hN h79 (-1) (fun z hz => e3 hz.1)
        rw [j1, paD_b, j2]
        exact CP.fl fr2
    · rw [p1, paD_b, p2, bd2_some, if_pos rfl]
      exact CP.fl fr
  · rw [if_neg e, if_neg (show ¬ nI (F 2) < 16 from fun z => e ((nI_ltI (b := 16) (by omega) (by omega)).mp z))]
    exact CP.fl FC.refl
/-- a line, with its ';' -/
def rFL (b : Nat → Nat) (L M : Nat) (F : Nat → Nat) (N : Nat → List Nat) (t : Nat) : Pa FSt := if kkS b L M t = 4 ∧ vvS b L t < 5 then paD (if vvS b L t = 0 then rF0 b L M F N t else if vvS b L t = 1 then rF1 b L M F N t else if vvS b L t = 2 then rF2 b L M F N t else if vvS b L t = 3 then rF3 b L M F N t else rF4 b L M F N t) fun s => paD (maP b L M s.2.2 59) fun _ => paO (s.1, s.2.1, s.2.2 + 1) else paB 1 (psS b L M t)
theorem CP.semi {g : Nat} {R : Rf} {b : Nat → Nat} {L M n : Nat} {T : Mm} {o : Option (Int32 × Mm)} {r : Pa FSt} (hR : RT R) (h79 : 79 ≤ g) (h : CP g R b L M n T o r) : CP g R b L M n T (bd2 o (fun (u3 : Int32) (T3 : Mm) => if u3 = 0 then some (0, T3) else bd2 (pX10_takeMark R T3 1 59) (fun (u4 : Int32) (T4 : Mm) => if u4 = 0 then some (0, T4) else some (1, T4)))) (paD r fun s => paD (maP b L M s.2.2 59) fun _ => paO (s.1, s.2.1, s.2.2 + 1)) := by
  obtain ⟨u, V, h1, h2, h3⟩ := h
  rw [h1, bd2_some]
  rcases h3 with ⟨k, p, z1, z2, z3, z4⟩ | ⟨F', N', t', z1, z2, z5, z3, z4⟩
  · rw [z1, z2, if_pos rfl, paD_b]
    exact ⟨0, V, rfl, h2, Or.inl ⟨k, p, rfl, rfl, z3, z4⟩⟩
  · rw [z1, z2, if10, paD_o, show (59 : Int32) = nI 59 from rfl, c_takeMark hR z4 (by omega), bd2_some']
    unfold maP
    dsimp only
    by_cases e : kkS b L M t' = 5 ∧ vvS b L t' = 59
    · rw [if_pos e, if_pos e, paD_o, if10]
      obtain ⟨_, c2⟩ := c_advance (R := R) z4 (z4.lt (by omega))
      exact ⟨1, _, rfl, h2.w1 (by omega), Or.inr ⟨_, _, _, rfl, rfl, (wI_n (Or.inr (by decide))).trans z5, z3.w1 h79, c2⟩⟩
    · rw [if_neg e, if_neg e, paD_b, if_pos rfl]
      exact CP.fl h2
theorem c_readLine {R : Rf} {T : Mm} {b : Nat → Nat} {L M n t g : Nat} {F : Nat → Nat} {N : Nat → List Nat} (hR : RT R) (h : CuC T b L M n t) (hg : CG R T g F N) (hv : VF F) (hN : NW F N) (h79 : 79 ≤ g) (h80 : F 80 ≤ 1) : CP g R b L M n T (pX3_readLine R T g 1) (rFL b L M F N t) := by
  unfold pX3_readLine rFL
  rw [c_keyword hR h, bd1_some, c_fail1 hR h, bd2_some, bz_0]
  by_cases e : kkS b L M t = 4
  · have hk : kkS b L M t ≠ 0 := by omega
    have hv24 := (kw_some ((kk_word (Or.inr e)).2.2 e)).1
    rw [if_pos e]
    simp (disch := omega) only [eq_lit]
    by_cases e0 : vvS b L t = 0
    · rw [if_pos e0, if_pos ⟨e, by omega⟩, if_pos e0]
      exact (c_readFalls hR h hg hv h80 h79 hk).semi hR h79
    rw [if_neg e0]
    by_cases e1 : vvS b L t = 1
    · rw [if_pos e1, if_pos ⟨e, by omega⟩, if_neg e0, if_pos e1]
      exact (c_readRain hR h hg hv hN h79 hk).semi hR h79
    rw [if_neg e1]
    by_cases e2 : vvS b L t = 2
    · rw [if_pos e2, if_pos ⟨e, by omega⟩, if_neg e0, if_neg e1, if_pos e2]
      exact (c_readPerson hR h hg hv hN h79 hk).semi hR h79
    rw [if_neg e2]
    by_cases e3 : vvS b L t = 3
    · rw [if_pos e3, if_pos ⟨e, by omega⟩, if_neg e0, if_neg e1, if_neg e2, if_pos e3]
      exact (c_readItem hR h hg hv hN h79 hk).semi hR h79
    rw [if_neg e3]
    by_cases e4 : vvS b L t = 4
    · rw [if_pos e4, if_pos ⟨e, by omega⟩, if_neg e0, if_neg e1, if_neg e2, if_neg e3]
      exact (c_readJoin hR h hg hv hN h79 hk).semi hR h79
    rw [if_neg e4, if_neg (fun z => by omega)]
    exact CP.fl FC.refl
  · rw [if_neg e, if_neg (by decide), if_neg (by decide), if_neg (by decide), if_neg (by decide), if_neg (by decide), if_neg (fun z => e z.1)]
    exact CP.fl FC.refl
