/-! the class's lines of FALLS, item and join -/
theorem CG.at {R : Rf} {T V : Mm} {g : Nat} {F : Nat → Nat} {N : Nat → List Nat} (h : CG R T g F N) (e : ∀ a, g ≤ a → a ≤ g + 8 → V.1 a = T.1 a) (e2 : ∀ p, p < F 0 → V.2 (g + 2) p = T.2 (g + 2) p) (e3 : ∀ p, p < F 1 → V.2 (g + 3) p = T.2 (g + 3) p) : CG R V g F N := ⟨h.1.of e, by rw [e g (by omega) (by omega)]; exact h.2.1, fun p hp => (e2 p hp).trans (h.2.2.1 p hp), fun p hp => (e3 p hp).trans (h.2.2.2 p hp)⟩
theorem CG.w1 {R : Rf} {T : Mm} {g k : Nat} {v : Int32} {F : Nat → Nat} {N : Nat → List Nat} (h : CG R T g F N) (h79 : 79 ≤ g) : CG R (wI T 1 k v) g F N := h.at (fun a h1 h2 => by rw [wI_1, up2_row (by omega)]) (fun _ _ => rfl) (fun _ _ => rfl)
theorem c_readItem {R : Rf} {T : Mm} {b : Nat → Nat} {L M n t g : Nat} {F : Nat → Nat} {N : Nat → List Nat} (hR : RT R) (h : CuC T b L M n t) (hg : CG R T g F N) (hv : VF F) (hN : NW F N) (h79 : 79 ≤ g) (hk : kkS b L M t ≠ 0) : CP g R b L M n T (pX3_readItem R T g 1) (rF3 b L M F N t) := by
  obtain ⟨⟨⟨q5, q6, q7, q8, q9, q10, q11, q12⟩, f0, f1, f2, f3, f4, f14, f15, cs, co, cw, ca, cb, ch⟩, g13, gp, gi⟩ := id hg
  obtain ⟨v0, v1, v2, v3, v4, v5, v6, vs, vo, vj⟩ := id hv
  obtain ⟨a1, a2⟩ := c_advance (R := R) h (h.lt hk)
  unfold pX3_readItem rF3
  rw [f1, c_fail4 hR h, bd2_some, bz_0, a1, bd1_some]
  simp only [lt]
  by_cases e : F 1 < 10
  · rw [if_pos e, if_pos (show nI (F 1) < 10 from (nI_ltI (b := 10) (by omega) (by omega)).mpr e)]
    have fr : FC g T (wI T 1 6 (nI (t + 1))) := FC.refl.w1 (by omega)
    have hg1 : CG R (wI T 1 6 (nI (t + 1))) g F N := hg.w1 h79
    obtain ⟨n1, n3, n2⟩ | ⟨k, p, n1, n2⟩ := c_newName hR a2 hg1 hv hN
    · obtain ⟨c1, c2⟩ := c_advance (R := R) (a2.jg (a := g + 3) (k := F 1) (v := w5 (wwS b L (t + 1))) (by omega)) (a2.lt (by omega))
      rw [n1, paD_o, n2, bd2_some, if10, c_name hR a2 (Or.inl n3), bd1_some, wI_n (Or.inl (by omega)), f1, ix_nI (by omega) (by omega), nI_clamp (by omega), q7, c1, bd1_some]
      have fr2 := (fr.jg (a := g + 3) (k := F 1) (v := w5 (wwS b L (t + 1))) (by omega)).w1 (k := 6) (v := nI (t + 1 + 1)) (by omega)
      have hg2 : CG R (wI (wJ (wI T 1 6 (nI (t + 1))) (g + 3) (F 1) (w5 (wwS b L (t + 1)))) 1 6 (nI (t + 1 + 1))) g F N := CG.w1 (hg1.at (fun _ _ _ => rfl) (fun p hp => wJ_n (Or.inl (by omega))) (fun p hp => wJ_n (Or.inr (by omega)))) h79
      rw [wI_n (Or.inl (by omega)), wJ_1, wI_n (Or.inl (by omega)), f1, c_takePerson hR c2 hg2 hv hN]
      obtain ⟨x, p1, p2, p3, p4, p5⟩ | ⟨k, p, p1, p2⟩ := c_taken3 (R := R) hR c2 (o := fnP F N (wwS b L (t + 1 + 1))) (fun i hi => by have := fnP_lt hi; omega)
      · have hx := fnP_lt p2
        rw [show t + 2 = t + 1 + 1 from rfl, p1, paD_o, p4, bd2_some, ix_nI (by omega) (by omega), nI_clamp (by omega), q8]
        simp (disch := omega) only [wI_n, wJ_1]
        rw [f1, ix_nI (by omega) (by omega), nI_clamp (by omega), wI_s, if_neg (ne_m1 (by omega))]
        have fr3 := (fr2.w1 (k := 6) (v := nI (t + 1 + 1 + 1)) (by omega)).wg (a := g + 4) (k := F 1) (v := nI x) (by omega) (by omega) h79
        obtain ⟨v, o1, o2, o3, o4, o5⟩ | ⟨k, p, o1, o2⟩ := c_numL (x := 1) (y := 20) (lo := 1) (hi := 20) hR (p5.wg (a := g + 4) (k := F 1) (v := nI x) (by omega)) rfl rfl (by omega) (by omega)
        · rw [show t + 3 = t + 1 + 1 + 1 from rfl, o1, paD_o, o2, bd2_some, ix_nI (by omega) (by omega), q9]
          simp (disch := omega) only [wI_n, wJ_1]
          rw [f1, ix_nI (by omega) (by omega), nI_clamp (by omega), wI_s, if_neg (ne_m1 (by omega)), nI_1]
          refine ⟨1, _, rfl, ((fr3.w1 (by omega)).wg (by omega) (by omega) h79).wg (by omega) (by omega) h79, Or.inr ⟨_, _, _, rfl, rfl, by simp (disch := omega) only [wI_n, wJ_1], ⟨⟨⟨q5, q6, q7, q8, q9, q10, q11, q12⟩, ?_, ?_, ?_, ?_, ?_, ?_, ?_, ?_, ?_, ?_, ?_, ?_, ?_⟩, ?_, ?_, ?_⟩, (o3.wg (by omega)).wg (by omega)⟩⟩
          · simp (disch := omega) only [uT_n, uT_s, wI_n, wI_s, wJ_1, wJ_n, wJ_s]; exact f0
          · simp (disch := omega) only [uT_n, uT_s, wI_n, wI_s, wJ_1, wJ_n, wJ_s]
          · simp (disch := omega) only [uT_n, uT_s, wI_n, wI_s, wJ_1, wJ_n, wJ_s]; exact f2
          · simp (disch := omega) only [uT_n, uT_s, wI_n, wI_s, wJ_1, wJ_n, wJ_s]; exact f3
          · simp (disch := omega) only [uT_n, uT_s, wI_n, wI_s, wJ_1, wJ_n, wJ_s]; exact f4
          · simp (disch := omega) only [uT_n, uT_s, wI_n, wI_s, wJ_1, wJ_n, wJ_s]; exact f14
          · simp (disch := omega) only [uT_n, uT_s, wI_n, wI_s, wJ_1, wJ_n, wJ_s]; exact f15
          · intro p hp; simp (disch := omega) only [uT_n] at hp; simp (disch := omega) only [uT_n, uT_s, wI_n, wI_s, wJ_1, wJ_n, wJ_s]; exact cs p hp
          · intro p hp
            simp only [uT_s] at hp
            by_cases e2 : p = F 1
            · subst e2; simp (disch := omega) only [uT_n, uT_s, wI_n, wI_s, wJ_1, wJ_n, wJ_s]
            · simp (disch := omega) only [uT_n, uT_s, wI_n, wI_s, wJ_1, wJ_n, wJ_s]; exact co p (by omega)
          · intro p hp
            simp only [uT_s] at hp
            by_cases e2 : p = F 1
            · subst e2; simp (disch := omega) only [uT_n, uT_s, wI_n, wI_s, wJ_1, wJ_n, wJ_s]
            · simp (disch := omega) only [uT_n, uT_s, wI_n, wI_s, wJ_1, wJ_n, wJ_s]; exact cw p (by omega)
          · intro p hp; simp (disch := omega) only [uT_n] at hp; simp (disch := omega) only [uT_n, uT_s, wI_n, wI_s, wJ_1, wJ_n, wJ_s]; exact ca p hp
          · intro p hp; simp (disch := omega) only [uT_n] at hp; simp (disch := omega) only [uT_n, uT_s, wI_n, wI_s, wJ_1, wJ_n, wJ_s]; exact cb p hp
          · intro p hp; simp (disch := omega) only [uT_n] at hp; simp (disch := omega) only [uT_n, uT_s, wI_n, wI_s, wJ_1, wJ_n, wJ_s]; exact ch p hp
          · simp (disch := omega) only [uT_n, uT_s, wI_n, wI_s, wJ_1, wJ_n, wJ_s]; exact g13
          · intro p hp
            simp (disch := omega) only [uT_n] at hp
            rw [uT_n (by omega)]
            exact (wJ_n (Or.inl (by omega))).trans (gp p hp)
          · intro p hp
            simp only [uT_s] at hp
            by_cases e2 : p = F 1
            · subst e2
              rw [uT_s]
              exact wJ_s
            · rw [uT_n (by omega)]
              exact (wJ_n (Or.inr e2)).trans (gi p (by omega))
        · rw [show t + 3 = t + 1 + 1 + 1 from rfl, o1, paD_b, o2, bd2_some, ix_nI (by omega) (by omega), q9]
          unfold flc
          simp (disch := omega) only [wI_n, wJ_1]
          rw [f1, ix_nI (by omega) (by omega), nI_clamp (by omega), wI_s, if_pos rfl]
          exact CP.flw fr3 (by omega) (by omega) h79
      · rw [show t + 2 = t + 1 + 1 from rfl, p1, paD_b, p2, bd2_some, ix_nI (by omega) (by omega), nI_clamp (by omega), q8]
        unfold flc
        simp (disch := omega) only [wI_n, wJ_1]
        rw [f1, ix_nI (by omega) (by omega), nI_clamp (by omega), wI_s, if_pos rfl]
        exact CP.flw fr2 (by omega) (by omega) h79
    · rw [n1, paD_b, n2, bd2_some, if_pos rfl]
      exact CP.fl fr
  · rw [if_neg e, if_neg (show ¬ nI (F 1) < 10 from fun z => e ((nI_ltI (b := 10) (by omega) (by omega)).mp z))]
    exact CP.fl FC.refl
theorem c_mayBeJoined {R : Rf} {T : Mm} {g x y : Nat} {F : Nat → Nat} (hg : CF R T g F) (hv : VF F) (hx : x < F 1) (hy : y < F 1) : pX3_mayBeJoined R T g (nI x) (nI y) = some (if x ≠ y ∧ F (12 + x) = F (12 + y) ∧ jnB F x y = false then 1 else 0) := by
  obtain ⟨v0, v1, v2, v3, v4, v5, v6, vs, vo, vj⟩ := id hv
  have hxy : nI x = nI y ↔ x = y := nI_eq (by omega) (by omega)
  unfold pX3_mayBeJoined
  rw [c_joinsAtS hg hv hx, c_joinsAtS hg hv hy, bd1_some, bd1_some]
  obtain ⟨⟨q5, q6, q7, q8, q9, q10, q11, q12⟩, f0, f1, f2, f3, f4, f14, f15, cs, co, cw, ca, cb, ch⟩ := hg
  by_cases e : x = y
  · rw [if_pos (hxy.mpr e), if_neg (fun z => z.1 e)]
  · rw [if_neg (fun z => e (hxy.mp z)), ix_nI (by omega) (by omega), ix_nI (by omega) (by omega), nI_clamp (by omega), nI_clamp (by omega), q8, co x hx, co y hy]
    have h1 := (vo x hx).1
    have h2 := (vo y hy).1
    have hoo : nI (F (12 + x)) = nI (F (12 + y)) ↔ F (12 + x) = F (12 + y) := nI_eq (by omega) (by omega)
    by_cases e2 : F (12 + x) = F (12 + y)
    · rw [if_pos (hoo.mpr e2)]
      have key : (jaS F x &&& jaS F y = 0) ↔ jnB F x y = false := by
        constructor
        · intro z
          cases zz : jnB F x y with
          | false => rfl
          | true =>
            unfold jnB at zz
            obtain ⟨j, j1, j2⟩ := exB_iff.mp zz
            have : bt (jaS F x &&& jaS F y) j = true := by
              rw [b_and]
              unfold jaS
              rw [bt_sB _ (by omega) (by omega), bt_sB _ (by omega) (by omega)]
              simp only [Bool.or_eq_true, Bool.and_eq_true, decide_eq_true_eq] at j2
              simp only [Bool.and_eq_true, Bool.or_eq_true, decide_eq_true_eq]
              omega
            rw [z, b_0] at this
            cases this
        · intro z
          refine b_ext fun j hj => ?_
          rw [b_and, b_0]
          cases zz : (bt (jaS F x) j && bt (jaS F y) j) with
          | false => rfl
          | true =>
            exfalso
            unfold jaS at zz
            rw [bt_sB _ (by omega) (by omega), bt_sB _ (by omega) (by omega)] at zz
            simp only [Bool.and_eq_true, Bool.or_eq_true, decide_eq_true_eq] at zz
            have : jnB F x y = true := by
              unfold jnB
              refine exB_iff.mpr ⟨j, zz.1.1, ?_⟩
              simp only [Bool.or_eq_true, Bool.and_eq_true, decide_eq_true_eq]
              omega
            rw [z] at this
            cases this
      by_cases e3 : jnB F x y = false
      · rw [if_pos (key.mpr e3), if_pos ⟨e, e2, e3⟩]
      · rw [if_neg (fun z => e3 (key.mp z)), if_neg (fun z => e3 z.2.2)]
    · rw [if_neg (fun z => e2 (hoo.mp z)), if_neg (fun z => e2 z.2.1)]
