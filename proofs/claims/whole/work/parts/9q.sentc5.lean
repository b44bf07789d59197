/-! a SENTENCE: the class's CONDITION, the outer loop -/
theorem c_ors {R : Rf} {b : Nat → Nat} {L M n s f : Nat} {F : Nat → Nat} {N : Nat → List Nat} {FO FC : RecF} {d : Nat} (hR : RT R) (hS : RS R s) (h97 : 97 ≤ s) (h79 : 79 ≤ f) (hfs : f + 8 < s) (hO : OneC R b L M n s f F N FO d) (o : List Nat) (ho : ∀ x l, o = x :: l → x = 23) : ∀ (m fuel k : Nat) (T : Mm) (c : Cod) (ones t : Nat), CuC T b L M n t → SC T s c ones → CG R T f F N → c.length + (if 0 < k then 22 :: o else o).length ≤ 2 * ones → ones ≤ 20 → k ≤ ones → 21 ≤ ones + m → m < fuel → ∃ u V, zl2 (pX8_readCondition_3 FO FC R s 1 f (nI d) (pX8_readCondition_30 FO FC R s 1 f (nI d)) (pX8_readCondition_91 FO FC R s 1 f (nI d)) (pX8_readCondition_103 FO FC R s 1 f (nI d))) fuel T (nI k) = some (u, V) ∧ FS s T V ∧ ((∃ k' p j, u = 0 ∧ V.1 1 2 = nI k' ∧ V.1 1 3 = nI p ∧ gB L M k' p ∧ baT b L M F N (false, (if 0 < k then 22 :: o else o), c, ones, d, t) k' p j ∧ t + j ≤ n + 1) ∨ ∃ o2 c2 d2 c' ones' t' j, u = 1 ∧ V.1 1 2 = T.1 1 2 ∧ goT b L M F N (false, (if 0 < k then 22 :: o else o), c, ones, d, t) (true, o2, c2, ones', d2, t') j ∧ t + j ≤ t' ∧ (joS 22 (ntS o2 c2 d2).1 (ntS o2 c2 d2).2.1 = (o, c') ∧ (ntS o2 c2 d2).2.2 = d) ∧ ¬ (kkS b L M t' = 4 ∧ (vvS b L t' = 11 ∨ vvS b L t' = 12)) ∧ SC V s c' ones' ∧ CuC V b L M n t' ∧ c'.length + o.length + 1 ≤ 2 * ones' ∧ ones < ones' ∧ ones' ≤ 20) := by
  intro m
  induction m with
  | zero => intro fuel k T c ones t _ _ _ _ _ _ hm _; omega
  | succ m ih =>
    intro fuel k T c ones t h hs hg hlen h20 hk hm hf
    cases fuel with
    | zero => omega
    | succ fuel =>
      rw [zl2_s]
      have ih' := ih fuel
      generalize zl2 (pX8_readCondition_3 FO FC R s 1 f (nI d) (pX8_readCondition_30 FO FC R s 1 f (nI d)) (pX8_readCondition_91 FO FC R s 1 f (nI d)) (pX8_readCondition_103 FO FC R s 1 f (nI d))) fuel = rr at ih' ⊢
      unfold pX8_readCondition_3
      rw [if_neg (show ¬ (20 : Int32) < nI k from fun z => by have := (nI_ltI (a := 20) (by omega) (by omega)).mp z; omega)]
      have hj22 : ∀ c, joS 22 o c = (o, c) := fun c => by
        cases o with
        | nil => rfl
        | cons x l => exact joS_n (by have := ho x l rfl; omega)
      rcases c_ands (FC := FC) hR hS h97 h79 hfs hO (if 0 < k then 22 :: o else o) (fun x l e => by
        by_cases z : 0 < k
        · rw [if_pos z] at e; cases e; exact Or.inr rfl
        · rw [if_neg z] at e; exact Or.inl (ho x l e)) (nI k) (pX8_readCondition_30 FO FC R s 1 f (nI d)) (pX8_readCondition_55 FO FC R s 1 f (nI d) rr (pX8_readCondition_30 FO FC R s 1 f (nI d)) (pX8_readCondition_91 FO FC R s 1 f (nI d)) (pX8_readCondition_103 FO FC R s 1 f (nI d))) (pX8_readCondition_68 FO FC R s 1 f (nI d) rr (pX8_readCondition_30 FO FC R s 1 f (nI d)) (pX8_readCondition_91 FO FC R s 1 f (nI d)) (pX8_readCondition_103 FO FC R s 1 f (nI d))) 21 FU 0 T c ones t h hs hg hlen h20 (by omega) (by omega) (by decide) with ⟨V, k', p, j, z1, z2, z3, z4, z5, z6, z7⟩ | ⟨V, o2, c2, d2, c', ones', t', j, z1, z2, z3, z4, z5, ⟨z6, z6'⟩, z7, z8, z9, z10, z11, z12⟩
      · rw [show (0 : Int32) = nI 0 from rfl, z1]
        exact ⟨0, V, rfl, z2, Or.inl ⟨k', p, j, rfl, z3, z4, z5, z6, z7⟩⟩
      · rw [show (0 : Int32) = nI 0 from rfl, z1]
        rw [if_neg (show ¬ 0 < 0 by omega)] at z4
        have key : ∃ W c'', pX8_readCondition_55 FO FC R s 1 f (nI d) rr (pX8_readCondition_30 FO FC R s 1 f (nI d)) (pX8_readCondition_91 FO FC R s 1 f (nI d)) (pX8_readCondition_103 FO FC R s 1 f (nI d)) V (nI k) = pX8_readCondition_82 FO FC R s 1 f (nI d) rr (pX8_readCondition_30 FO FC R s 1 f (nI d)) (pX8_readCondition_91 FO FC R s 1 f (nI d)) (pX8_readCondition_103 FO FC R s 1 f (nI d)) W (nI k) ∧ FS s T W ∧ W.1 1 2 = T.1 1 2 ∧ SC W s c'' ones' ∧ CuC W b L M n t' ∧ c''.length + o.length + 1 ≤ 2 * ones' ∧ joS 22 (ntS o2 c2 d2).1 (ntS o2 c2 d2).2.1 = (o, c'') := by
          unfold pX8_readCondition_55 pX8_readCondition_68
          by_cases e : 0 < k
          · rw [if_pos e] at z6 z10
            rw [if_neg (show ¬ nI k ≤ 0 from nI_ge (b := k) (a := 0) e (by omega))]
            simp only [List.length_cons] at z10
            obtain ⟨W, q1, q2, q3, q4⟩ := c_step (a := 22) (x := 0) (v := 0) (w := 11) (y := 0) (z := 0) hS h97 z8 (by omega) rfl rfl rfl
            rw [q1, bd2_some]
            refine ⟨W, (22, 0, 0) :: c', rfl, z2.trans q3, by rw [q4, z3], q2, ?_, by simp only [List.length_cons]; omega, ?_⟩
            · exact z9.of (q3.1 3 (by decide) (by omega)) (q3.1 4 (by decide) (by omega)) (q3.1 5 (by decide) (by omega)) (by rw [q3.2.1]) (by rw [q4]) (by rw [q4]) (by rw [q4]; exact z9.2.1) z9.2.2.1
            · rw [z6, joS_y (Or.inr ⟨rfl, rfl⟩), hj22]
          · rw [if_neg e] at z6 z10
            have e0 : k = 0 := by omega
            subst e0
            rw [if_pos (by decide)]
            exact ⟨V, c', rfl, z2, z3, z8, z9, z10, by rw [z6, hj22]⟩
        obtain ⟨W, c'', w1, w2, w3, w4, w5, w6, w7⟩ := key
        rw [w1]
        unfold pX8_readCondition_82
        rw [c_keyword hR w5, bd1_some]
        by_cases ea : kkS b L M t' = 4 ∧ vvS b L t' = 11
        · rw [if_pos ea.1, ea.2, if_pos (show nI 11 = 11 from rfl)]
          obtain ⟨a1, a2⟩ := c_advance (R := R) w5 (w5.lt (by omega))
          rw [a1, bd1_some]
          simp only [lt]
          rw [nI_1]
          have hst : stS b L M F N (true, o2, c2, ones', d2, t') = paO (Sum.inl (false, 22 :: o, c'', ones', d, t' + 1)) := by
            rw [stS_b]
            unfold beS
            rw [if_neg (show ¬ (kkS b L M t' = 0 ∧ ¬ M < L) by omega), if_neg z7, if_pos ea, w7, z6']
          have hgo := goT_t z4 (goT_1 hst)
          obtain ⟨u, X, x1, x2, x3⟩ := ih' (k + 1) (wI W 1 6 (nI (t' + 1))) c'' ones' (t' + 1) a2 (w4.w1 h97) ((w2.w1 (k := 6) (v := nI (t' + 1)) (by omega)).cg hg h79 hfs) (by rw [if_pos (by omega)]; simp only [List.length_cons]; omega) z12 (by omega) (by omega) (by omega)
          rw [if_pos (show 0 < k + 1 by omega)] at x3
          refine ⟨u, X, x1, (w2.w1 (by omega)).trans x2, ?_⟩
          rcases x3 with ⟨k', p, j', y1, y2, y3, y4, y5, y6⟩ | ⟨o3, c3, d3, c4, ones3, t3, j', y1, y2, y3, y4, y5, y6, y7, y8, y9, y10, y11⟩
          · exact Or.inl ⟨k', p, _, y1, y2, y3, y4, baT_t hgo y5, by omega⟩
          · exact Or.inr ⟨o3, c3, d3, c4, ones3, t3, _, y1, by rw [y2, wI_n (Or.inr (by decide)), w3], goT_t hgo y3, by omega, y5, y6, y7, y8, y9, by omega, y11⟩
        · have hno : ¬ (if kkS b L M t' = 4 then nI (vvS b L t') else -1) = 11 := by
            by_cases e4 : kkS b L M t' = 4
            · have hv24 := (kw_some ((kk_word (Or.inr e4)).2.2 e4)).1
              rw [if_pos e4]
              intro z
              exact ea ⟨e4, (nI_eq (b := 11) (by omega) (by omega)).mp z⟩
            · rw [if_neg e4]; decide
          rw [if_neg hno]
          exact ⟨1, W, rfl, w2, Or.inr ⟨o2, c2, d2, c'', ones', t', j, rfl, w3, z4, z5, ⟨w7, z6'⟩, by omega, w4, w5, w6, z11, z12⟩⟩
