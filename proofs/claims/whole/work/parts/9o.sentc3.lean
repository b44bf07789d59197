/-! a SENTENCE: the class's not and brackets -/
def CondR (R : Rf) (b : Nat → Nat) (L M n s f : Nat) (F : Nat → Nat) (N : Nat → List Nat) (d : Nat) (T : Mm) (o : List Nat) (c : Cod) (ones t : Nat) (r : Option (Int32 × Mm)) : Prop := ∃ u V, r = some (u, V) ∧ FS s T V ∧ ((∃ k p j, u = 0 ∧ V.1 1 2 = nI k ∧ V.1 1 3 = nI p ∧ gB L M k p ∧ baT b L M F N (false, o, c, ones, d, t) k p j ∧ t + j ≤ n + 1) ∨ ∃ o2 c2 d2 c' ones' t' j, u = 1 ∧ V.1 1 2 = T.1 1 2 ∧ goT b L M F N (false, o, c, ones, d, t) (true, o2, c2, ones', d2, t') j ∧ t + j ≤ t' ∧ (joS 22 (ntS o2 c2 d2).1 (ntS o2 c2 d2).2.1 = (o, c') ∧ (ntS o2 c2 d2).2.2 = d) ∧ ¬ (kkS b L M t' = 4 ∧ (vvS b L t' = 11 ∨ vvS b L t' = 12)) ∧ SC V s c' ones' ∧ CuC V b L M n t' ∧ c'.length + o.length + 1 ≤ 2 * ones' ∧ ones < ones' ∧ ones' ≤ 20)
def CondC (R : Rf) (b : Nat → Nat) (L M n s f : Nat) (F : Nat → Nat) (N : Nat → List Nat) (FC : RecF) (d : Nat) : Prop := ∀ (T : Mm) (o : List Nat) (c : Cod) (ones t : Nat), CuC T b L M n t → SC T s c ones → CG R T f F N → c.length + o.length ≤ 2 * ones → ones ≤ 20 → (∀ x l, o = x :: l → x = 23) → CondR R b L M n s f F N d T o c ones t (FC R T s 1 f (nI d))
theorem c_one {R : Rf} {b : Nat → Nat} {L M n s f : Nat} {F : Nat → Nat} {N : Nat → List Nat} {FO FC : RecF} {d : Nat} (hR : RT R) (hS : RS R s) (h97 : 97 ≤ s) (hv : VF F) (hN : NW F N) (h79 : 79 ≤ f) (hfs : f + 8 < s) (hd : d ≤ 9) (hO : d ≤ 8 → OneC R b L M n s f F N FO (d + 1)) (hC : d ≤ 8 → CondC R b L M n s f F N FC (d + 1)) : OneC R b L M n s f F N (pX8_readOne_F FO FC) d := by
  intro T o c ones t h hs hg hlen h20
  have hps := fun u => psS_le (b := b) (L := L) (M := M) (t := u)
  have htn := h.2.2.1
  unfold pX8_readOne_F
  rw [c_keyword hR h, bd1_some, show (40 : Int32) = nI 40 from rfl, c_atMark hR h (by omega), bd1_some, ifI, c_fail1 hR h, bd2_some, bz_0]
  by_cases eb : kkS b L M t = 5 ∧ vvS b L t = 40
  · rw [if_pos eb, if_neg (show ¬ kkS b L M t = 4 by omega), if_pos eb]
    have hop : opS b L M F N o c ones d t = if ones = 20 ∨ 8 < d then paB 4 (psS b L M t) else paO (false, 23 :: o, c, ones + 1, d + 1, t + 1) := by
      unfold opS
      rw [if_pos (Or.inr eb), if_pos eb.1]
    unfold pX8_readOne_32 pX8_readOne_47
    rw [hs.1, c_fail4 hR h, bd2_some, bz_0]
    simp (disch := omega) only [lit_le, le_lit]
    by_cases e20 : 20 ≤ ones
    · rw [if_pos e20]
      exact OneR.fl FS.refl ⟨by omega, by omega, hps _⟩ (by rw [hop, if_pos (Or.inl (by omega))]) htn
    rw [if_neg e20]
    by_cases ed : d ≤ 8
    · rw [if_pos ed]
      rw [if_neg (show ¬ (ones = 20 ∨ 8 < d) by omega)] at hop
      simp only [lt]
      rw [nI_1, nI_1]
      have hc1 := h.wg (a := s) (k := 0) (v := nI (ones + 1)) (by omega)
      obtain ⟨a1, a2⟩ := c_advance (R := R) hc1 (h.lt (by omega))
      have fr : FS s T (wI (wI T s 0 (nI (ones + 1))) 1 6 (nI (t + 1))) := (FS.refl.ws (by omega) (by omega) h97).w1 (by omega)
      have hs1 : SC (wI (wI T s 0 (nI (ones + 1))) 1 6 (nI (t + 1))) s c (ones + 1) := (hs.w0).w1 h97
      have f2 : (wI (wI T s 0 (nI (ones + 1))) 1 6 (nI (t + 1))).1 1 2 = T.1 1 2 := by simp (disch := omega) only [wI_n]
      have hg1 : CG R (wI (wI T s 0 (nI (ones + 1))) 1 6 (nI (t + 1))) f F N := hg.at (fun a h1 h2 => by rw [wI_1, up2_row (by omega), wI_1, up2_row (by omega)]) (fun _ _ => rfl) (fun _ _ => rfl)
      rw [a1, bd1_some, if10]
      have hg0 := go_op hop
      obtain ⟨u, V, z1, z2, z3⟩ := hC ed _ (23 :: o) c (ones + 1) (t + 1) a2 hs1 hg1 (by simp only [List.length_cons]; omega) (by omega) (fun x l e => by cases e; rfl)
      rw [z1, bd2_some]
      rcases z3 with ⟨k, p, j, rfl, y2, y3, y4, y5, y6⟩ | ⟨o2, c2, d2, c', ones', t', j, rfl, y2, y3, y4, ⟨y5, y5'⟩, y6, y7, y8, y9, y10, y11⟩
      · rw [if_pos rfl]
        exact ⟨0, V, rfl, fr.trans z2, Or.inl ⟨k, p, j + 1, rfl, y2, y3, y4, baT_t hg0 y5, by omega⟩⟩
      · rw [if10, show (41 : Int32) = nI 41 from rfl, c_takeMark hR y8 (by omega), bd2_some']
        have hgo := goT_t hg0 y3
        by_cases em : kkS b L M t' = 5 ∧ vvS b L t' = 41
        · rw [if_pos em]
          dsimp only
          rw [if10]
          have hst : stS b L M F N (true, o2, c2, ones', d2, t') = paO (Sum.inl (true, o, c', ones', d, t' + 1)) := by
            rw [stS_b]
            unfold beS
            rw [if_neg (show ¬ (kkS b L M t' = 0 ∧ ¬ M < L) by omega), if_neg (show ¬ (kkS b L M t' = 4 ∧ vvS b L t' = 12) by omega), if_neg (show ¬ (kkS b L M t' = 4 ∧ vvS b L t' = 11) by omega), y5, y5', if_pos ⟨em, by simp⟩]
            rfl
          obtain ⟨_, m2⟩ := c_advance (R := R) y8 (y8.lt (by omega))
          refine ⟨1, _, rfl, (fr.trans z2).w1 (by omega), Or.inr ⟨o, c', d, c', ones', t' + 1, _, rfl, ?_, goT_t hgo (goT_1 hst), by omega, rfl, y7.w1 h97, m2, ?_, by omega, y11⟩⟩
          · rw [wI_n (Or.inr (by decide)), y2, f2]
          · simp only [List.length_cons] at y9; omega
        · rw [if_neg em]
          dsimp only
          rw [if_pos rfl]
          have hst : stS b L M F N (true, o2, c2, ones', d2, t') = paB 1 (psS b L M t') := by
            rw [stS_b]
            unfold beS
            rw [y5, y5']
            by_cases e0 : kkS b L M t' = 0 ∧ ¬ M < L
            · rw [if_pos e0, if_neg (by simp)]
            · rw [if_neg e0, if_neg (show ¬ (kkS b L M t' = 4 ∧ vvS b L t' = 12) by omega), if_neg (show ¬ (kkS b L M t' = 4 ∧ vvS b L t' = 11) by omega), if_neg (fun z => em z.1)]
          have := y8.2.2.1
          exact ⟨0, _, rfl, (fr.trans z2).fl, Or.inl ⟨1, _, _, rfl, flc_2, flc_3, ⟨by omega, by omega, hps _⟩, baT_t hgo (baT_1 hst), by omega⟩⟩
    · rw [if_neg ed]
      exact OneR.fl FS.refl ⟨by omega, by omega, hps _⟩ (by rw [hop, if_pos (Or.inr (by omega))]) htn
  · rw [if_neg eb]
    by_cases e4 : kkS b L M t = 4
    · have hv24 := (kw_some ((kk_word (Or.inr e4)).2.2 e4)).1
      rw [if_pos e4, if_neg eb]
      simp (disch := omega) only [lit_le]
      by_cases e13 : 13 ≤ vvS b L t
      · rw [if_pos e13]
        by_cases e14 : 14 ≤ vvS b L t
        · exact c_leafs hR hS h97 hv hN h79 hfs hd h hs hg hlen h20 ⟨e4, e14⟩
        · have e13' : vvS b L t = 13 := by omega
          have hop : opS b L M F N o c ones d t = if ones = 20 ∨ 8 < d then paB 4 (psS b L M t) else paO (false, 20 :: o, c, ones + 1, d + 1, t + 1) := by
            unfold opS
            rw [if_pos (Or.inl ⟨e4, e13⟩), if_neg (show ¬ kkS b L M t = 5 by omega), if_pos e13']
          unfold pX8_readOne_32 pX8_readOne_47
          rw [hs.1, c_fail4 hR h, bd2_some, bz_0]
          simp (disch := omega) only [lit_le, le_lit, eq_lit]
          by_cases e20 : 20 ≤ ones
          · rw [if_pos e20]
            exact OneR.fl FS.refl ⟨by omega, by omega, hps _⟩ (by rw [hop, if_pos (Or.inl (by omega))]) htn
          rw [if_neg e20]
          by_cases ed : d ≤ 8
          · rw [if_pos ed]
            rw [if_neg (show ¬ (ones = 20 ∨ 8 < d) by omega)] at hop
            simp only [lt]
            rw [nI_1, nI_1]
            have hc1 := h.wg (a := s) (k := 0) (v := nI (ones + 1)) (by omega)
            obtain ⟨a1, a2⟩ := c_advance (R := R) hc1 (h.lt (by omega))
            have fr : FS s T (wI (wI T s 0 (nI (ones + 1))) 1 6 (nI (t + 1))) := (FS.refl.ws (by omega) (by omega) h97).w1 (by omega)
            have hs1 : SC (wI (wI T s 0 (nI (ones + 1))) 1 6 (nI (t + 1))) s c (ones + 1) := (hs.w0).w1 h97
            have f2 : (wI (wI T s 0 (nI (ones + 1))) 1 6 (nI (t + 1))).1 1 2 = T.1 1 2 := by simp (disch := omega) only [wI_n]
            have hg1 : CG R (wI (wI T s 0 (nI (ones + 1))) 1 6 (nI (t + 1))) f F N := hg.at (fun a h1 h2 => by rw [wI_1, up2_row (by omega), wI_1, up2_row (by omega)]) (fun _ _ => rfl) (fun _ _ => rfl)
            rw [a1, bd1_some, if_pos trivial, if_pos e13']
            have hg0 := go_op hop
            obtain ⟨u, V, z1, z2, z3⟩ := hO ed _ (20 :: o) c (ones + 1) (t + 1) a2 hs1 hg1 (by simp only [List.length_cons]; omega) (by omega)
            rw [z1, bd2_some]
            rcases z3 with ⟨k, p, j, rfl, y2, y3, y4, y5, y6⟩ | ⟨o2, c2, d2, c', ones', t', j, rfl, y2, y3, y4, y5, y7, y8, y9, y10, y11⟩
            · rw [if_pos rfl]
              exact ⟨0, V, rfl, fr.trans z2, Or.inl ⟨k, p, j + 1, rfl, y2, y3, y4, baT_t hg0 y5, by omega⟩⟩
            · simp only [List.length_cons] at y9
              obtain ⟨W, q1, q2, q3, q4⟩ := c_step (a := 20) (x := 0) (v := 0) (w := 13) (y := 0) (z := 0) hS h97 y7 (by omega) rfl rfl rfl
              rw [if10, q1, bd2_some, if10]
              refine ⟨1, W, rfl, (fr.trans z2).trans q3, Or.inr ⟨o2, c2, d2, _, ones', t', _, rfl, ?_, goT_t hg0 y3, by omega, ?_, q2, ?_, ?_, by omega, y11⟩⟩
              · rw [q4, y2, f2]
              · rw [y5, ntS_20]
                rfl
              · exact y8.of (q3.1 3 (by decide) (by omega)) (q3.1 4 (by decide) (by omega)) (q3.1 5 (by decide) (by omega)) (by rw [q3.2.1]) (by rw [q4]) (by rw [q4]) (by rw [q4]; exact y8.2.1) y8.2.2.1
              · simp only [List.length_cons]; omega
          · rw [if_neg ed]
            exact OneR.fl FS.refl ⟨by omega, by omega, hps _⟩ (by rw [hop, if_pos (Or.inr (by omega))]) htn
      · rw [if_neg e13]
        exact OneR.fl FS.refl ⟨by omega, by omega, hps _⟩ (by unfold opS; rw [if_neg (by omega)]) htn
    · rw [if_neg e4, if_neg (by decide)]
      exact OneR.fl FS.refl ⟨by omega, by omega, hps _⟩ (by unfold opS; rw [if_neg (by omega)]) htn
