/-! a SENTENCE: the class's ONES -/
theorem stS_w {b : Nat → Nat} {L M : Nat} {F : Nat → Nat} {N : Nat → List Nat} {o : List Nat} {c : Cod} {ones d t : Nat} : stS b L M F N (false, o, c, ones, d, t) = paD (opS b L M F N o c ones d t) fun s' => paO (Sum.inl s') := if_neg Bool.false_ne_true
theorem stS_b {b : Nat → Nat} {L M : Nat} {F : Nat → Nat} {N : Nat → List Nat} {o : List Nat} {c : Cod} {ones d t : Nat} : stS b L M F N (true, o, c, ones, d, t) = beS b L M o c ones d t := if_pos rfl
theorem go_op {b : Nat → Nat} {L M : Nat} {F : Nat → Nat} {N : Nat → List Nat} {o : List Nat} {c : Cod} {ones d t : Nat} {s' : SSt} (h : opS b L M F N o c ones d t = paO s') : goT b L M F N (false, o, c, ones, d, t) s' 1 := goT_1 (by rw [stS_w, h, paD_o])
theorem ba_op {b : Nat → Nat} {L M : Nat} {F : Nat → Nat} {N : Nat → List Nat} {o : List Nat} {c : Cod} {ones d t k p : Nat} (h : opS b L M F N o c ones d t = paB k p) : baT b L M F N (false, o, c, ones, d, t) k p 1 := baT_1 (by rw [stS_w, h, paD_b])
def OneR (R : Rf) (b : Nat → Nat) (L M n s f : Nat) (F : Nat → Nat) (N : Nat → List Nat) (d : Nat) (T : Mm) (o : List Nat) (c : Cod) (ones t : Nat) (r : Option (Int32 × Mm)) : Prop := ∃ u V, r = some (u, V) ∧ FS s T V ∧ ((∃ k p j, u = 0 ∧ V.1 1 2 = nI k ∧ V.1 1 3 = nI p ∧ gB L M k p ∧ baT b L M F N (false, o, c, ones, d, t) k p j ∧ t + j ≤ n + 1) ∨ ∃ o2 c2 d2 c' ones' t' j, u = 1 ∧ V.1 1 2 = T.1 1 2 ∧ goT b L M F N (false, o, c, ones, d, t) (true, o2, c2, ones', d2, t') j ∧ t + j ≤ t' ∧ ntS o2 c2 d2 = ntS o c' d ∧ SC V s c' ones' ∧ CuC V b L M n t' ∧ c'.length + o.length + 1 ≤ 2 * ones' ∧ ones < ones' ∧ ones' ≤ 20)
def OneC (R : Rf) (b : Nat → Nat) (L M n s f : Nat) (F : Nat → Nat) (N : Nat → List Nat) (FO : RecF) (d : Nat) : Prop := ∀ (T : Mm) (o : List Nat) (c : Cod) (ones t : Nat), CuC T b L M n t → SC T s c ones → CG R T f F N → c.length + o.length ≤ 2 * ones → ones ≤ 20 → OneR R b L M n s f F N d T o c ones t (FO R T s 1 f (nI d))
theorem OneR.fl {R : Rf} {b : Nat → Nat} {L M n s f : Nat} {F : Nat → Nat} {N : Nat → List Nat} {d : Nat} {T U : Mm} {o : List Nat} {c : Cod} {ones t k p : Nat} (h : FS s T U) (hg : gB L M k p) (hb : opS b L M F N o c ones d t = paB k p) (ht : t ≤ n) : OneR R b L M n s f F N d T o c ones t (some (0, flc U k p)) := ⟨0, _, rfl, h.fl, Or.inl ⟨k, p, 1, rfl, flc_2, flc_3, hg, ba_op hb, by omega⟩⟩
theorem SC.w0 {s : Nat} {T : Mm} {c : Cod} {ones : Nat} {x : Nat} (h : SC T s c ones) : SC (wI T s 0 (nI x)) s c x := ⟨wI_s, (wI_n (Or.inr (by decide))).trans h.2.1, h.2.2.of (fun a j h1 _ _ => wI_n (Or.inl (by omega)))⟩
theorem c_leafs {R : Rf} {b : Nat → Nat} {L M n s f : Nat} {F : Nat → Nat} {N : Nat → List Nat} {FO FC : RecF} {d : Nat} {T : Mm} {o : List Nat} {c : Cod} {ones t : Nat} (hR : RT R) (hS : RS R s) (h97 : 97 ≤ s) (hv : VF F) (hN : NW F N) (h79 : 79 ≤ f) (hfs : f + 8 < s) (hd : d ≤ 9) (h : CuC T b L M n t) (hs : SC T s c ones) (hg : CG R T f F N) (hlen : c.length + o.length ≤ 2 * ones) (h20 : ones ≤ 20) (e : kkS b L M t = 4 ∧ 14 ≤ vvS b L t) : OneR R b L M n s f F N d T o c ones t (pX8_readOne_32 FO FC R s 1 f (nI d) T (nI (vvS b L t)) 0) := by
  obtain ⟨v0, v1, v2, v3, v4, v5, v6, vs, vo, vj⟩ := id hv
  have hps := fun u => psS_le (b := b) (L := L) (M := M) (t := u)
  have hv24 := (kw_some ((kk_word (Or.inr e.1)).2.2 e.1)).1
  have htn := h.2.2.1
  have hlt := h.lt (by omega)
  unfold pX8_readOne_32 pX8_readOne_47
  rw [hs.1, c_fail4 hR h, bd2_some, bz_0]
  simp (disch := omega) only [lit_le, le_lit, eq_lit, lt_lit]
  have hop : opS b L M F N o c ones d t = if ones = 20 ∨ 8 < d then paB 4 (psS b L M t) else if vvS b L t < 19 then paO (true, o, (vvS b L t - 14, 0, 0) :: c, ones + 1, d, t + 1) else if vvS b L t = 19 then paD (naP b L M (t + 1) (fnI F N (wwS b L (t + 1)))) fun i => paO (true, o, (5, 0, i) :: c, ones + 1, d, t + 2) else if kkS b L M (t + 1) = 5 ∧ 60 ≤ vvS b L (t + 1) ∧ vvS b L (t + 1) ≤ 62 then paD (nuP b L M (t + 2) 0 999) fun v => paO (true, o, (vvS b L t - 14, vvS b L (t + 1), v) :: c, ones + 1, d, t + 3) else paB 1 (psS b L M (t + 1)) := by
    unfold opS
    rw [if_pos (Or.inl ⟨e.1, by omega⟩), if_neg (show ¬ kkS b L M t = 5 by omega), if_neg (show ¬ vvS b L t = 13 by omega)]
  by_cases e20 : 20 ≤ ones
  · rw [if_pos e20]
    exact OneR.fl FS.refl ⟨by omega, by omega, hps _⟩ (by rw [hop, if_pos (Or.inl (by omega))]) htn
  rw [if_neg e20]
  by_cases ed : d ≤ 8
  · rw [if_pos ed]
    rw [if_neg (show ¬ (ones = 20 ∨ 8 < d) by omega)] at hop
    simp only [lt]
    rw [nI_1]
    have hc1 := h.wg (a := s) (k := 0) (v := nI (ones + 1)) (by omega)
    obtain ⟨a1, a2⟩ := c_advance (R := R) hc1 hlt
    have fr : FS s T (wI (wI T s 0 (nI (ones + 1))) 1 6 (nI (t + 1))) := (FS.refl.ws (by omega) (by omega) h97).w1 (by omega)
    have hs1 : SC (wI (wI T s 0 (nI (ones + 1))) 1 6 (nI (t + 1))) s c (ones + 1) := (hs.w0).w1 h97
    have f2 : (wI (wI T s 0 (nI (ones + 1))) 1 6 (nI (t + 1))).1 1 2 = T.1 1 2 := by simp (disch := omega) only [wI_n]
    rw [a1, bd1_some]
    have hg1 : CG R (wI (wI T s 0 (nI (ones + 1))) 1 6 (nI (t + 1))) f F N := hg.at (fun a h1 h2 => by rw [wI_1, up2_row (by omega), wI_1, up2_row (by omega)]) (fun _ _ => rfl) (fun _ _ => rfl)
    have hwc : ∀ a, a < 10 → wcS a = a + 14 := fun a ha => if_pos ha
    rw [if_pos trivial, if_neg (show ¬ vvS b L t = 13 by omega)]
    by_cases e19 : vvS b L t = 19
    · rw [if_pos e19, c_takeItem hR a2 hg1 hv hN]
      rw [if_neg (show ¬ vvS b L t < 19 by omega), if_pos e19] at hop
      obtain ⟨x, p1, p2, p3, p4, p5⟩ | ⟨k, p, p1, p2⟩ := c_taken3 (R := R) hR a2 (o := fnI F N (wwS b L (t + 1))) (fun i hi => by have := fnI_lt hi; omega)
      · have hx := fnI_lt p2
        rw [p4, bd2_some, if_neg (ne_m1 (by omega))]
        obtain ⟨V, q1, q2, q3, q4⟩ := c_step (a := 5) (x := 0) (v := x) (w := 19) (y := 0) (z := nI x) hS h97 (hs1.w1 (k := 6) (v := nI (t + 1 + 1)) h97) (by omega) rfl rfl rfl
        rw [q1, bd2_some, if10]
        rw [p1, paD_o] at hop
        refine ⟨1, V, rfl, (fr.w1 (by omega)).trans q3, Or.inr ⟨o, _, d, _, ones + 1, t + 2, 1, rfl, ?_, go_op hop, by omega, rfl, q2, ?_, ?_, by omega, by omega⟩⟩
        · rw [q4, wI_n (Or.inr (by decide)), f2]
        · exact p5.of (q3.1 3 (by decide) (by omega)) (q3.1 4 (by decide) (by omega)) (q3.1 5 (by decide) (by omega)) (by rw [q3.2.1]) (by rw [q4]) (by rw [q4]) (by rw [q4]; exact p5.2.1) p5.2.2.1
        · simp only [List.length_cons]; omega
      · rw [p2, bd2_some, if_pos rfl]
        rw [p1, paD_b] at hop
        exact OneR.fl fr (naP_bad p1) hop htn
    · rw [if_neg e19]
      by_cases e18 : vvS b L t < 20
      · rw [if_pos e18]
        rw [if_pos (show vvS b L t < 19 by omega)] at hop
        obtain ⟨V, q1, q2, q3, q4⟩ := c_step (a := vvS b L t - 14) (x := 0) (v := 0) (w := nI (vvS b L t)) (y := 0) (z := 0) hS h97 hs1 (by omega) (by rw [hwc _ (by omega), show vvS b L t - 14 + 14 = vvS b L t by omega]) rfl rfl
        rw [q1, bd2_some]
        refine ⟨1, V, rfl, fr.trans q3, Or.inr ⟨o, _, d, _, ones + 1, t + 1, 1, rfl, ?_, go_op hop, by omega, rfl, q2, ?_, ?_, by omega, by omega⟩⟩
        · rw [q4, f2]
        · exact a2.of (q3.1 3 (by decide) (by omega)) (q3.1 4 (by decide) (by omega)) (q3.1 5 (by decide) (by omega)) (by rw [q3.2.1]) (by rw [q4]) (by rw [q4]) (by rw [q4]; exact a2.2.1) a2.2.2.1
        · simp only [List.length_cons]; omega
      · rw [if_neg e18]
        rw [if_neg (show ¬ vvS b L t < 19 by omega), if_neg e19] at hop
        unfold pX8_readComparison
        rw [c_takeSign hR a2, bd2_some']
        by_cases e6 : kkS b L M (t + 1) = 5 ∧ 60 ≤ vvS b L (t + 1) ∧ vvS b L (t + 1) ≤ 62
        · rw [if_pos e6] at hop ⊢
          dsimp only
          rw [if_neg (ne_m1 (by omega))]
          obtain ⟨_, c2⟩ := c_advance (R := R) a2 (a2.lt (by omega))
          obtain ⟨v, n1, n2, n3, n4, n5⟩ | ⟨k, p, n1, n2⟩ := c_numL (x := 0) (y := 999) (lo := 0) (hi := 999) hR c2 rfl rfl (by omega) (by omega)
          · rw [n2, bd2_some, if_neg (ne_m1 (by omega))]
            obtain ⟨V, q1, q2, q3, q4⟩ := c_step (a := vvS b L t - 14) (x := vvS b L (t + 1)) (v := v) (w := nI (vvS b L t)) (y := nI (vvS b L (t + 1))) (z := nI v) hS h97 ((hs1.w1 (k := 6) (v := nI (t + 1 + 1)) h97).w1 (k := 6) (v := nI (t + 1 + 1 + 1)) h97) (by omega) (by rw [hwc _ (by omega), show vvS b L t - 14 + 14 = vvS b L t by omega]) rfl rfl
            rw [q1, bd2_some, if10, bd2_some]
            rw [show t + 2 = t + 1 + 1 from rfl, n1, paD_o] at hop
            refine ⟨1, V, rfl, ((fr.w1 (by omega)).w1 (by omega)).trans q3, Or.inr ⟨o, _, d, _, ones + 1, t + 3, 1, rfl, ?_, go_op hop, by omega, rfl, q2, ?_, ?_, by omega, by omega⟩⟩
            · rw [q4, wI_n (Or.inr (by decide)), wI_n (Or.inr (by decide)), f2]
            · exact n3.of (q3.1 3 (by decide) (by omega)) (q3.1 4 (by decide) (by omega)) (q3.1 5 (by decide) (by omega)) (by rw [q3.2.1]) (by rw [q4]) (by rw [q4]) (by rw [q4]; exact n3.2.1) n3.2.2.1
            · simp only [List.length_cons]; omega
          · rw [n2, bd2_some, if_pos rfl, bd2_some, bz_0]
            rw [show t + 2 = t + 1 + 1 from rfl, n1, paD_b] at hop
            exact OneR.fl (fr.w1 (by omega)) (nuP_bad n1) hop htn
        · rw [if_neg e6] at hop ⊢
          dsimp only
          rw [if_pos rfl, bd2_some, bz_0]
          exact OneR.fl fr ⟨by omega, by omega, hps _⟩ hop htn
  · rw [if_neg ed]
    exact OneR.fl FS.refl ⟨by omega, by omega, hps _⟩ (by rw [hop, if_pos (Or.inr (by omega))]) htn
