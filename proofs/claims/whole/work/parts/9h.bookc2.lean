/-! reading a BOOK: the class, all -/
theorem c_book65p {R : Rf} {T : Mm} {b : Nat → Nat} {L M n t f m p : Nat} {F : Nat → Nat} {N : Nat → List Nat} (x3 : Int32) (hR : RT R) (r2 : R 30 2 = 31) (r3 : R 30 3 = 32) (h : CuC T b L M n t) (hg : CG R T f F N) (hv : VF F) (hN : NW F N) (hm : T.1 30 1 = nI m) (hm40 : m ≤ 40) (e3 : kkS b L M t = 3) (hp : fnP F N (wwS b L t) = some p) : CB b L M n T m (t + 3) (pX0_readLine_65 R 30 1 f T x3 0) (rBL b L M F N m t) := by
  obtain ⟨v0, v1, v2, v3, v4, v5, v6, vs, vo, vj⟩ := id hv
  have hpl := fnP_lt hp
  have hna : naP b L M t (fnP F N (wwS b L t)) = paO p := by
    unfold naP
    rw [if_pos e3, hp]
    rfl
  unfold pX0_readLine_65 rBL rB
  rw [hm, if_neg (show ¬ (kkS b L M t = 4 ∧ 7 ≤ vvS b L t ∧ vvS b L t ≤ 10) from fun z => by omega), hna, paD_o, c_fail4 hR h, bd2_some, bz_0, if00]
  by_cases em : m < 40
  · rw [if_pos em, if_pos (show nI m < 40 from (nI_ltI (b := 40) (by omega) (by omega)).mpr em)]
    refine CB.semi (t := t + 2) hR ?_
    unfold pX0_readOfPerson pX0_readOfPerson_36
    rw [c_takePerson hR h hg hv hN]
    obtain ⟨x, p1, p2, p3, p4, p5⟩ | ⟨k, q, p1, p2⟩ := c_taken3 (R := R) hR h (o := fnP F N (wwS b L t)) (fun i hi => by have := fnP_lt hi; omega)
    · rw [hp] at p2
      cases p2
      rw [p4, bd2_some, hm, ix_nI (by omega) (by decide), nI_clamp (by omega), r3]
      simp only [lt]
      have fr : FB3 T (wI (wI T 1 6 (nI (t + 1))) 32 m (nI p)) := (FB3.refl.w1 (by omega)).wa (by omega)
      have cu := p5.wg (a := 32) (k := m) (v := nI p) (by omega)
      have e30 : (wI (wI T 1 6 (nI (t + 1))) 32 m (nI p)).1 30 1 = T.1 30 1 := by simp (disch := omega) only [wI_n]
      rw [c_keyword hR cu, bd1_some, c_fail1 hR cu, bd2_some, bz_0, e30, hm, ix_nI (by omega) (by decide), nI_clamp (by omega), r2]
      by_cases e4 : kkS b L M (t + 1) = 4
      · have hv24 := (kw_some ((kk_word (Or.inr e4)).2.2 e4)).1
        rw [if_pos e4]
        obtain ⟨c1, c2⟩ := c_advance (R := R) (cu.wg (a := 31) (k := m) (v := nI (vvS b L (t + 1))) (by omega)) (cu.lt (by omega))
        rw [c1, bd1_some]
        simp (disch := omega) only [eq_lit]
        have hok : ∀ w, vvS b L (t + 1) = w + 5 → CB b L M n T m (t + 2) (some (1, wI (wI (wI (wI T 1 6 (nI (t + 1))) 32 m (nI p)) 31 m (nI (vvS b L (t + 1)))) 1 6 (nI (t + 1 + 1)))) (paO (w, p)) := by
          intro w hw
          refine ⟨1, _, rfl, (fr.wa (by omega)).w1 (by omega), ?_, Or.inr ⟨_, _, rfl, rfl, ?_, ?_, ?_, c2⟩⟩
          · simp (disch := omega) only [wI_n]
          · simp (disch := omega) only [wI_n]
          · rw [wI_1, up2_row (by decide), wI_row, wI_1, up2_row (by decide), wI_1, up2_row (by decide), hw]
          · rw [wI_1, up2_row (by decide), wI_1, up2_row (by decide), wI_row, wI_1, up2_row (by decide)]
        by_cases e5 : vvS b L (t + 1) = 5
        · rw [if_pos e5, if_pos ⟨e4, Or.inl e5⟩]
          exact hok (vvS b L (t + 1) - 5) (by omega)
        · rw [if_neg e5]
          by_cases e6 : vvS b L (t + 1) = 6
          · rw [if_pos e6, if_pos ⟨e4, Or.inr e6⟩]
            exact hok (vvS b L (t + 1) - 5) (by omega)
          · rw [if_neg e6, if_neg (fun z => by omega)]
            exact CB.fl fr e30
      · rw [if_neg e4, if_neg (by decide), if_neg (by decide), if_neg (fun z => e4 z.1)]
        exact CB.fl fr e30
    · rw [hna] at p1
      cases p1
  · rw [if_neg em, if_neg (show ¬ nI m < 40 from fun z => em ((nI_ltI (b := 40) (by omega) (by omega)).mp z)), paD_b]
    exact CB.fl FB3.refl rfl
theorem c_bookLine {R : Rf} {T : Mm} {b : Nat → Nat} {L M n t f m : Nat} {F : Nat → Nat} {N : Nat → List Nat} (hR : RT R) (r2 : R 30 2 = 31) (r3 : R 30 3 = 32) (h : CuC T b L M n t) (hg : CG R T f F N) (hv : VF F) (hN : NW F N) (h79 : 79 ≤ f) (hm : T.1 30 1 = nI m) (hm40 : m ≤ 40) : CB b L M n T m (t + 3) (pX0_readLine R T 30 1 f) (rBL b L M F N m t) := by
  obtain ⟨v0, v1, v2, v3, v4, v5, v6, vs, vo, vj⟩ := id hv
  unfold pX0_readLine
  rw [c_keyword hR h, bd1_some]
  by_cases e : kkS b L M t = 4 ∧ 7 ≤ vvS b L t ∧ vvS b L t ≤ 10
  · rw [if_pos e.1]
    simp (disch := omega) only [lt_lit, lit_lt]
    rw [if_neg (by omega), if_neg (by omega)]
    unfold pX0_readLine_22 pX0_readLine_42
    rw [if10, if10]
    exact c_book65w hR r2 r3 h hg hv hN h79 hm hm40 e
  · have key : ∀ u, CB b L M n T m (t + 3) (pX0_readLine_21 R 30 1 f T u) (rBL b L M F N m t) := by
      intro u
      unfold pX0_readLine_21 pX0_readLine_22 pX0_readLine_42
      rw [if00, c_atName hR h, bd1_some, c_fail1 hR h, bd2_some, bz_0, ifI, if00, c_fail3 hR h, bd2_some, bz_0]
      by_cases e3 : kkS b L M t = 3
      · rw [if_pos e3, c_name hR h (Or.inl e3), bd1_some, c_personNamed hg hv hN (kk_word (Or.inl e3)).1, bd1_some]
        cases e4 : fnP F N (wwS b L t) with
        | none =>
          rw [if_pos (show oI none = -1 from rfl)]
          unfold rBL rB naP
          rw [if_neg e, if_pos e3, e4]
          exact CB.fl FB3.refl rfl
        | some p =>
          have := fnP_lt e4
          rw [if_neg (show ¬ oI (some p) = -1 from ne_m1 (by omega))]
          exact c_book65p u hR r2 r3 h hg hv hN hm hm40 e3 e4
      · rw [if_neg e3]
        unfold rBL rB naP
        rw [if_neg e, if_neg e3]
        exact CB.fl FB3.refl rfl
    by_cases e4 : kkS b L M t = 4
    · have hv24 := (kw_some ((kk_word (Or.inr e4)).2.2 e4)).1
      rw [if_pos e4]
      by_cases e7 : nI (vvS b L t) < 7
      · rw [if_pos e7]; exact key _
      · rw [if_neg e7]
        by_cases e10 : 10 < nI (vvS b L t)
        · rw [if_pos e10]; exact key _
        · exfalso
          have h1 : ¬ vvS b L t < 7 := fun z => e7 ((nI_ltI (b := 7) (by omega) (by omega)).mpr z)
          have h2 : ¬ 10 < vvS b L t := fun z => e10 ((nI_ltI (a := 10) (by omega) (by omega)).mpr z)
          omega
    · rw [if_neg e4, if_pos (by decide)]
      exact key _
theorem c_bLoop {R : Rf} {b : Nat → Nat} {L M n f : Nat} {F : Nat → Nat} {N : Nat → List Nat} (hR : RT R) (r2 : R 30 2 = 31) (r3 : R 30 3 = 32) (hv : VF F) (hN : NW F N) (h79 : 79 ≤ f) : ∀ (j fuel : Nat) (T : Mm) (W X : Nat → Nat) (m t : Nat), CG R T f F N → CuC T b L M n t → BKc T F W X m → m + j = 41 → j < fuel → ∃ V, zl1 (pX0_read_12 R 30 1 f (pX0_read_37 R 30 1 f) (pX0_read_51 R 30 1 f)) fuel T = some V ∧ FB3 T V ∧ ((∃ k p, rBW b L M F N j (W, X, m) t = paB k p ∧ gB L M k p ∧ V.1 1 2 = nI k ∧ V.1 1 3 = nI p) ∨ ∃ W' X' m', rBW b L M F N j (W, X, m) t = paO (W', X', m') ∧ V.1 1 2 = T.1 1 2 ∧ BKc V F W' X' m') := by
  intro j
  induction j with
  | zero => intro fuel T W X m t _ _ hb hm _; have := hb.1; omega
  | succ j ih =>
    intro fuel T W X m t hg hc hb hm hf
    cases fuel with
    | zero => omega
    | succ fuel =>
      obtain ⟨hb1, hb2, hb3⟩ := id hb
      have hps := psS_le (b := b) (L := L) (M := M) (t := t)
      rw [zl1_s, rBW_succ]
      unfold pX0_read_12
      rw [hb2, if_neg (show ¬ (40 : Int32) < nI m from fun z => by have := (nI_ltI (a := 40) (by omega) (by omega)).mp z; omega), c_atEnd hR hc, bd1_some, ifI]
      by_cases e : kkS b L M t = 0
      · rw [if_pos e, if_pos e]
        unfold pX0_read_51 pX10_finish pX10_finish_14
        rw [c_atEnd hR hc, bd1_some, ifI, if_pos e, c_fail1 hR hc, bd2_some, if_pos rfl, hc.1.2.2.1]
        by_cases e2 : M < L
        · rw [if_pos e2, if10, if_pos e2, bd2_some]
          exact ⟨_, rfl, FB3.refl.fl, Or.inl ⟨_, _, rfl, ⟨by omega, by omega, hps⟩, flc_2, flc_3⟩⟩
        · rw [if_neg e2, if00, if_neg e2, bd2_some]
          exact ⟨_, rfl, FB3.refl, Or.inr ⟨_, _, _, rfl, rfl, hb⟩⟩
      · rw [if_neg e, if_neg e]
        obtain ⟨u, V, h1, h2, h0, h3⟩ := c_bookLine hR r2 r3 hc hg hv hN h79 hb2 hb1
        rw [h1, bd2_some]
        rcases h3 with ⟨k, p, z1, z2, z3, z4⟩ | ⟨w, x, z1, z2, z3, z4, z5, z6⟩
        · rw [z1, z2, paD_b, if_pos rfl]
          unfold pX0_read_37
          exact ⟨_, rfl, h2, Or.inl ⟨_, _, rfl, rBL_bad z1, z3, z4⟩⟩
        · obtain ⟨hVL, hm40⟩ := rBL_ok z1
          rw [z1, z2, paD_o, if10]
          simp only [lt]
          rw [h0, hb2, nI_1]
          have hfr : FB3 T (wI V 30 1 (nI (m + 1))) := h2.w0
          obtain ⟨W2, w1, w2, w3⟩ := ih fuel (wI V 30 1 (nI (m + 1))) (uT W m w) (uT X m x) (m + 1) (t + 3) (hg.fb hfr h79) (z6.wg (by omega)) ⟨by omega, wI_s, fun k hk => by
            rw [wI_1, up2_row (by decide), up2_row (by decide), z4, z5]
            by_cases ek : k = m
            · subst ek; rw [uT_s, uT_s, uT_s, uT_s]; exact ⟨rfl, rfl, hVL⟩
            · rw [uT_n ek, uT_n ek, uT_n ek, uT_n ek]; exact hb3 k (by omega)⟩ (by omega) (by omega)
          rw [show (wI V 30 1 (nI (m + 1))).1 1 2 = T.1 1 2 from (wI_n (Or.inl (by decide))).trans z3] at w3
          exact ⟨W2, w1, hfr.trans w2, w3⟩
/-- what reading a BOOK may touch of the class -/
def FB4 (T V : Mm) : Prop := (∀ a, a ≠ 1 → a ≠ 3 → a ≠ 4 → a ≠ 5 → a ≠ 30 → a ≠ 31 → a ≠ 32 → V.1 a = T.1 a) ∧ (∀ a, a ≠ 6 → V.2 a = T.2 a) ∧ V.1 1 1 = T.1 1 1
theorem c_bookRead {R : Rf} {T : Mm} {b : Nat → Nat} {L f : Nat} {F : Nat → Nat} {N : Nat → List Nat} (hR : RT R) (r2 : R 30 2 = 31) (r3 : R 30 3 = 32) (hX : XC T b L) (hg : CG R T f F N) (hv : VF F) (hN : NW F N) (h79 : 79 ≤ f) : ∃ V, pX0_read R T 30 1 f = some V ∧ FB4 T V ∧ ((∃ k p, rBW b L 400 F N 41 (fun _ => 0, fun _ => 0, 0) 0 = paB k p ∧ gB L 400 k p ∧ V.1 1 2 = nI k ∧ V.1 1 3 = nI p) ∨ ∃ W' X' m', rBW b L 400 F N 41 (fun _ => 0, fun _ => 0, 0) 0 = paO (W', X', m') ∧ V.1 1 2 = 0 ∧ BKc V F W' X' m') := by
  unfold pX0_read
  simp only [lt]
  have u1 : ∀ a, a ≠ 30 → (wI T 30 1 0).1 a = T.1 a := fun a ha => by rw [wI_1, up2_row ha]
  have hXU : XC (wI T 30 1 0) b L := ⟨hX.1, by rw [u1 1 (by omega)]; exact hX.2.1, fun k hk => by rw [u1 2 (by omega)]; exact hX.2.2.1 k hk, hX.2.2.2⟩
  obtain ⟨V, n, b1, b2, b3, b4, b5, b6⟩ := c_begin (M := 400) hR hXU (by omega)
  rw [show (400 : Int32) = nI 400 from rfl, b1, bd1_some]
  have hgV : CG R V f F N := hg.at (fun a h1 h2 => by rw [b2.1 a (by omega) (by omega) (by omega) (by omega), u1 a (by omega)]) (fun p _ => by rw [b2.2.1 _ (by omega)]; rfl) (fun p _ => by rw [b2.2.1 _ (by omega)]; rfl)
  have hbV : BKc V F (fun _ => 0) (fun _ => 0) 0 := ⟨by omega, by rw [b2.1 30 (by decide) (by decide) (by decide) (by decide), wI_s]; rfl, fun k hk => absurd hk (Nat.not_lt_zero k)⟩
  obtain ⟨W, w1, w2, w3⟩ := c_bLoop (b := b) (L := L) (M := 400) (n := n) hR r2 r3 hv hN h79 41 FU V (fun _ => 0) (fun _ => 0) 0 0 hgV ⟨b6, b5, by omega, hX.1, by omega⟩ hbV rfl (by decide)
  rw [w1]
  rw [b3] at w3
  refine ⟨W, rfl, ⟨fun a h1 h3 h4 h5 h30 h31 h32 => ?_, fun a h1 => ?_, ?_⟩, w3⟩
  · rw [w2.1 a h1 h30 h31 h32, b2.1 a h1 h3 h4 h5, u1 a h30]
  · rw [w2.2.1, b2.2.1 a h1]; rfl
  · rw [w2.2.2.1 1 (by decide) (by decide) (by decide), b2.2.2, u1 1 (by omega)]
