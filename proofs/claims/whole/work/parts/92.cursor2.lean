/-! the reference's cursor -/
def CuM (T : Mm) (b : Nat → Nat) (L M t : Nat) : Prop := XM T b L M ∧ scS b L t ≤ L ∧ MTp T b L M (skS b L (scS b L t)) ∧ ∀ k, k < 24 → T.2 111 k = w8 (kwk k)
theorem CuM.tok {T : Mm} {b : Nat → Nat} {L M t : Nat} (h : CuM T b L M t) : T.1 105 12 = nI (psS b L M t) ∧ (kkS b L M t = 0 → T.1 105 11 = (if M < L then 4 else 0)) ∧ (kkS b L M t = 1 → T.1 105 11 = 4) ∧ (kkS b L M t = 2 → T.1 105 11 = 2 ∧ T.1 105 14 = nI (vvS b L t)) ∧ (kkS b L M t = 3 ∨ kkS b L M t = 4 → T.1 105 11 = 1 ∧ T.2 105 17 = w8 (wwS b L t)) ∧ (kkS b L M t = 5 → T.1 105 11 = 3 ∧ T.1 105 14 = nI (vvS b L t)) ∧ (kkS b L M t ≠ 0 → T.1 105 4 = nI (scS b L (t + 1)) ∧ scS b L (t + 1) ≤ L) := by
  obtain ⟨h1, h2, ⟨h3, h4⟩, _⟩ := h
  unfold kkS psS vvS wwS
  by_cases e : skS b L (scS b L t) < min L M
  · rw [if_pos e, if_pos e]
    obtain ⟨g1, g2, g3, g4, g5, g6⟩ := h4 e
    have hk := tkK_15 (b := b) (L := L) (s := skS b L (scS b L t))
    exact ⟨g1, fun z => by omega, g3, g4, g5, g6, fun _ => ⟨g2, (en_ok (by omega)).2⟩⟩
  · rw [if_neg e, if_neg e]
    obtain ⟨g1, g2⟩ := h3 (by omega)
    exact ⟨g1, fun _ => g2, fun z => by omega, fun z => by omega, fun z => by omega, fun z => by omega, fun z => absurd rfl z⟩
/-- the token's number: 1 a WORD, 2 a NUMBER, 3 a sign, else not one that is taken -/
theorem CuM.t1 {T : Mm} {b : Nat → Nat} {L M t : Nat} (h : CuM T b L M t) : (T.1 105 11 = 1 ↔ kkS b L M t = 3 ∨ kkS b L M t = 4) ∧ (T.1 105 11 = 2 ↔ kkS b L M t = 2) ∧ (T.1 105 11 = 3 ↔ kkS b L M t = 5) ∧ (T.1 105 11 = 0 ↔ kkS b L M t = 0 ∧ ¬ M < L) := by
  obtain ⟨_, g0, g1, g2, g3, g5, _⟩ := h.tok
  have hk := kkS_le (b := b) (L := L) (M := M) (t := t)
  have hc : kkS b L M t = 0 ∨ kkS b L M t = 1 ∨ kkS b L M t = 2 ∨ kkS b L M t = 3 ∨ kkS b L M t = 4 ∨ kkS b L M t = 5 := by omega
  rcases hc with z | z | z | z | z | z
  · rw [g0 z, z]
    by_cases y : M < L
    · rw [if_pos y]; simp [y]
    · rw [if_neg y]; simp [y]
  · rw [g1 z, z]; simp
  · rw [(g2 z).1, z]; simp
  · rw [(g3 (Or.inl z)).1, z]; simp
  · rw [(g3 (Or.inr z)).1, z]; simp
  · rw [(g5 z).1, z]; simp
theorem m_isWordK {R : Rf} {T : Mm} {b : Nat → Nat} {L M t k : Nat} (h : CuM T b L M t) (hk : k < 24) {j : Int64} (hj : j = w8 (kwk k)) : pX12_isWord R T 105 j = some (if kkS b L M t = 4 ∧ vvS b L t = k then 1 else 0) := by
  obtain ⟨t1, _⟩ := h.t1
  unfold pX12_isWord
  by_cases e : kkS b L M t = 3 ∨ kkS b L M t = 4
  · obtain ⟨w1, w2, w3⟩ := kk_word e
    obtain ⟨g1, g2⟩ := h.tok.2.2.2.2.1 e
    rw [if_pos g1, g2, hj]
    by_cases e2 : wwS b L t = kwk k
    · rw [if_pos (cmp_eq.mpr (by rw [e2]))]
      have hkw := kw_is hk
      rw [← e2] at hkw
      have h4 : kkS b L M t = 4 := by
        rcases e with z | z
        · rw [w2 z] at hkw; cases hkw
        · exact z
      have hv : vvS b L t = k := by
        have := w3 h4
        rw [hkw] at this
        cases this
        rfl
      rw [if_pos ⟨h4, hv⟩]
    · rw [if_neg (fun z => e2 ((w8_inj w1 (kwk_w hk)).mp (cmp_eq.mp z))), if_neg]
      rintro ⟨z1, z2⟩
      have := kw_some (w3 z1)
      rw [z2] at this
      exact e2 this.2.symm
  · rw [if_neg (fun z => e (t1.mp z)), if_neg (fun z => e (Or.inr z.1))]
theorem m_isSignC {R : Rf} {T : Mm} {b : Nat → Nat} {L M t c : Nat} (h : CuM T b L M t) (hc : c < 256) : pX12_isSign R T 105 (nI c) = some (if kkS b L M t = 5 ∧ vvS b L t = c then 1 else 0) := by
  obtain ⟨_, _, t3, _⟩ := h.t1
  unfold pX12_isSign
  by_cases e : kkS b L M t = 5
  · obtain ⟨g1, g2⟩ := h.tok.2.2.2.2.2.1 e
    have := mk_lt (kk_mark e)
    rw [if_pos g1, g2]
    simp (disch := omega) only [nI_eq]
    by_cases e2 : vvS b L t = c
    · rw [if_pos e2, if_pos ⟨e, e2⟩]
    · rw [if_neg e2, if_neg (fun z => e2 z.2)]
  · rw [if_neg (fun z => e (t3.mp z)), if_neg (fun z => e z.1)]
theorem m_isNameK {R : Rf} {T : Mm} {b : Nat → Nat} {L M t : Nat} (r10 : R 105 10 = 111) (h : CuM T b L M t) : pX12_isName R T 105 = some (if kkS b L M t = 3 then 1 else 0) := by
  obtain ⟨t1, _⟩ := h.t1
  have h24 := h.2.2.2
  unfold pX12_isName
  have h0 : zl2 (pX12_isName_16 R T 105 (pX12_isName_52 R T 105)) FU 0 0 = some 0 := by
    refine zl2_forI (f := pX12_isName_16 R T 105 (pX12_isName_52 R T 105)) (fun _ : Unit => (0 : Int32)) (fun _ u => u) (fun _ => some 0) 24 (fun _ _ => True) (by omega) (fun _ _ _ _ => trivial) ?_ ?_ () trivial
    · intro r k _ hk _
      unfold pX12_isName_16
      rw [if_neg (show ¬ (24 : Int32) ≤ nI k from nI_ge (b := 24) hk (by decide)), if00]
      simp only [lt, nI_1]
    · intro r _ _
      unfold pX12_isName_16 pX12_isName_52
      rw [if_pos (by decide)]
      rfl
  by_cases e : kkS b L M t = 3 ∨ kkS b L M t = 4
  · obtain ⟨w1, w2, w3⟩ := kk_word e
    obtain ⟨g1, g2⟩ := h.tok.2.2.2.2.1 e
    rw [if_pos g1]
    have key := zl2_forI (f := pX12_isName_16 R T 105 (pX12_isName_52 R T 105)) (fun f : Bool => if f = true then (1 : Int32) else 0) (fun k f => f && !decide (kwk k = wwS b L t)) (fun f => some (if f = true then 1 else 0)) 24 (fun _ _ => True) (by omega) (fun _ _ _ _ => trivial) ?_ ?_ true trivial
    · rw [if_pos rfl] at key
      rw [key]
      congr 1
      have hfo : ∀ k i f, fo (fun k f => f && !decide (kwk k = wwS b L t)) i k f = (f && (fst (fun k => decide (kwk k = wwS b L t)) i k).isNone) := by
        intro k
        induction k with
        | zero => intro i f; simp [fo, fst]
        | succ k ih =>
          intro i f
          show fo _ (i + 1) k _ = _
          rw [ih, fst_succ]
          by_cases z : kwk i = wwS b L t
          · simp [z]
          · simp [z]
      rw [hfo]
      change (if (true && (kwS (wwS b L t)).isNone) = true then (1 : Int32) else 0) = _
      rcases e with z | z
      · rw [w2 z, if_pos z]; rfl
      · rw [w3 z, if_neg (show ¬ kkS b L M t = 3 by omega)]; rfl
    · intro r k f hk _
      unfold pX12_isName_16
      rw [if_neg (show ¬ (24 : Int32) ≤ nI k from nI_ge (b := 24) hk (by decide)), ix_nI hk (by decide), nI_clamp (by omega), g2, r10, h24 k hk]
      simp only [lt, nI_1]
      cases f with
      | false => simp
      | true =>
        rw [if_pos rfl, if10]
        by_cases z : kwk k = wwS b L t
        · rw [if_pos (cmp_eq.mpr (by rw [z]))]
          simp [z]
        · rw [if_neg (fun y => z ((w8_inj w1 (kwk_w hk)).mp (cmp_eq.mp y)).symm)]
          simp [z]
    · intro r f _
      unfold pX12_isName_16 pX12_isName_52
      rw [if_pos (by decide), bz_ite]
  · rw [if_neg (fun z => e (t1.mp z)), h0, if_neg (fun z => e (Or.inl z))]
theorem m_bad {R : Rf} {T : Mm} {b : Nat → Nat} {L M t : Nat} (h : CuM T b L M t) (k : Nat) : pX12_bad R T 105 (nI k) = some (0, flm T k (psS b L M t)) := by
  unfold pX12_bad flm
  simp only [lt]
  rw [wI_n (Or.inr (by decide)), h.tok.1]
theorem m_nextS {R : Rf} {T : Mm} {b : Nat → Nat} {L M t : Nat} (r1 : R 105 1 = 106) (h : CuM T b L M t) (hk : kkS b L M t ≠ 0) : ∃ V, pX12_next R T 105 = some V ∧ FX T V ∧ CuM V b L M (t + 1) := by
  obtain ⟨g1, g2⟩ := h.tok.2.2.2.2.2.2 hk
  obtain ⟨V, v1, v2, v3⟩ := m_next r1 h.1 g1 g2
  exact ⟨V, v1, v2, h.1.fx v2, g2, v3, fun k hk => by rw [(v2.1 111 (by decide)).2]; exact h.2.2.2 k hk⟩
/-- other cells don't matter -/
theorem CuM.of {T V : Mm} {b : Nat → Nat} {L M t : Nat} (h : CuM T b L M t) (e1 : V.1 106 = T.1 106) (e2 : V.2 111 = T.2 111) (e3 : ∀ k, k = 3 ∨ k = 4 ∨ k = 5 ∨ k = 11 ∨ k = 12 ∨ k = 14 → V.1 105 k = T.1 105 k) (e4 : V.2 105 17 = T.2 105 17) : CuM V b L M t := by
  obtain ⟨⟨h1, h2, h3, h4, h5⟩, h6, h7, h8⟩ := h
  refine ⟨⟨h1, h2, by rw [e3 3 (by decide), h3], by rw [e3 5 (by decide), h4], fun k hk => by rw [e1]; exact h5 k hk⟩, h6, ?_, fun k hk => by rw [e2]; exact h8 k hk⟩
  unfold MTp at *
  rw [e3 12 (by decide), e3 11 (by decide), e3 4 (by decide), e3 14 (by decide), e4]
  exact h7
theorem CuC.lt {T : Mm} {b : Nat → Nat} {L M n t : Nat} (h : CuC T b L M n t) (hk : kkS b L M t ≠ 0) : t < n := by
  rcases Nat.lt_or_ge t n with z | z
  · exact z
  · exact absurd (h.kk0.2 (by have := h.2.2.1; omega)) hk
/-! numbers and marks, taken by both -/
theorem c_takeNumber {R : Rf} {T : Mm} {b : Nat → Nat} {L M n t lo hi : Nat} (hR : RT R) (h : CuC T b L M n t) (hlo : lo ≤ 999) (hhi : hi ≤ 999) : pX10_takeNumber R T 1 (nI lo) (nI hi) = some (if kkS b L M t = 2 then (if lo ≤ vvS b L t ∧ vvS b L t ≤ hi then (nI (vvS b L t), wI T 1 6 (nI (t + 1))) else (-1, flc T 2 (psS b L M t))) else (-1, flc T 1 (psS b L M t))) := by
  obtain ⟨q0, q7, q8, q9, q10, q11⟩ := id hR
  obtain ⟨g1, g2, g3, g4⟩ := h.tok
  have hk := kkS_le (b := b) (L := L) (M := M) (t := t)
  have hn := h.1.1
  have ht := h.2.2.1
  unfold pX10_takeNumber pX10_takeNumber_41
  simp only [lt]
  rw [h.2.1, ix_nI (by omega) (by decide), ix_nI (by omega) (by decide), nI_clamp (by omega), q7, q9, g1, show (2 : Int32) = nI 2 from rfl, show (1 : Int32) = nI 1 from rfl, c_fail hR h, c_fail hR h]
  simp (disch := omega) only [nI_eq, bd2_some]
  by_cases e : kkS b L M t = 2
  · have hv := kk_num e
    obtain ⟨a1, a2⟩ := c_advance (R := R) h (h.lt (by omega))
    rw [if_pos e, if_pos e, g3 (by omega), a1, bd1_some]
    simp (disch := omega) only [nI_ltI, nI_leI]
    by_cases c1 : vvS b L t < lo
    · rw [if_pos c1, if_neg (by omega)]
    · rw [if_neg c1]
      by_cases c2 : vvS b L t ≤ hi
      · rw [if_pos c2, if_pos ⟨by omega, c2⟩]
      · rw [if_neg c2, if_neg (fun z => c2 z.2)]
  · rw [if_neg e, if_neg e]
theorem m_takes {R : Rf} {T : Mm} {b : Nat → Nat} {L M t lo hi : Nat} (r1 : R 105 1 = 106) (h : CuM T b L M t) (hlo : lo ≤ 999) (hhi : hi ≤ 999) : (kkS b L M t = 2 ∧ lo ≤ vvS b L t ∧ vvS b L t ≤ hi → ∃ V, pX12_takes R T 105 (nI lo) (nI hi) = some (1, V) ∧ FX (wI T 105 18 (nI (vvS b L t))) V ∧ CuM V b L M (t + 1)) ∧ (kkS b L M t = 2 ∧ ¬ (lo ≤ vvS b L t ∧ vvS b L t ≤ hi) → pX12_takes R T 105 (nI lo) (nI hi) = some (0, flm T 2 (psS b L M t))) ∧ (kkS b L M t ≠ 2 → pX12_takes R T 105 (nI lo) (nI hi) = some (0, flm T 1 (psS b L M t))) := by
  obtain ⟨_, t2, _⟩ := h.t1
  unfold pX12_takes
  refine ⟨?_, ?_, ?_⟩
  · rintro ⟨z1, z2, z3⟩
    have hv := kk_num z1
    obtain ⟨g1, g2⟩ := h.tok.2.2.2.1 z1
    have h' : CuM (wI T 105 18 (nI (vvS b L t))) b L M t := h.of (by rw [wI_1, up2_row (by decide)]) rfl (fun k hk => wI_n (Or.inr (by omega))) rfl
    obtain ⟨V, v1, v2, v3⟩ := m_nextS (R := R) r1 h' (by omega)
    rw [if_pos g1, g2, m_isInG, if_pos ⟨nI_le z2 (by omega), nI_le z3 (by omega)⟩, bd1_some, if10]
    simp only [lt]
    rw [v1, bd1_some]
    exact ⟨V, rfl, v2, v3⟩
  · rintro ⟨z1, z2⟩
    have hv := kk_num z1
    obtain ⟨g1, g2⟩ := h.tok.2.2.2.1 z1
    rw [if_pos g1, g2, m_isInG, if_neg (fun z => z2 ⟨(nI_leI (by omega) (by omega)).mp z.1, (nI_leI (by omega) (by omega)).mp z.2⟩), bd1_some, if00, show (2 : Int32) = nI 2 from rfl, m_bad h, bd2_some]
    rfl
  · intro z1
    rw [if_neg (fun z => z1 (t2.mp z)), show (1 : Int32) = nI 1 from rfl, m_bad h, bd2_some]
    rfl
theorem c_takeMark {R : Rf} {T : Mm} {b : Nat → Nat} {L M n t c : Nat} (hR : RT R) (h : CuC T b L M n t) (hc : c < 256) : pX10_takeMark R T 1 (nI c) = some (if kkS b L M t = 5 ∧ vvS b L t = c then (1, wI T 1 6 (nI (t + 1))) else (0, flc T 1 (psS b L M t))) := by
  unfold pX10_takeMark
  rw [c_atMark hR h hc, bd1_some]
  by_cases e : kkS b L M t = 5 ∧ vvS b L t = c
  · obtain ⟨a1, a2⟩ := c_advance (R := R) h (h.lt (by omega))
    rw [if_pos e, if10, a1, bd1_some, if_pos e]
  · rw [if_neg e, if00, show (1 : Int32) = nI 1 from rfl, c_fail hR h, bd2_some, if_neg e]
    rfl
theorem m_signC {R : Rf} {T : Mm} {b : Nat → Nat} {L M t c : Nat} (r1 : R 105 1 = 106) (h : CuM T b L M t) (hc : c < 256) : (kkS b L M t = 5 ∧ vvS b L t = c → ∃ V, pX12_sign R T 105 (nI c) = some (1, V) ∧ FX T V ∧ CuM V b L M (t + 1)) ∧ (¬ (kkS b L M t = 5 ∧ vvS b L t = c) → pX12_sign R T 105 (nI c) = some (0, flm T 1 (psS b L M t))) := by
  unfold pX12_sign
  rw [m_isSignC h hc, bd1_some]
  refine ⟨fun e => ?_, fun e => ?_⟩
  · obtain ⟨V, v1, v2, v3⟩ := m_nextS (R := R) r1 h (by omega)
    rw [if_pos e, if10, v1, bd1_some]
    exact ⟨V, rfl, v2, v3⟩
  · rw [if_neg e, if00, show (1 : Int32) = nI 1 from rfl, m_bad h, bd2_some]
    rfl
