/-! reading along the TOKENS, both -/
def kkS (b : Nat → Nat) (L M t : Nat) : Nat := if skS b L (scS b L t) < min L M then tkK b L (skS b L (scS b L t)) else 0
def psS (b : Nat → Nat) (L M t : Nat) : Nat := if skS b L (scS b L t) < min L M then skS b L (scS b L t) else min L M
def vvS (b : Nat → Nat) (L t : Nat) : Nat := tkV b L (skS b L (scS b L t))
def wwS (b : Nat → Nat) (L t : Nat) : List Nat := tkW b L (skS b L (scS b L t))
theorem tkK_15 {b : Nat → Nat} {L s : Nat} : 1 ≤ tkK b L s ∧ tkK b L s ≤ 5 := by
  unfold tkK
  by_cases e1 : alB (b s) = true
  · rw [if_pos e1]
    by_cases e2 : nsS b s (reS b L s - s) = 0 ∧ reS b L s - s ≤ 3
    · rw [if_pos e2]; omega
    · rw [if_neg e2]
      by_cases e3 : ndS b s (reS b L s - s) = 0 ∧ reS b L s - s ≤ 7
      · rw [if_pos e3]
        by_cases e4 : kwS (wlS b s (reS b L s - s)) = none
        · rw [if_pos e4]; omega
        · rw [if_neg e4]; omega
      · rw [if_neg e3]; omega
  · rw [if_neg e1]
    by_cases e2 : mkB (b s) = true
    · rw [if_pos e2]; omega
    · rw [if_neg e2]; omega
theorem kkS_le {b : Nat → Nat} {L M t : Nat} : kkS b L M t ≤ 5 := by
  unfold kkS
  by_cases e : skS b L (scS b L t) < min L M
  · rw [if_pos e]; exact tkK_15.2
  · rw [if_neg e]; omega
theorem psS_le {b : Nat → Nat} {L M t : Nat} : psS b L M t ≤ min L M := by
  unfold psS
  by_cases e : skS b L (scS b L t) < min L M
  · rw [if_pos e]; omega
  · rw [if_neg e]; exact Nat.le_refl _
theorem kk_num {b : Nat → Nat} {L M t : Nat} (h : kkS b L M t = 2) : vvS b L t ≤ 999 := by
  unfold kkS at h
  by_cases e : skS b L (scS b L t) < min L M
  · rw [if_pos e] at h
    unfold vvS
    generalize skS b L (scS b L t) = s at *
    unfold tkK at h
    unfold tkV
    by_cases e1 : alB (b s) = true
    · rw [if_pos e1] at h ⊢
      by_cases e2 : nsS b s (reS b L s - s) = 0 ∧ reS b L s - s ≤ 3
      · rw [if_pos e2]
        obtain ⟨a1, a2, a3, a4⟩ := fd_ok (c := fun k => !alB (b k)) (p := s) (L := L) (by omega)
        have hre : reS b L s = fd (fun k => !alB (b k)) s L := rfl
        rw [← hre] at a1 a2 a3
        have hd : ∀ i, i < reS b L s - s → b (s + i) ≤ 57 := by
          intro i hi
          have hal : alB (b (s + i)) = true := by
            have := a3 (s + i) (by omega) (by omega)
            simpa using this
          have hsm : smB (b (s + i)) = false := by
            cases y : smB (b (s + i)) with
            | false => rfl
            | true =>
              have : 0 < nsS b s (reS b L s - s) := cnt_pos hi y
              omega
          have hdg : dgB (b (s + i)) = true := by
            unfold alB at hal
            rw [hsm] at hal
            simpa using hal
          exact (dg_256 hdg).2
        have key : ∀ k, k ≤ reS b L s - s → numS b s k + 1 ≤ 10 ^ k := by
          intro k
          induction k with
          | zero => intro _; exact Nat.le_refl _
          | succ k ih =>
            intro hk
            have := ih (by omega)
            have := hd k (by omega)
            rw [numS_succ, Nat.pow_succ]
            omega
        have h1 := key _ (Nat.le_refl _)
        have h2 : 10 ^ (reS b L s - s) ≤ 10 ^ 3 := Nat.pow_le_pow_right (by decide) e2.2
        omega
      · rw [if_neg e2] at h
        by_cases e3 : ndS b s (reS b L s - s) = 0 ∧ reS b L s - s ≤ 7
        · rw [if_pos e3] at h
          by_cases e4 : kwS (wlS b s (reS b L s - s)) = none
          · rw [if_pos e4] at h; omega
          · rw [if_neg e4] at h; omega
        · rw [if_neg e3] at h; omega
    · rw [if_neg e1] at h
      by_cases e2 : mkB (b s) = true
      · rw [if_pos e2] at h; omega
      · rw [if_neg e2] at h; omega
  · rw [if_neg e] at h; omega
theorem kk_word {b : Nat → Nat} {L M t : Nat} (h : kkS b L M t = 3 ∨ kkS b L M t = 4) : IW (wwS b L t) ∧ (kkS b L M t = 3 → kwS (wwS b L t) = none) ∧ (kkS b L M t = 4 → kwS (wwS b L t) = some (vvS b L t)) := by
  unfold kkS at *
  by_cases e : skS b L (scS b L t) < min L M
  · rw [if_pos e] at *
    have hIW : IW (wwS b L t) := tkW_IW (by omega) h
    refine ⟨hIW, ?_, ?_⟩
    · intro h3
      unfold wwS tkW
      generalize skS b L (scS b L t) = s at *
      unfold tkK at h3
      by_cases e1 : alB (b s) = true
      · rw [if_pos e1] at h3
        by_cases e2 : nsS b s (reS b L s - s) = 0 ∧ reS b L s - s ≤ 3
        · rw [if_pos e2] at h3; omega
        · rw [if_neg e2] at h3
          by_cases e3 : ndS b s (reS b L s - s) = 0 ∧ reS b L s - s ≤ 7
          · rw [if_pos e3] at h3
            by_cases e4 : kwS (wlS b s (reS b L s - s)) = none
            · exact e4
            · rw [if_neg e4] at h3; omega
          · rw [if_neg e3] at h3; omega
      · rw [if_neg e1] at h3
        by_cases e2 : mkB (b s) = true
        · rw [if_pos e2] at h3; omega
        · rw [if_neg e2] at h3; omega
    · intro h3
      unfold wwS tkW vvS tkV
      generalize skS b L (scS b L t) = s at *
      unfold tkK at h3
      by_cases e1 : alB (b s) = true
      · rw [if_pos e1] at h3 ⊢
        by_cases e2 : nsS b s (reS b L s - s) = 0 ∧ reS b L s - s ≤ 3
        · rw [if_pos e2] at h3; omega
        · rw [if_neg e2] at h3 ⊢
          by_cases e3 : ndS b s (reS b L s - s) = 0 ∧ reS b L s - s ≤ 7
          · rw [if_pos e3] at h3
            cases e4 : kwS (wlS b s (reS b L s - s)) with
            | none => rw [e4, if_pos rfl] at h3; omega
            | some q => rfl
          · rw [if_neg e3] at h3; omega
      · rw [if_neg e1] at h3
        by_cases e2 : mkB (b s) = true
        · rw [if_pos e2] at h3; omega
        · rw [if_neg e2] at h3; omega
  · rw [if_neg e] at h; omega
theorem kw_some {w : List Nat} {k : Nat} (h : kwS w = some k) : k < 24 ∧ kwk k = w := by
  obtain ⟨_, h2, h3, _⟩ := fst_some 24 0 k h
  exact ⟨by omega, of_decide_eq_true h3⟩
theorem kw_is {k : Nat} (hk : k < 24) : kwS (kwk k) = some k := fst_is 24 0 (by omega) (by omega) (decide_eq_true rfl) (fun j _ hj => by
  cases z : decide (kwk j = kwk k) with
  | false => rfl
  | true =>
    have := kwk_inj j (by omega) k hk (of_decide_eq_true z)
    omega)
theorem kk_mark {b : Nat → Nat} {L M t : Nat} (h : kkS b L M t = 5) : mkB (vvS b L t) = true := by
  unfold kkS at h
  by_cases e : skS b L (scS b L t) < min L M
  · rw [if_pos e] at h
    unfold vvS
    generalize skS b L (scS b L t) = s at *
    unfold tkK at h
    unfold tkV
    by_cases e1 : alB (b s) = true
    · rw [if_pos e1] at h
      by_cases e2 : nsS b s (reS b L s - s) = 0 ∧ reS b L s - s ≤ 3
      · rw [if_pos e2] at h; omega
      · rw [if_neg e2] at h
        by_cases e3 : ndS b s (reS b L s - s) = 0 ∧ reS b L s - s ≤ 7
        · rw [if_pos e3] at h
          by_cases e4 : kwS (wlS b s (reS b L s - s)) = none
          · rw [if_pos e4] at h; omega
          · rw [if_neg e4] at h; omega
        · rw [if_neg e3] at h; omega
    · rw [if_neg e1] at h ⊢
      by_cases e2 : mkB (b s) = true
      · exact e2
      · rw [if_neg e2] at h; omega
  · rw [if_neg e] at h; omega
/-- the class's cursor is at TOKEN t of n -/
def CuC (T : Mm) (b : Nat → Nat) (L M n t : Nat) : Prop := CTS T b L M n ∧ T.1 1 6 = nI t ∧ t ≤ n ∧ L ≤ 940 ∧ M ≤ 940
theorem CuC.kk0 {T : Mm} {b : Nat → Nat} {L M n t : Nat} (h : CuC T b L M n t) : (t < n → 1 ≤ kkS b L M t) ∧ (t = n → kkS b L M t = 0) := by
  obtain ⟨⟨h1, h2, h3, h4, h5, h6, h7, h8⟩, _⟩ := h
  unfold kkS
  refine ⟨fun z => ?_, fun z => ?_⟩
  · rw [if_pos (h4 t z).1]; exact tkK_15.1
  · rw [z, if_neg (by omega)]
theorem CuC.tok {T : Mm} {b : Nat → Nat} {L M n t : Nat} (h : CuC T b L M n t) : T.1 3 t = nI (kkS b L M t) ∧ T.1 4 t = nI (psS b L M t) ∧ (kkS b L M t = 2 ∨ kkS b L M t = 4 ∨ kkS b L M t = 5 → T.1 5 t = nI (vvS b L t)) ∧ (kkS b L M t = 3 ∨ kkS b L M t = 4 → T.2 6 t = w5 (wwS b L t)) := by
  obtain ⟨⟨h1, h2, h3, h4, h5, h6, h7, h8⟩, _, h9, _⟩ := h
  unfold kkS psS vvS wwS
  by_cases e : t < n
  · obtain ⟨g1, g2⟩ := h4 t e
    rw [if_pos g1, if_pos g1]
    exact g2
  · have et : t = n := by omega
    subst et
    rw [if_neg (by omega), if_neg (by omega)]
    exact ⟨h7, h8, fun z => by omega, fun z => by omega⟩
theorem c_keyword {R : Rf} {T : Mm} {b : Nat → Nat} {L M n t : Nat} (hR : RT R) (h : CuC T b L M n t) : pX10_keyword R T 1 = some (if kkS b L M t = 4 then nI (vvS b L t) else -1) := by
  obtain ⟨q0, q7, q8, q9, q10, q11⟩ := hR
  obtain ⟨g1, g2, g3, g4⟩ := h.tok
  have hk := kkS_le (b := b) (L := L) (M := M) (t := t)
  unfold pX10_keyword
  rw [h.2.1, ix_nI (by have := h.1.1; have := h.2.2.1; omega) (by decide), ix_nI (by have := h.1.1; have := h.2.2.1; omega) (by decide), nI_clamp (by have := h.1.1; have := h.2.2.1; omega), q7, q9, g1]
  simp (disch := omega) only [eq_lit]
  by_cases e : kkS b L M t = 4
  · rw [if_pos e, if_pos e, g3 (by omega)]
  · rw [if_neg e, if_neg e]
theorem c_atName {R : Rf} {T : Mm} {b : Nat → Nat} {L M n t : Nat} (hR : RT R) (h : CuC T b L M n t) : pX10_atName R T 1 = some (if kkS b L M t = 3 then 1 else 0) := by
  obtain ⟨q0, q7, q8, q9, q10, q11⟩ := hR
  obtain ⟨g1, g2, g3, g4⟩ := h.tok
  have hk := kkS_le (b := b) (L := L) (M := M) (t := t)
  unfold pX10_atName
  rw [h.2.1, ix_nI (by have := h.1.1; have := h.2.2.1; omega) (by decide), nI_clamp (by have := h.1.1; have := h.2.2.1; omega), q7, g1]
  simp (disch := omega) only [eq_lit]
  by_cases e : kkS b L M t = 3
  · rw [if_pos e, if_pos e]
  · rw [if_neg e, if_neg e]
theorem c_atEnd {R : Rf} {T : Mm} {b : Nat → Nat} {L M n t : Nat} (hR : RT R) (h : CuC T b L M n t) : pX10_atEnd R T 1 = some (if kkS b L M t = 0 then 1 else 0) := by
  obtain ⟨q0, q7, q8, q9, q10, q11⟩ := hR
  obtain ⟨g1, g2, g3, g4⟩ := h.tok
  have hk := kkS_le (b := b) (L := L) (M := M) (t := t)
  unfold pX10_atEnd
  rw [h.2.1, ix_nI (by have := h.1.1; have := h.2.2.1; omega) (by decide), nI_clamp (by have := h.1.1; have := h.2.2.1; omega), q7, g1]
  simp (disch := omega) only [eq_lit]
  by_cases e : kkS b L M t = 0
  · rw [if_pos e, if_pos e]
  · rw [if_neg e, if_neg e]
theorem mk_lt {c : Nat} (h : mkB c = true) : c < 256 := by
  unfold mkB at h
  simp only [Bool.or_eq_true, decide_eq_true_iff, Bool.and_eq_true] at h
  omega
theorem c_atMark {R : Rf} {T : Mm} {b : Nat → Nat} {L M n t c : Nat} (hR : RT R) (h : CuC T b L M n t) (hc : c < 256) : pX10_atMark R T 1 (nI c) = some (if kkS b L M t = 5 ∧ vvS b L t = c then 1 else 0) := by
  obtain ⟨q0, q7, q8, q9, q10, q11⟩ := hR
  obtain ⟨g1, g2, g3, g4⟩ := h.tok
  have hk := kkS_le (b := b) (L := L) (M := M) (t := t)
  unfold pX10_atMark
  rw [h.2.1, ix_nI (by have := h.1.1; have := h.2.2.1; omega) (by decide), ix_nI (by have := h.1.1; have := h.2.2.1; omega) (by decide), nI_clamp (by have := h.1.1; have := h.2.2.1; omega), q7, q9, g1]
  simp (disch := omega) only [eq_lit]
  by_cases e : kkS b L M t = 5
  · have := mk_lt (kk_mark e)
    rw [if_pos e, g3 (by omega)]
    simp (disch := omega) only [nI_eq]
    by_cases e2 : vvS b L t = c
    · rw [if_pos e2, if_pos ⟨e, e2⟩]
    · rw [if_neg e2, if_neg (fun z => e2 z.2)]
  · rw [if_neg e, if_neg (fun z => e z.1)]
def flc (T : Mm) (k p : Nat) : Mm := wI (wI T 1 2 (nI k)) 1 3 (nI p)
def flm (T : Mm) (k p : Nat) : Mm := wI (wI T 105 15 (nI k)) 105 16 (nI p)
theorem c_fail {R : Rf} {T : Mm} {b : Nat → Nat} {L M n t : Nat} (hR : RT R) (h : CuC T b L M n t) (k : Nat) : pX10_fail R T 1 (nI k) = some (0, flc T k (psS b L M t)) := by
  obtain ⟨q0, q7, q8, q9, q10, q11⟩ := hR
  obtain ⟨g1, g2, g3, g4⟩ := h.tok
  unfold pX10_fail flc
  simp only [lt]
  rw [wI_n (Or.inr (by decide)), h.2.1, ix_nI (by have := h.1.1; have := h.2.2.1; omega) (by decide), nI_clamp (by have := h.1.1; have := h.2.2.1; omega), q8, wI_n (Or.inl (by decide)), g2]
theorem CuC.of {T V : Mm} {b : Nat → Nat} {L M n t u : Nat} (h : CuC T b L M n t) (e3 : V.1 3 = T.1 3) (e4 : V.1 4 = T.1 4) (e5 : V.1 5 = T.1 5) (e6 : V.2 6 = T.2 6) (f4 : V.1 1 4 = T.1 1 4) (f5 : V.1 1 5 = T.1 1 5) (hu : V.1 1 6 = nI u) (hun : u ≤ n) : CuC V b L M n u := by
  obtain ⟨⟨h1, h2, h3, h4, h5, h6, h7, h8⟩, _, _, h10, h11⟩ := h
  refine ⟨⟨h1, by rw [f5, h2], by rw [f4, h3], fun t ht => ⟨(h4 t ht).1, ?_⟩, h5, h6, by rw [e3, h7], by rw [e4, h8]⟩, hu, hun, h10, h11⟩
  have := (h4 t ht).2
  unfold CTk at *
  rw [e3, e4, e5, e6]
  exact this
theorem c_advance {R : Rf} {T : Mm} {b : Nat → Nat} {L M n t : Nat} (h : CuC T b L M n t) (ht : t < n) : pX10_advance R T 1 = some (wI T 1 6 (nI (t + 1))) ∧ CuC (wI T 1 6 (nI (t + 1))) b L M n (t + 1) := by
  refine ⟨?_, h.of (by rw [wI_1, up2_row (by decide)]) (by rw [wI_1, up2_row (by decide)]) (by rw [wI_1, up2_row (by decide)]) rfl (wI_n (Or.inr (by decide))) (wI_n (Or.inr (by decide))) wI_s (by omega)⟩
  unfold pX10_advance
  have := h.1.1
  rw [h.1.2.1, h.2.1, nI_1, if_neg (nI_ge (by omega) (by omega))]
theorem c_name {R : Rf} {T : Mm} {b : Nat → Nat} {L M n t : Nat} (hR : RT R) (h : CuC T b L M n t) (h3 : kkS b L M t = 3 ∨ kkS b L M t = 4) : pX10_name R T 1 = some (w5 (wwS b L t)) := by
  obtain ⟨q0, q7, q8, q9, q10, q11⟩ := hR
  obtain ⟨g1, g2, g3, g4⟩ := h.tok
  unfold pX10_name
  rw [h.2.1, ix_nI (by have := h.1.1; have := h.2.2.1; omega) (by decide), nI_clamp (by have := h.1.1; have := h.2.2.1; omega), q10, g4 h3]
