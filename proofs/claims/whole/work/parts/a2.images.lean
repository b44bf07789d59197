/-! image() and restore(): the copies -/
theorem cpI_in {T : Mm} {a b n k : Nat} (h : k < n) : (cpI T a b n).1 b k = T.1 a k := if_pos ⟨rfl, h⟩
theorem cpI_out {T : Mm} {a b n x k : Nat} (h : x ≠ b) : (cpI T a b n).1 x k = T.1 x k := if_neg (fun z => h z.1)
theorem cpI_o {T : Mm} {a b n x : Nat} (h : x ≠ b) : (cpI T a b n).1 x = T.1 x := funext fun _ => cpI_out h
theorem cpI_2 {T : Mm} {a b n : Nat} : (cpI T a b n).2 = T.2 := rfl
theorem cpJ_in {T : Mm} {a b n k : Nat} (h : k < n) : (cpJ T a b n).2 b k = T.2 a k := if_pos ⟨rfl, h⟩
theorem cpJ_out {T : Mm} {a b n x k : Nat} (h : x ≠ b) : (cpJ T a b n).2 x k = T.2 x k := if_neg (fun z => h z.1)
theorem cpJ_o {T : Mm} {a b n x : Nat} (h : x ≠ b) : (cpJ T a b n).2 x = T.2 x := funext fun _ => cpJ_out h
theorem cpJ_1 {T : Mm} {a b n : Nat} : (cpJ T a b n).1 = T.1 := rfl
theorem bz_le {ρ : Type} {k : Option ρ} {n : Nat} (h : n ≤ 1) : bz (nI n) k = k := by
  have : n = 0 ∨ n = 1 := by omega
  rcases this with rfl | rfl
  · exact bz_0
  · exact bz_1
theorem c_copyF {R : Rf} {T : Mm} {a c : Nat} {F : Nat → Nat} {N : Nat → List Nat} (ha : RG R a) (hd : a + 8 < c ∨ c + 8 < a) (h : CG R T c F N) (hV : VSt F N) : ∃ V, pX3_copy R T a c = some V ∧ CG R V a F N ∧ (∀ x, ¬ (a ≤ x ∧ x ≤ a + 8) → V.1 x = T.1 x) ∧ ∀ x, x ≠ a + 2 → x ≠ a + 3 → V.2 x = T.2 x := by
  obtain ⟨⟨⟨q5, q6, q7, q8, q9, q10, q11, q12⟩, f0, f1, f2, f3, f4, f14, f15, cs, co, cw, ca, cb, ch⟩, h13, hP, hI⟩ := h
  obtain ⟨p5, p6, p7, p8, p9, p10, p11, p12⟩ := id ha
  obtain ⟨⟨v0, v1, v2, _⟩, _, h80⟩ := hV
  unfold pX3_copy
  simp (disch := omega) only [lt, wI_n]
  rw [h13, bz_le h80, f0, f1, f2, f3, f4, f14, f15, p5, p6, p7, p8, p9, p10, p11, p12, q5, q6, q7, q8, q9, q10, q11, q12]
  refine ⟨_, rfl, ⟨⟨ha, ?_, ?_, ?_, ?_, ?_, ?_, ?_, fun p hp => ?_, fun p hp => ?_, fun p hp => ?_, fun p hp => ?_, fun p hp => ?_, fun p hp => ?_⟩, ?_, fun p hp => ?_, fun p hp => ?_⟩, fun x hx => ?_, fun x h1 h2 => ?_⟩
  · simp (disch := omega) only [cpI_out, cpJ_1, wI_n, wI_s]
  · simp (disch := omega) only [cpI_out, cpJ_1, wI_n, wI_s]
  · simp (disch := omega) only [cpI_out, cpJ_1, wI_n, wI_s]
  · simp (disch := omega) only [cpI_out, cpJ_1, wI_n, wI_s]
  · simp (disch := omega) only [cpI_out, cpJ_1, wI_n, wI_s]
  · simp (disch := omega) only [cpI_out, cpJ_1, wI_n, wI_s]
  · simp (disch := omega) only [cpI_out, cpJ_1, wI_n, wI_s]
  · simp (disch := omega) only [cpI_in, cpI_out, cpJ_1, wI_n]
    exact cs p hp
  · simp (disch := omega) only [cpI_in, cpI_out, cpJ_1, wI_n]
    exact co p hp
  · simp (disch := omega) only [cpI_in, cpI_out, cpJ_1, wI_n]
    exact cw p hp
  · simp (disch := omega) only [cpI_in, cpI_out, cpJ_1, wI_n]
    exact ca p hp
  · simp (disch := omega) only [cpI_in, cpI_out, cpJ_1, wI_n]
    exact cb p hp
  · simp (disch := omega) only [cpI_in, cpI_out, cpJ_1, wI_n]
    exact ch p hp
  · simp (disch := omega) only [cpI_out, cpJ_1, wI_n, wI_s]
  · simp only [cpI_2]
    rw [cpJ_out (by omega), cpJ_in (by omega)]
    exact hP p hp
  · simp only [cpI_2]
    rw [cpJ_in (by omega), cpJ_out (by omega)]
    exact hI p hp
  · simp (disch := omega) only [cpI_o, cpJ_1, wI_1, up2_row]
  · simp (disch := omega) only [cpI_2, cpJ_o, wI_2]
theorem c_copyS {R : Rf} {T : Mm} {a s : Nat} {c : Cod} {ones : Nat} (ha : RS R a) (hs : RS R s) (hd : a + 3 < s ∨ s + 3 < a) (h : SC T s c ones) (hl : c.length < 40) : ∃ V, pX8_copy R T a s = some V ∧ SC V a c ones ∧ (∀ x, ¬ (a ≤ x ∧ x ≤ a + 3) → V.1 x = T.1 x) ∧ V.2 = T.2 := by
  obtain ⟨h0, h1, h2⟩ := h
  obtain ⟨a2, a3, a4⟩ := ha
  obtain ⟨s2, s3, s4⟩ := hs
  unfold pX8_copy
  simp (disch := omega) only [lt, wI_n]
  rw [h0, h1, a2, a3, a4, s2, s3, s4]
  have key : ∀ V : Mm, (∀ j k, 1 ≤ j → j ≤ 3 → k < 40 → V.1 (a + j) k = T.1 (s + j) k) → ∀ c : Cod, c.length ≤ 40 → ClM T s c → ClM V a c := by
    intro V e c
    induction c with
    | nil => intro _ _; trivial
    | cons y l ih =>
      intro hl hc
      simp only [List.length_cons] at hl
      obtain ⟨g1, g2, g3, g4⟩ := hc
      exact ⟨by rw [e 1 _ (by omega) (by omega) (by omega)]; exact g1, by rw [e 2 _ (by omega) (by omega) (by omega)]; exact g2, by rw [e 3 _ (by omega) (by omega) (by omega)]; exact g3, ih (by omega) g4⟩
  refine ⟨_, rfl, ⟨?_, ?_, key _ (fun j k h1 h3 hk => ?_) c (by omega) h2⟩, fun x hx => ?_, rfl⟩
  · simp (disch := omega) only [cpI_out, wI_n, wI_s]
  · simp (disch := omega) only [cpI_out, wI_n, wI_s]
  · have : j = 1 ∨ j = 2 ∨ j = 3 := by omega
    rcases this with rfl | rfl | rfl
    · simp (disch := omega) only [cpI_in, cpI_out, wI_n]
    · simp (disch := omega) only [cpI_in, cpI_out, wI_n]
    · simp (disch := omega) only [cpI_in, cpI_out, wI_n]
  · simp (disch := omega) only [cpI_o, wI_1, up2_row]
