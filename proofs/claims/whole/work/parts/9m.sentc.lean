/-! a SENTENCE: the class's steps -/
def RS (R : Rf) (s : Nat) : Prop := R s 2 = s + 1 ∧ R s 3 = s + 2 ∧ R s 4 = s + 3
def wcS (a : Nat) : Nat := if a < 10 then a + 14 else 33 - a
def ClM (T : Mm) (s : Nat) : Cod → Prop
  | [] => True
  | y :: l => T.1 (s + 1) l.length = nI (wcS y.1) ∧ T.1 (s + 2) l.length = nI y.2.1 ∧ T.1 (s + 3) l.length = nI y.2.2 ∧ ClM T s l
theorem ClM.of {T V : Mm} {s : Nat} : ∀ {c : Cod}, ClM T s c → (∀ a k, s + 1 ≤ a → a ≤ s + 3 → k < c.length → V.1 a k = T.1 a k) → ClM V s c
  | [], _, _ => trivial
  | y :: l, h, e => by
    obtain ⟨h1, h2, h3, h4⟩ := h
    have hl : l.length < (y :: l).length := Nat.lt_succ_self _
    exact ⟨by rw [e (s + 1) _ (by omega) (by omega) hl]; exact h1, by rw [e (s + 2) _ (by omega) (by omega) hl]; exact h2, by rw [e (s + 3) _ (by omega) (by omega) hl]; exact h3, ClM.of h4 (fun a k a1 a2 hk => e a k a1 a2 (by omega))⟩
def SC (T : Mm) (s : Nat) (c : Cod) (ones : Nat) : Prop := T.1 s 0 = nI ones ∧ T.1 s 1 = nI c.length ∧ ClM T s c
def FS (s : Nat) (T V : Mm) : Prop := (∀ a, a ≠ 1 → ¬ (s ≤ a ∧ a ≤ s + 3) → V.1 a = T.1 a) ∧ V.2 = T.2 ∧ ∀ k, k ≠ 2 → k ≠ 3 → k ≠ 6 → V.1 1 k = T.1 1 k
theorem FS.refl {s : Nat} {T : Mm} : FS s T T := ⟨fun _ _ _ => rfl, rfl, fun _ _ _ _ => rfl⟩
theorem FS.trans {s : Nat} {T U V : Mm} (h : FS s T U) (h' : FS s U V) : FS s T V := ⟨fun a h1 h2 => (h'.1 a h1 h2).trans (h.1 a h1 h2), h'.2.1.trans h.2.1, fun k h1 h2 h3 => (h'.2.2 k h1 h2 h3).trans (h.2.2 k h1 h2 h3)⟩
theorem FS.w1 {s : Nat} {T U : Mm} {k : Nat} {v : Int32} (h : FS s T U) (hk : k = 2 ∨ k = 3 ∨ k = 6) : FS s T (wI U 1 k v) := h.trans ⟨fun a h1 _ => by rw [wI_1, up2_row h1], rfl, fun j h1 h2 h3 => wI_n (Or.inr (by omega))⟩
theorem FS.ws {s a : Nat} {T U : Mm} {k : Nat} {v : Int32} (h : FS s T U) (h1 : s ≤ a) (h2 : a ≤ s + 3) (hs : 97 ≤ s) : FS s T (wI U a k v) := h.trans ⟨fun c _ h4 => by rw [wI_1, up2_row (by omega)], rfl, fun j _ _ _ => wI_n (Or.inl (by omega))⟩
theorem FS.fl {s : Nat} {T U : Mm} {k p : Nat} (h : FS s T U) : FS s T (flc U k p) := (h.w1 (Or.inl rfl)).w1 (Or.inr (Or.inl rfl))
theorem SC.w1 {s : Nat} {T : Mm} {c : Cod} {ones k : Nat} {v : Int32} (h : SC T s c ones) (hs : 97 ≤ s) : SC (wI T 1 k v) s c ones := ⟨(wI_n (Or.inl (by omega))).trans h.1, (wI_n (Or.inl (by omega))).trans h.2.1, h.2.2.of (fun a j h1 _ _ => wI_n (Or.inl (by omega)))⟩
theorem c_step {R : Rf} {T : Mm} {s : Nat} {c : Cod} {ones a x v : Nat} {w y z : Int32} (hR : RS R s) (hs : 97 ≤ s) (h : SC T s c ones) (hl : c.length < 40) (ew : w = nI (wcS a)) (ey : y = nI x) (ez : z = nI v) : ∃ V, pX8_step R T s w y z = some (1, V) ∧ SC V s ((a, x, v) :: c) ones ∧ FS s T V ∧ V.1 1 = T.1 1 := by
  obtain ⟨r2, r3, r4⟩ := hR
  obtain ⟨h0, h1, h2⟩ := h
  subst ew ey ez
  unfold pX8_step
  rw [h1, if_neg (show ¬ (40 : Int32) ≤ nI c.length from nI_ge (b := 40) hl (by decide)), ix_nI hl (by decide), nI_clamp (by omega), r2, r3, r4]
  simp (disch := omega) only [lt, wI_n]
  rw [h1, ix_nI hl (by decide), ix_nI hl (by decide), nI_clamp (by omega), nI_1]
  refine ⟨_, rfl, ⟨?_, ?_, ?_, ?_, ?_, ?_⟩, (((FS.refl.ws (by omega) (by omega) hs).ws (by omega) (by omega) hs).ws (by omega) (by omega) hs).ws (by omega) (by omega) hs, ?_⟩
  · simp (disch := omega) only [wI_n]; exact h0
  · rw [wI_s]; rfl
  · simp (disch := omega) only [wI_n, wI_s]
  · simp (disch := omega) only [wI_n, wI_s]
  · simp (disch := omega) only [wI_n, wI_s]
  · refine h2.of (fun b k h1 h2 hk => ?_)
    simp (disch := omega) only [wI_n]
  · simp only [wI_1]
    rw [up2_row (by omega), up2_row (by omega), up2_row (by omega), up2_row (by omega)]
theorem c_takeSign {R : Rf} {T : Mm} {b : Nat → Nat} {L M n t : Nat} (hR : RT R) (h : CuC T b L M n t) : pX10_takeSign R T 1 = some (if kkS b L M t = 5 ∧ 60 ≤ vvS b L t ∧ vvS b L t ≤ 62 then (nI (vvS b L t), wI T 1 6 (nI (t + 1))) else (-1, flc T 1 (psS b L M t))) := by
  obtain ⟨q0, q7, q8, q9, q10, q11⟩ := id hR
  obtain ⟨g1, g2, g3, g4⟩ := h.tok
  have hk := kkS_le (b := b) (L := L) (M := M) (t := t)
  have hn := h.1.1
  have ht := h.2.2.1
  unfold pX10_takeSign pX10_takeSign_30
  simp only [lt]
  rw [h.2.1, ix_nI (by omega) (by decide), ix_nI (by omega) (by decide), nI_clamp (by omega), q7, q9, g1, c_fail1 hR h, bd2_some]
  simp (disch := omega) only [eq_lit]
  by_cases e : kkS b L M t = 5
  · have hv := mk_lt (kk_mark e)
    obtain ⟨a1, a2⟩ := c_advance (R := R) h (h.lt (by omega))
    rw [if_pos e, g3 (by omega), a1, bd1_some]
    unfold pX10_isSign
    simp (disch := omega) only [eq_lit]
    by_cases e0 : vvS b L t = 60
    · rw [if_pos e0, bd1_some, if10, if_pos ⟨e, by omega, by omega⟩]
    · rw [if_neg e0]
      by_cases e1 : vvS b L t = 61
      · rw [if_pos e1, bd1_some, if10, if_pos ⟨e, by omega, by omega⟩]
      · rw [if_neg e1]
        by_cases e2 : vvS b L t = 62
        · rw [if_pos e2, bd1_some, if10, if_pos ⟨e, by omega, by omega⟩]
        · rw [if_neg e2, bd1_some, if00, if_neg (fun z => by omega)]
  · rw [if_neg e, if_neg (fun z => e z.1)]
