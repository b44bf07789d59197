/-! a SENTENCE: the reference's words -/
def OpM (T : Mm) : List Nat → Prop
  | [] => True
  | x :: l => T.1 119 l.length = nI x ∧ (20 ≤ x ∧ x < 24) ∧ OpM T l
def CdM (T : Mm) : Cod → Prop
  | [] => True
  | y :: l => T.1 109 (3 * l.length) = nI y.1 ∧ T.1 109 (3 * l.length + 1) = nI y.2.1 ∧ T.1 109 (3 * l.length + 2) = nI y.2.2 ∧ CdM T l
theorem OpM.of {T V : Mm} : ∀ {o : List Nat}, OpM T o → (∀ k, k < o.length → V.1 119 k = T.1 119 k) → OpM V o
  | [], _, _ => trivial
  | x :: l, h, e => ⟨by rw [e _ (Nat.lt_succ_self _)]; exact h.1, h.2.1, OpM.of h.2.2 (fun k hk => e k (by simp only [List.length_cons]; omega))⟩
theorem CdM.of {T V : Mm} : ∀ {c : Cod}, CdM T c → (∀ k, k < 3 * c.length → V.1 109 k = T.1 109 k) → CdM V c
  | [], _, _ => trivial
  | y :: l, h, e => by
    obtain ⟨h1, h2, h3, h4⟩ := h
    simp only [List.length_cons] at e
    exact ⟨by rw [e _ (by omega)]; exact h1, by rw [e _ (by omega)]; exact h2, by rw [e _ (by omega)]; exact h3, CdM.of h4 (fun k hk => e k (by omega))⟩
def SM (T : Mm) (o : List Nat) (c : Cod) (ones d : Nat) : Prop := T.1 105 43 = nI o.length ∧ OpM T o ∧ T.1 105 41 = nI c.length ∧ CdM T c ∧ T.1 105 42 = nI ones ∧ T.1 105 44 = nI d
/-- what reading a SENTENCE may touch of the reference -/
def FG (T V : Mm) : Prop := (∀ a, a ≠ 105 → a ≠ 109 → a ≠ 119 → V.1 a = T.1 a) ∧ (∀ a, a ≠ 105 → V.2 a = T.2 a) ∧ ∀ k, k ≠ 4 → ¬ (11 ≤ k ∧ k ≤ 16) → k ≠ 18 → ¬ (41 ≤ k ∧ k ≤ 45) → V.1 105 k = T.1 105 k
theorem FG.refl {T : Mm} : FG T T := ⟨fun _ _ _ _ => rfl, fun _ _ => rfl, fun _ _ _ _ _ => rfl⟩
theorem FG.trans {T U V : Mm} (h : FG T U) (h' : FG U V) : FG T V := ⟨fun a h1 h2 h3 => (h'.1 a h1 h2 h3).trans (h.1 a h1 h2 h3), fun a h1 => (h'.2.1 a h1).trans (h.2.1 a h1), fun k h1 h2 h3 h4 => (h'.2.2 k h1 h2 h3 h4).trans (h.2.2 k h1 h2 h3 h4)⟩
theorem FG.x {T U V : Mm} (h : FG T U) (f : FX U V) : FG T V := h.trans ⟨fun a h1 _ _ => (f.1 a h1).1, fun a h1 => (f.1 a h1).2, fun k h1 h2 h3 h4 => f.2.1 k h1 (by omega) (by omega) (by omega) (by omega)⟩
theorem FG.w {T U : Mm} {k : Nat} {v : Int32} (h : FG T U) (hk : k = 15 ∨ k = 16 ∨ k = 18 ∨ (41 ≤ k ∧ k ≤ 45)) : FG T (wI U 105 k v) := h.trans ⟨fun a h1 _ _ => by rw [wI_1, up2_row h1], fun _ _ => rfl, fun j h1 h2 h3 h4 => wI_n (Or.inr (by omega))⟩
theorem FG.wa {T U : Mm} {a k : Nat} {v : Int32} (h : FG T U) (ha : a = 109 ∨ a = 119) : FG T (wI U a k v) := h.trans ⟨fun c _ h2 h3 => by rw [wI_1, up2_row (by omega)], fun _ _ => rfl, fun j _ _ _ _ => wI_n (Or.inl (by omega))⟩
theorem FG.fl {T U : Mm} {k p : Nat} (h : FG T U) : FG T (flm U k p) := (h.w (by omega)).w (by omega)
theorem CuM.w6 {T : Mm} {b : Nat → Nat} {L M t k : Nat} {v : Int32} (h : CuM T b L M t) (hk : 15 ≤ k) : CuM (wI T 105 k v) b L M t := h.of (by rw [wI_1, up2_row (by decide)]) rfl (fun j hj => wI_n (Or.inr (by omega))) rfl
theorem m_code {R : Rf} {T : Mm} {b : Nat → Nat} {L M t : Nat} {o : List Nat} {c : Cod} {ones d a x v : Nat} {w y z : Int32} (r8 : R 105 8 = 109) (hc : CuM T b L M t) (h : SM T o c ones d) (hl : c.length < 45) (ew : w = nI a) (ey : y = nI x) (ez : z = nI v) : ∃ V, pX12_code R T 105 w y z = some V ∧ SM V o ((a, x, v) :: c) ones d ∧ CuM V b L M t ∧ FG T V ∧ V.1 105 15 = T.1 105 15 ∧ V.1 105 45 = T.1 105 45 := by
  obtain ⟨h43, hO, h41, hC, h42, h44⟩ := h
  subst ew ey ez
  unfold pX12_code
  rw [h41, lit_mul, ix_nI (by omega) (by decide), nI_clamp (by omega), r8]
  simp (disch := omega) only [lt, wI_n]
  rw [h41]
  simp (disch := omega) only [lit_mul, add_lit, ix_nI, nI_clamp]
  refine ⟨_, rfl, ⟨?_, ?_, ?_, ?_, ?_, ?_⟩, (((hc.wa (by decide) (by decide)).wa (by decide) (by decide)).wa (by decide) (by decide)).w6 (by omega), (((FG.refl.wa (by omega)).wa (by omega)).wa (by omega)).w (by omega), ?_, ?_⟩
  · simp (disch := omega) only [wI_n]; exact h43
  · exact hO.of (fun k _ => by simp (disch := omega) only [wI_n])
  · rw [wI_s]; rfl
  · refine ⟨?_, ?_, ?_, hC.of (fun k hk => ?_)⟩
    · simp (disch := omega) only [wI_n, wI_s]
    · simp (disch := omega) only [wI_n, wI_s]
    · simp (disch := omega) only [wI_n, wI_s]
    · simp (disch := omega) only [wI_n]
  · simp (disch := omega) only [wI_n]; exact h42
  · simp (disch := omega) only [wI_n]; exact h44
  · simp (disch := omega) only [wI_n]
  · simp (disch := omega) only [wI_n]
