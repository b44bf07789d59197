/-! said(), both whole -/
def sdS (h : Nat → Bool) (x1 : Int32) : Nat → Nat → Nat → Int32
  | 0, cnt, _ => if x1 = -1 then nI cnt else -1
  | m + 1, cnt, p => if h p = true then (if nI cnt = x1 then nI p else sdS h x1 m (cnt + 1) (p + 1)) else sdS h x1 m cnt (p + 1)
theorem c_saidL {R : Rf} {T : Mm} {f s : Nat} {F : Nat → Nat} {C : Nat → Int32} {c : Cod} {ones : Nat} (h : KV R T f F C) (hS : RS R s) (r13 : R 0 13 = s) (h97 : 97 ≤ s) (hs : SC T s c ones) (hw : WD c 1) (hl : c.length < 40) (x1 : Int32) : ∀ (m fuel : Nat) (g : Nat → Int32) (cnt p : Nat), p + m = F 0 → m < fuel → ∃ g', zl3 (pX11_said_21 R 0 x1 (pX11_said_60 R 0 x1) (pX11_said_71 R 0 x1)) fuel (setN T g) (nI cnt) (nI p) = some (sdS (fun p => tS F C p (gC c) c.length 0) x1 m cnt p, setN T g') := by
  obtain ⟨k1, k2, k3, k4, k5, k6, k7, k8, k9, k10⟩ := id h
  have v0 := k8.1
  intro m
  induction m with
  | zero =>
    intro fuel g cnt p hp hf
    cases fuel with
    | zero => omega
    | succ fuel =>
      rw [zl3_s]
      unfold pX11_said_21 pX11_said_71 sdS
      rw [k3, setN_o (by omega), k7.2.1, if_pos (show nI (F 0) ≤ nI p from (nI_leI (by omega) (by omega)).mpr (by omega))]
      by_cases e : x1 = -1
      · rw [if_pos e, if_pos e]; exact ⟨g, rfl⟩
      · rw [if_neg e, if_neg e]; exact ⟨g, rfl⟩
  | succ m ih =>
    intro fuel g cnt p hp hf
    cases fuel with
    | zero => omega
    | succ fuel =>
      rw [zl3_s]
      have ihf := ih fuel
      generalize zl3 (pX11_said_21 R 0 x1 (pX11_said_60 R 0 x1) (pX11_said_71 R 0 x1)) fuel = rr at ihf ⊢
      unfold pX11_said_21 pX11_said_60 sdS
      obtain ⟨g', hh⟩ := c_holdsS (h.sN (g := g)) hS h97 (hs.sN (g := g) h97) hw hl (p := p) (by omega)
      rw [k3, setN_o (by omega), k7.2.1, if_neg (show ¬ nI (F 0) ≤ nI p from fun z => by have := (nI_leI (by omega) (by omega)).mp z; omega), r13, k1, k2, hh, bd2_some, setN_setN, ifI]
      simp only [lt]
      rw [nI_1, nI_1]
      by_cases e : tS F C p (gC c) c.length 0 = true
      · rw [if_pos e, if_pos e]
        by_cases e' : nI cnt = x1
        · rw [if_pos e', if_pos e']; exact ⟨g', rfl⟩
        · rw [if_neg e', if_neg e']
          exact ihf g' (cnt + 1) (p + 1) (by omega) (by omega)
      · rw [if_neg e, if_neg e]
        exact ihf g' cnt (p + 1) (by omega) (by omega)
theorem m_saidL {R : Rf} {F : Nat → Nat} {C : Nat → Int32} {c : Cod} (hr : RM R) (hw : WD c 1) (hl : c.length < 40) (x1 : Int32) : ∀ (m fuel : Nat) (T : Mm) (cnt p : Nat), LV R T F C → SW T 90 107 c → T.1 107 89 = nI c.length → p + m = F 0 → m < fuel → ∃ V, zl3 (pX12_said_26 R 105 x1 (pX12_said_52 R 105 x1) (pX12_said_63 R 105 x1)) fuel T (nI cnt) (nI p) = some (sdS (fun p => tS F C p (gC c) c.length 0) x1 m cnt p, V) ∧ (∀ a, a ≠ 120 → V.1 a = T.1 a) ∧ V.2 = T.2 := by
  obtain ⟨r1, r6, r7, r8, r9, r10, r21, r22, r28, r32, r33, r34, r38, r40, r46, r47, r48, r49⟩ := id hr
  intro m
  induction m with
  | zero =>
    intro fuel T cnt p l hs h89 hp hf
    have v0 := l.2.2.1.1
    cases fuel with
    | zero => omega
    | succ fuel =>
      rw [zl3_s]
      unfold pX12_said_26 pX12_said_63 sdS
      simp (disch := omega) only [ix_lit, lit_clamp]
      rw [r6, l.2.1 0 (by omega), if_pos (show nI (F 0) ≤ nI p from (nI_leI (by omega) (by omega)).mpr (by omega))]
      by_cases e : x1 = -1
      · rw [if_pos e, if_pos e]; exact ⟨T, rfl, fun _ _ => rfl, rfl⟩
      · rw [if_neg e, if_neg e]; exact ⟨T, rfl, fun _ _ => rfl, rfl⟩
  | succ m ih =>
    intro fuel T cnt p l hs h89 hp hf
    have v0 := l.2.2.1.1
    cases fuel with
    | zero => omega
    | succ fuel =>
      rw [zl3_s]
      have ihf := ih fuel
      generalize zl3 (pX12_said_26 R 105 x1 (pX12_said_52 R 105 x1) (pX12_said_63 R 105 x1)) fuel = rr at ihf ⊢
      unfold pX12_said_26 pX12_said_52 sdS
      obtain ⟨U, hh, ua, u2⟩ := m_isSaidS hr l hs h89 hw hl (p := p) (by omega)
      simp (disch := omega) only [ix_lit, lit_clamp]
      rw [r6, l.2.1 0 (by omega), if_neg (show ¬ nI (F 0) ≤ nI p from fun z => by have := (nI_leI (by omega) (by omega)).mp z; omega), hh, bd2_some, ifI]
      simp only [lt]
      rw [nI_1, nI_1]
      have u107 := ua 107 (by decide)
      have go : ∀ cnt', ∃ V, rr U (nI cnt') (nI (p + 1)) = some (sdS (fun p => tS F C p (gC c) c.length 0) x1 m cnt' (p + 1), V) ∧ (∀ a, a ≠ 120 → V.1 a = T.1 a) ∧ V.2 = T.2 := fun cnt' => by
        obtain ⟨V, y1, y2, y3⟩ := ihf U cnt' (p + 1) (l.fr u107) (hs.of (fun k _ => by rw [u107])) (by rw [u107]; exact h89) (by omega) (by omega)
        exact ⟨V, y1, fun a ha => (y2 a ha).trans (ua a ha), y3.trans u2⟩
      by_cases e : tS F C p (gC c) c.length 0 = true
      · rw [if_pos e, if_pos e]
        by_cases e' : nI cnt = x1
        · rw [if_pos e', if_pos e']; exact ⟨U, rfl, ua, u2⟩
        · rw [if_neg e', if_neg e']
          exact go (cnt + 1)
      · rw [if_neg e, if_neg e]
        exact go cnt
/-- a SENTENCE that is in use, or none -/
def KS (R : Rf) (T : Mm) (s : Nat) (c : Cod) (ones : Nat) : Prop := RS R s ∧ R 0 13 = s ∧ 97 ≤ s ∧ SC T s c ones ∧ c.length < 40 ∧ (c = [] ∨ WD c 1)
def LSn (T : Mm) (c : Cod) : Prop := T.1 107 89 = nI c.length ∧ SW T 90 107 c
theorem k_said {R : Rf} {T T' : Mm} {f s : Nat} {F : Nat → Nat} {C : Nat → Int32} {c : Cod} {ones : Nat} (h : KV R T f F C) (l : LV R T' F C) (hr : RM R) (k : KS R T s c ones) (ls : LSn T' c) (x : Int32) : ∃ a g V, pX11_said R T 0 x = some (a, setN T g) ∧ pX12_said R T' 105 x = some (a, V) ∧ (∀ b, b ≠ 105 → b ≠ 120 → V.1 b = T'.1 b) ∧ V.2 = T'.2 ∧ V.1 105 = (wI T' 105 0 0).1 105 := by
  obtain ⟨k1, k2, k3, k4, k5, k6⟩ := k
  obtain ⟨r1, r6, r7, r8, r9, r10, r21, r22, r28, r32, r33, r34, r38, r40, r46, r47, r48, r49⟩ := id hr
  have o1 : ∀ b, b ≠ 105 → (wI T' 105 0 0).1 b = T'.1 b := fun b hb => by rw [wI_1, up2_row hb]
  unfold pX11_said pX12_said
  simp (disch := omega) only [ix_lit, lit_clamp, lt]
  rw [k2, k4.2.1, r6, o1 107 (by decide), ls.1]
  by_cases e : c = []
  · subst e
    rw [if_pos (show nI ([] : Cod).length = 0 from rfl), if_pos (show nI ([] : Cod).length = 0 from rfl)]
    exact ⟨_, T.1 34, _, by rw [setN_self], rfl, fun b h1 _ => o1 b h1, rfl, rfl⟩
  · have hw : WD c 1 := k6.resolve_left e
    have hn : ¬ nI c.length = 0 := fun z => by
      have := (nI_eq (b := 0) (by omega) (by omega)).mp z
      exact e (List.length_eq_zero_iff.mp this)
    rw [if_neg hn, if_neg hn]
    by_cases ex : (-1 : Int32) ≤ x
    · rw [if_pos ex, if_pos ex]
      obtain ⟨g, y1⟩ := c_saidL h k1 k2 k3 k4 hw k5 x (F 0) FU (T.1 34) 0 0 (by omega) (by rw [FU_eq]; have := h.2.2.2.2.2.2.2.1.1; omega)
      rw [setN_self] at y1
      obtain ⟨V, z1, z2, z3⟩ := m_saidL hr hw k5 x (F 0) FU (wI T' 105 0 0) 0 0 (l.sw (by decide)) (ls.2.of (fun k _ => by rw [o1 107 (by decide)])) (by rw [o1 107 (by decide)]; exact ls.1) (by omega) (by rw [FU_eq]; have := h.2.2.2.2.2.2.2.1.1; omega)
      exact ⟨_, g, V, y1, z1, fun b h1 h2 => (z2 b h2).trans (o1 b h1), z3, z2 105 (by decide)⟩
    · rw [if_neg ex, if_neg ex]
      exact ⟨_, T.1 34, _, by rw [setN_self], rfl, fun b h1 _ => o1 b h1, rfl, rfl⟩
