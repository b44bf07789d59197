/-! living a BOOK -/
/-- one line: why not (0: done), and the course -/
def lS (F : Nat → Nat) (C : Nat → Int32) (w x : Nat) : Int32 × (Nat → Int32) :=
  if w = 0 then goS F C x else if w = 1 then frS C x else if w = 2 then unS F C x else if w = 3 then ldS F C x
  else if w = 4 then (if x < F 2 then bdS F C x else (9, C))
  else (if C 0 + nI x ≤ 400 then (0, daysS F x C) else (1, C))
def cdS (w : Nat) (y : Int32) : Int32 := if y = 0 then 0 else y + nI (10 * w)
/-- a line that may be in a BOOK -/
def VL (F : Nat → Nat) (w x : Nat) : Prop := (w ≤ 1 ∧ x < F 0) ∨ ((w = 2 ∨ w = 3) ∧ x < F 1) ∨ (w = 4 ∧ x ≤ 15) ∨ (w = 5 ∧ 1 ≤ x ∧ x ≤ 60)
theorem goS_k {F : Nat → Nat} {C : Nat → Int32} {p : Nat} : (goS F C p).1 = 0 ∨ ((goS F C p).1 = 1 ∧ (goS F C p).2 = C) := by
  unfold goS
  by_cases e : C (4 + p) = 0
  · rw [if_pos e]; exact Or.inl rfl
  · rw [if_neg e]; exact Or.inr ⟨rfl, rfl⟩
theorem frS_k {C : Nat → Int32} {p : Nat} : (frS C p).1 = 0 ∨ ((frS C p).1 = 1 ∧ (frS C p).2 = C) := by
  unfold frS
  by_cases e : C (4 + p) = 2
  · rw [if_pos e]; exact Or.inl rfl
  · rw [if_neg e]; exact Or.inr ⟨rfl, rfl⟩
theorem unS_k {F : Nat → Nat} {C : Nat → Int32} {i : Nat} : (unS F C i).1 = 0 ∨ (((unS F C i).1 = 1 ∨ (unS F C i).1 = 2) ∧ (unS F C i).2 = C) := by
  unfold unS
  by_cases e : bt (C 1) i = false
  · rw [if_pos e]; exact Or.inr ⟨Or.inl rfl, rfl⟩
  · rw [if_neg e]
    by_cases e2 : C (4 + F (12 + i)) < 2
    · rw [if_pos e2]; exact Or.inl rfl
    · rw [if_neg e2]; exact Or.inr ⟨Or.inr rfl, rfl⟩
theorem ldS_k {F : Nat → Nat} {C : Nat → Int32} {i : Nat} : (ldS F C i).1 = 0 ∨ (((ldS F C i).1 = 1 ∨ (ldS F C i).1 = 2) ∧ (ldS F C i).2 = C) := by
  unfold ldS
  by_cases e : bt (C 1) i = false
  · rw [if_pos e]
    by_cases e2 : C (4 + F (12 + i)) = 0
    · rw [if_pos e2]; exact Or.inl rfl
    · rw [if_neg e2]; exact Or.inr ⟨Or.inr rfl, rfl⟩
  · rw [if_neg e]; exact Or.inr ⟨Or.inl rfl, rfl⟩
theorem bdS_k {F : Nat → Nat} {C : Nat → Int32} {j : Nat} : (bdS F C j).1 = 0 ∨ (((bdS F C j).1 = 1 ∨ (bdS F C j).1 = 2 ∨ (bdS F C j).1 = 3) ∧ (bdS F C j).2 = C) := by
  unfold bdS
  by_cases e : bt (C 2) j = false
  · rw [if_pos e]; exact Or.inr ⟨Or.inl rfl, rfl⟩
  · rw [if_neg e]
    by_cases e1 : bt (C 1) (F (32 + j)) = false
    · rw [if_pos e1]; exact Or.inr ⟨Or.inr (Or.inl rfl), rfl⟩
    · rw [if_neg e1]
      by_cases e2 : bt (C 1) (F (48 + j)) = false
      · rw [if_pos e2]; exact Or.inr ⟨Or.inr (Or.inl rfl), rfl⟩
      · rw [if_neg e2]
        by_cases e3 : C (4 + F (12 + F (32 + j))) = 0
        · rw [if_pos e3]; exact Or.inl rfl
        · rw [if_neg e3]; exact Or.inr ⟨Or.inr (Or.inr rfl), rfl⟩
/-- where a line is wrong nothing changes; its reason is small and above 0 -/
theorem lS_k {F : Nat → Nat} {C : Nat → Int32} {w x : Nat} : (lS F C w x).1 = 0 ∨ ((∃ y : Nat, 1 ≤ y ∧ y ≤ 9 ∧ (lS F C w x).1 = nI y) ∧ (lS F C w x).2 = C) := by
  unfold lS
  by_cases e0 : w = 0
  · rw [if_pos e0]
    rcases goS_k (F := F) (C := C) (p := x) with h | ⟨h, h2⟩
    · exact Or.inl h
    · exact Or.inr ⟨⟨1, by omega, by omega, h⟩, h2⟩
  · rw [if_neg e0]
    by_cases e1 : w = 1
    · rw [if_pos e1]
      rcases frS_k (C := C) (p := x) with h | ⟨h, h2⟩
      · exact Or.inl h
      · exact Or.inr ⟨⟨1, by omega, by omega, h⟩, h2⟩
    · rw [if_neg e1]
      by_cases e2 : w = 2
      · rw [if_pos e2]
        rcases unS_k (F := F) (C := C) (i := x) with h | ⟨h | h, h2⟩
        · exact Or.inl h
        · exact Or.inr ⟨⟨1, by omega, by omega, h⟩, h2⟩
        · exact Or.inr ⟨⟨2, by omega, by omega, h⟩, h2⟩
      · rw [if_neg e2]
        by_cases e3 : w = 3
        · rw [if_pos e3]
          rcases ldS_k (F := F) (C := C) (i := x) with h | ⟨h | h, h2⟩
          · exact Or.inl h
          · exact Or.inr ⟨⟨1, by omega, by omega, h⟩, h2⟩
          · exact Or.inr ⟨⟨2, by omega, by omega, h⟩, h2⟩
        · rw [if_neg e3]
          by_cases e4 : w = 4
          · rw [if_pos e4]
            by_cases e5 : x < F 2
            · rw [if_pos e5]
              rcases bdS_k (F := F) (C := C) (j := x) with h | ⟨h | h | h, h2⟩
              · exact Or.inl h
              · exact Or.inr ⟨⟨1, by omega, by omega, h⟩, h2⟩
              · exact Or.inr ⟨⟨2, by omega, by omega, h⟩, h2⟩
              · exact Or.inr ⟨⟨3, by omega, by omega, h⟩, h2⟩
            · rw [if_neg e5]; exact Or.inr ⟨⟨9, by omega, by omega, rfl⟩, rfl⟩
          · rw [if_neg e4]
            by_cases e5 : C 0 + nI x ≤ 400
            · rw [if_pos e5]; exact Or.inl rfl
            · rw [if_neg e5]; exact Or.inr ⟨⟨1, by omega, by omega, rfl⟩, rfl⟩
theorem lS_vc {F : Nat → Nat} (hv : VF F) {C : Nat → Int32} {w x : Nat} (hl : VL F w x) (h : VC F C) : VC F (lS F C w x).2 := by
  obtain ⟨d, hd, ed⟩ := h.1
  unfold lS
  rcases hl with ⟨h1, h2⟩ | ⟨h1, h2⟩ | ⟨h1, h2⟩ | ⟨h1, h2, h3⟩
  · by_cases e0 : w = 0
    · rw [if_pos e0]; exact VC.go hv h
    · rw [if_neg e0, if_pos (by omega)]; exact VC.fr h
  · rw [if_neg (by omega), if_neg (by omega)]
    by_cases e2 : w = 2
    · rw [if_pos e2]; exact VC.un hv h2 h
    · rw [if_neg e2, if_pos (by omega)]; exact VC.ld hv h2 h
  · rw [if_neg (by omega), if_neg (by omega), if_neg (by omega), if_neg (by omega), if_pos h1]
    by_cases e5 : x < F 2
    · rw [if_pos e5]; exact VC.bd hv e5 h
    · rw [if_neg e5]; exact h
  · rw [if_neg (by omega), if_neg (by omega), if_neg (by omega), if_neg (by omega), if_neg (by omega)]
    by_cases e5 : C 0 + nI x ≤ 400
    · rw [if_pos e5]
      rw [ed, nI_add] at e5
      have := (nI_leI (b := 400) (by omega) (by decide)).mp e5
      exact VC.days hv x 0 d C h ed this
    · rw [if_neg e5]; exact h
theorem c_liveLine {R : Rf} {T : Mm} {f : Nat} {F : Nat → Nat} (hF : CF R T f F) (hv : VF F) (hf : 78 < f) (q10 : R 10 4 = 11) {C : Nat → Int32} (hvc : VC F C) {w x : Nat} (hl : VL F w x) : pX0_liveLine R (setC T 10 C) f 10 (nI (w + 5)) (nI x) = some (cdS w (lS F C w x).1, setC T 10 (lS F C w x).2) := by
  obtain ⟨d, hd, ed⟩ := hvc.1
  have v0 := hv.1
  have v1 := hv.2.1
  have v2 := hv.2.2.1
  have hF2 : CF R (setC T 10 C) f F := hF.sC (by omega)
  have hw5 : w ≤ 5 := by rcases hl with h | h | h | h <;> omega
  have hm : ∀ y : Int32, (nI (w + 5) - 5) * 10 + y = y + nI (10 * w) := by
    intro y
    have h1 : nI (w + 5) - 5 = nI w := by
      rw [show (5 : Int32) = nI 5 from rfl, pk_sub (by omega)]
      congr 1
    rw [h1, show (10 : Int32) = nI 10 from rfl, pk_mul, Int32.add_comm, Nat.mul_comm]
  unfold pX0_liveLine pX0_liveLine_30 cdS
  rcases hl with ⟨h1, h2⟩ | ⟨h1, h2⟩ | ⟨h1, h2⟩ | ⟨h1, h2, h3⟩
  · rw [if_neg (fun z => by have := (nI_eq (b := 10) (by omega) (by decide)).mp z; omega), if_neg (fun z => by have := (nI_eq (b := 9) (by omega) (by decide)).mp z; omega)]
    by_cases e0 : w = 0
    · subst e0
      have ha : pX1_attempt R (setC T 10 C) 10 f (nI (0 + 5)) (nI x) = some ((goS F C x).1, setC T 10 (goS F C x).2) := by
        unfold pX1_attempt
        rw [c_letGo hF hv q10 (by omega) h2 C]
        rfl
      have hs : lS F C 0 x = goS F C x := rfl
      rw [ha, bd2_some, hs, hm]
      by_cases y0 : (goS F C x).1 = 0
      · rw [if_pos y0, if_pos y0]
      · rw [if_neg y0, if_neg y0]
    · have e1 : w = 1 := by omega
      subst e1
      have ha : pX1_attempt R (setC T 10 C) 10 f (nI (1 + 5)) (nI x) = some ((frS C x).1, setC T 10 (frS C x).2) := by
        unfold pX1_attempt
        rw [c_letOut q10 (by omega) C]
        rfl
      have hs : lS F C 1 x = frS C x := rfl
      rw [ha, bd2_some, hs, hm]
      by_cases y0 : (frS C x).1 = 0
      · rw [if_pos y0, if_pos y0]
      · rw [if_neg y0, if_neg y0]
  · rw [if_neg (fun z => by have := (nI_eq (b := 10) (by omega) (by decide)).mp z; omega), if_neg (fun z => by have := (nI_eq (b := 9) (by omega) (by decide)).mp z; omega)]
    rcases h1 with h1 | h1
    · subst h1
      have ha : pX1_attempt R (setC T 10 C) 10 f (nI (2 + 5)) (nI x) = some ((unS F C x).1, setC T 10 (unS F C x).2) := by
        unfold pX1_attempt
        rw [c_takeOut hF hv q10 (by omega) h2 C]
        rfl
      have hs : lS F C 2 x = unS F C x := rfl
      rw [ha, bd2_some, hs, hm]
      by_cases y0 : (unS F C x).1 = 0
      · rw [if_pos y0, if_pos y0]
      · rw [if_neg y0, if_neg y0]
    · subst h1
      have ha : pX1_attempt R (setC T 10 C) 10 f (nI (3 + 5)) (nI x) = some ((ldS F C x).1, setC T 10 (ldS F C x).2) := by
        unfold pX1_attempt
        rw [c_putIn hF hv q10 (by omega) h2 C]
        rfl
      have hs : lS F C 3 x = ldS F C x := rfl
      rw [ha, bd2_some, hs, hm]
      by_cases y0 : (ldS F C x).1 = 0
      · rw [if_pos y0, if_pos y0]
      · rw [if_neg y0, if_neg y0]
  · subst h1
    rw [if_neg (show ¬ nI (4 + 5) = 10 by decide), if_pos (show nI (4 + 5) = 9 from rfl), c_hasJo hF2 hv, bd1_some]
    by_cases e5 : x < F 2
    · have ha : pX1_attempt R (setC T 10 C) 10 f (nI (4 + 5)) (nI x) = some ((bdS F C x).1, setC T 10 (bdS F C x).2) := by
        unfold pX1_attempt
        rw [c_makeWhole hF hv q10 (by omega) e5 C]
        rfl
      have hs : lS F C 4 x = bdS F C x := by
        show (if x < F 2 then bdS F C x else (9, C)) = _
        rw [if_pos e5]
      rw [if_pos (show ∃ j, j < F 2 ∧ nI x = nI j from ⟨x, e5, rfl⟩), if10, ha, bd2_some, hs, hm]
      by_cases y0 : (bdS F C x).1 = 0
      · rw [if_pos y0, if_pos y0]
      · rw [if_neg y0, if_neg y0]
    · have hs : lS F C 4 x = (9, C) := by
        show (if x < F 2 then bdS F C x else (9, C)) = _
        rw [if_neg e5]
      rw [if_neg (show ¬ ∃ j, j < F 2 ∧ nI x = nI j from by
        rintro ⟨j, hj, e⟩
        have := (nI_eq (by omega) (by omega)).mp e
        omega), if00, hs]
      rfl
  · subst h1
    rw [if_pos (show nI (5 + 5) = 10 from rfl)]
    have hs : lS F C 5 x = if C 0 + nI x ≤ 400 then (0, daysS F x C) else (1, C) := rfl
    rw [hs]
    have hsum : C 0 + nI x = nI (d + x) := by rw [ed, nI_add]
    rw [hsum]
    by_cases e5 : d + x ≤ 400
    · rw [if_pos (show nI (d + x) ≤ 400 from nI_le (b := 400) e5 (by decide)), c_daysS hF hv q10 (by omega) h3 e5 ed, bd2_some]
      rfl
    · rw [if_neg (show ¬ nI (d + x) ≤ 400 from fun z => e5 ((nI_leI (b := 400) (by omega) (by decide)).mp z))]
      unfold pX0_liveDays
      rw [setC_c (by decide), ed, show (400 : Int32) = nI 400 from rfl, pk_sub (by omega), if_neg (fun z => by have := (nI_leI (by omega) (by omega)).mp z; omega), bd2_some]
      rfl
theorem m_does {R : Rf} {T : Mm} {F : Nat → Nat} (r6 : R 105 6 = 107) (hM : MF T F) (hv : VF F) {C : Nat → Int32} (hvc : VC F C) {w x : Nat} (hl : VL F w x) : pX12_does R (setM T (F 2) C) 105 (nI w) (nI x) = some (cdS w (lS F C w x).1, setM T (F 2) (lS F C w x).2) := by
  obtain ⟨d, hd, ed⟩ := hvc.1
  have v0 := hv.1
  have v1 := hv.2.1
  have v2 := hv.2.2.1
  have hm : ∀ D : Nat → Int32, ∀ k, k < 80 → (setM T (F 2) D).1 107 k = nI (F k) := fun D => hM.sM
  have h218 : ∀ (U : Mm) (y : Int32), (∃ k : Nat, k ≤ 9 ∧ y = nI k) → pX12_does_218 R 105 (nI w) (nI x) U y = some (cdS w y, U) := by
    rintro U y ⟨k, hk, rfl⟩
    unfold pX12_does_218 cdS
    by_cases e : k = 0
    · subst e
      rw [if_pos (by decide), if_pos (show nI 0 = 0 from rfl)]
    · rw [if_neg (nI_nle (by omega) (by omega)), if_neg (nI_ne0 (by omega) (by omega)), show (10 : Int32) = nI 10 from rfl, pk_mul]
  have hnat : ∃ k : Nat, k ≤ 9 ∧ (lS F C w x).1 = nI k := by
    rcases lS_k (F := F) (C := C) (w := w) (x := x) with h | ⟨⟨y, _, h2, h3⟩, _⟩
    · exact ⟨0, by omega, h⟩
    · exact ⟨y, h2, h3⟩
  unfold pX12_does
  rcases hl with ⟨h1, h2⟩ | ⟨h1, h2⟩ | ⟨h1, h2⟩ | ⟨h1, h2, h3⟩
  · by_cases e0 : w = 0
    · subst e0
      have hs : lS F C 0 x = goS F C x := rfl
      rw [hs] at hnat ⊢
      rw [if_pos (show nI 0 = 0 from rfl)]
      simp (disch := omega) only [lt, jn, bd1_some, bd2_some, ix_nI, ix_lit, nI_clamp, lit_clamp, lit_add, add_lit, nI_add, nI_leI, nI_ltI, nI_eq, lit_le, le_lit, lit_lt, lt_lit, lit_eq, eq_lit, if_pos, if_neg, r6, setM_h]
      unfold pX12_does_53 goS at *
      by_cases e : C (4 + x) = 0
      · rw [if_pos e] at hnat
        rw [if_pos e, if00, m_hangsS r6 hM hv h2, bd1_some, h218 _ 0 ⟨0, by omega, rfl⟩, if_pos e]
      · rw [if_neg e, if10, h218 _ 1 ⟨1, by omega, rfl⟩, if_neg e]
    · have e1 : w = 1 := by omega
      subst e1
      have hs : lS F C 1 x = frS C x := rfl
      rw [hs] at hnat ⊢
      rw [if_neg (show ¬ nI 1 = 0 by decide), if_pos (show nI 1 = 1 from rfl)]
      simp (disch := omega) only [lt, jn, bd1_some, bd2_some, ix_nI, ix_lit, nI_clamp, lit_clamp, lit_add, add_lit, nI_add, nI_leI, nI_ltI, nI_eq, lit_le, le_lit, lit_lt, lt_lit, lit_eq, eq_lit, if_pos, if_neg, r6, setM_h]
      unfold pX12_does_84 frS at *
      simp (disch := omega) only [lt, jn, bd1_some, bd2_some, ix_nI, ix_lit, nI_clamp, lit_clamp, lit_add, add_lit, nI_add, nI_leI, nI_ltI, nI_eq, lit_le, le_lit, lit_lt, lt_lit, lit_eq, eq_lit, if_pos, if_neg, r6, setM_wh]
      by_cases e : C (4 + x) = 2
      · rw [if_pos e, if_pos trivial, h218 _ 0 ⟨0, by omega, rfl⟩, if_pos e]
      · rw [if_neg e, if10, h218 _ 1 ⟨1, by omega, rfl⟩, if_neg e]
  · rcases h1 with h1 | h1
    · subst h1
      have hs : lS F C 2 x = unS F C x := rfl
      rw [hs] at hnat ⊢
      rw [if_neg (show ¬ nI 2 = 0 by decide), if_neg (show ¬ nI 2 = 1 by decide), if_pos (show nI 2 = 2 from rfl), m_whyUnloadS r6 hM hv h2, bd1_some, m_takesOutS r6 hM hv h2]
      by_cases y0 : (unS F C x).1 = 0
      · rw [if_pos y0, bd1_some, h218 _ _ hnat]
        unfold unS at y0 ⊢
        by_cases z1 : bt (C 1) x = false
        · rw [if_pos z1] at y0; exact absurd y0 n10
        · rw [if_neg z1] at y0 ⊢
          by_cases z2 : C (4 + F (12 + x)) < 2
          · rw [if_pos z2]
          · rw [if_neg z2] at y0; exact absurd y0 n20
      · rw [if_neg y0, h218 _ _ hnat]
        rcases unS_k (F := F) (C := C) (i := x) with h | ⟨_, h⟩
        · exact absurd h y0
        · rw [h]
    · subst h1
      have hs : lS F C 3 x = ldS F C x := rfl
      rw [hs] at hnat ⊢
      rw [if_neg (show ¬ nI 3 = 0 by decide), if_neg (show ¬ nI 3 = 1 by decide), if_neg (show ¬ nI 3 = 2 by decide), if_pos (show nI 3 = 3 from rfl), m_whyLoadS r6 hM hv h2, bd1_some]
      simp (disch := omega) only [lt, jn, bd1_some, bd2_some, ix_nI, ix_lit, nI_clamp, lit_clamp, lit_add, add_lit, nI_add, nI_leI, nI_ltI, nI_eq, lit_le, le_lit, lit_lt, lt_lit, lit_eq, eq_lit, if_pos, if_neg, r6, setM_1, setM_w1]
      by_cases y0 : (ldS F C x).1 = 0
      · rw [if_pos y0, h218 _ _ hnat]
        unfold ldS at y0 ⊢
        by_cases z1 : bt (C 1) x = false
        · rw [if_pos z1] at y0 ⊢
          by_cases z2 : C (4 + F (12 + x)) = 0
          · rw [if_pos z2]
          · rw [if_neg z2] at y0; exact absurd y0 n20
        · rw [if_neg z1] at y0; exact absurd y0 n10
      · rw [if_neg y0, h218 _ _ hnat]
        rcases ldS_k (F := F) (C := C) (i := x) with h | ⟨_, h⟩
        · exact absurd h y0
        · rw [h]
  · subst h1
    rw [if_neg (show ¬ nI 4 = 0 by decide), if_neg (show ¬ nI 4 = 1 by decide), if_neg (show ¬ nI 4 = 2 by decide), if_neg (show ¬ nI 4 = 3 by decide), if_pos (show nI 4 = 4 from rfl)]
    unfold pX12_does_166
    simp (disch := omega) only [lt, jn, bd1_some, bd2_some, ix_nI, ix_lit, nI_clamp, lit_clamp, lit_add, add_lit, nI_add, nI_leI, nI_ltI, nI_eq, lit_le, le_lit, lit_lt, lt_lit, lit_eq, eq_lit, if_pos, if_neg, r6, hm, setM_2]
    by_cases e5 : x < F 2
    · have hs : lS F C 4 x = bdS F C x := by
        show (if x < F 2 then bdS F C x else (9, C)) = _
        rw [if_pos e5]
      rw [hs] at hnat ⊢
      rw [if_pos e5, m_whyBindS r6 hM hv e5, bd1_some]
      by_cases y0 : (bdS F C x).1 = 0
      · rw [if_pos y0, h218 _ _ hnat, setM_w2 (C 2 &&& (((1 : Int32) <<< (nI x &&& 31)) ^^^ (-1 : Int32))) (wh_clr (by omega) e5)]
        unfold bdS at y0 ⊢
        by_cases z1 : bt (C 2) x = false
        · rw [if_pos z1] at y0; exact absurd y0 n10
        · rw [if_neg z1] at y0 ⊢
          by_cases z2 : bt (C 1) (F (32 + x)) = false
          · rw [if_pos z2] at y0; exact absurd y0 n20
          · rw [if_neg z2] at y0 ⊢
            by_cases z3 : bt (C 1) (F (48 + x)) = false
            · rw [if_pos z3] at y0; exact absurd y0 n20
            · rw [if_neg z3] at y0 ⊢
              by_cases z4 : C (4 + F (12 + F (32 + x))) = 0
              · rw [if_pos z4]
              · rw [if_neg z4] at y0; exact absurd y0 n30
      · rw [if_neg y0, h218 _ _ hnat]
        rcases bdS_k (F := F) (C := C) (j := x) with h | ⟨_, h⟩
        · exact absurd h y0
        · rw [h]
    · have hs : lS F C 4 x = (9, C) := by
        show (if x < F 2 then bdS F C x else (9, C)) = _
        rw [if_neg e5]
      rw [if_neg e5, hs, if_neg (show ¬ (9 : Int32) = 0 by decide), h218 _ 9 ⟨9, by omega, rfl⟩]
  · subst h1
    have hs : lS F C 5 x = if C 0 + nI x ≤ 400 then (0, daysS F x C) else (1, C) := rfl
    rw [hs]
    have hsum : C 0 + nI x = nI (d + x) := by rw [ed, nI_add]
    rw [hsum, if_neg (show ¬ nI 5 = 0 by decide), if_neg (show ¬ nI 5 = 1 by decide), if_neg (show ¬ nI 5 = 2 by decide), if_neg (show ¬ nI 5 = 3 by decide), if_neg (show ¬ nI 5 = 4 by decide)]
    unfold pX12_does_207
    simp (disch := omega) only [lt, jn, bd1_some, bd2_some, ix_nI, ix_lit, nI_clamp, lit_clamp, lit_add, add_lit, nI_add, nI_leI, nI_ltI, nI_eq, lit_le, le_lit, lit_lt, lt_lit, lit_eq, eq_lit, if_pos, if_neg, r6, setM_0, hsum]
    by_cases e5 : d + x ≤ 400
    · have hg := m_goesOnS r6 hM hv h3 hd ed
      rw [show min x (400 - d) = x by omega] at hg
      rw [if_pos e5, if_pos trivial, hg, bd2_some, h218 _ 0 ⟨0, by omega, rfl⟩, if_pos e5]
    · rw [if_neg e5, if10, h218 _ 1 ⟨1, by omega, rfl⟩, if_neg e5]
