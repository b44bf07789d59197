/-! a SENTENCE: the reference's nots and joins -/
def cnS : List Nat → Nat
  | [] => 0
  | x :: o => (if x = 20 ∨ x = 23 then 1 else 0) + cnS o
theorem cnS_y {x : Nat} {o : List Nat} (h : x = 20 ∨ x = 23) : cnS (x :: o) = 1 + cnS o := by
  show (if x = 20 ∨ x = 23 then 1 else 0) + cnS o = _
  rw [if_pos h]
theorem cnS_n {x : Nat} {o : List Nat} (h : ¬ (x = 20 ∨ x = 23)) : cnS (x :: o) = cnS o := by
  show (if x = 20 ∨ x = 23 then 1 else 0) + cnS o = _
  rw [if_neg h, Nat.zero_add]
theorem ntS_len : ∀ (o : List Nat) (c : Cod) (d : Nat), d = 1 + cnS o → (ntS o c d).1.length + (ntS o c d).2.1.length = o.length + c.length ∧ (ntS o c d).2.2 = 1 + cnS (ntS o c d).1
  | [], c, d, h => ⟨rfl, h⟩
  | x :: o, c, d, h => by
    by_cases e : x = 20
    · subst e
      rw [ntS_20]
      rw [cnS_y (Or.inl rfl)] at h
      obtain ⟨h1, h2⟩ := ntS_len o ((20, 0, 0) :: c) (d - 1) (by omega)
      refine ⟨?_, h2⟩
      rw [h1]
      simp only [List.length_cons]
      omega
    · rw [ntS_no e]
      exact ⟨rfl, h⟩
theorem joS_len {m : Nat} : ∀ (o : List Nat) (c : Cod), (joS m o c).1.length + (joS m o c).2.length = o.length + c.length ∧ cnS (joS m o c).1 = cnS o
  | [], c => ⟨rfl, rfl⟩
  | x :: o, c => by
    by_cases e : x = 21 ∨ (x = 22 ∧ m = 22)
    · rw [joS_y e, cnS_n (by omega)]
      obtain ⟨h1, h2⟩ := joS_len o ((x, 0, 0) :: c)
      refine ⟨?_, h2⟩
      rw [h1]
      simp only [List.length_cons]
      omega
    · rw [joS_n e]
      exact ⟨rfl, rfl⟩
theorem nI_m1 {n : Nat} (h : 1 ≤ n) : nI n - 1 = nI (n - 1) := pk_sub (b := 1) h
theorem SM.pop {T : Mm} {x : Nat} {o : List Nat} {c : Cod} {ones d : Nat} (h : SM T (x :: o) c ones d) : SM (wI T 105 43 (nI o.length)) o c ones d := by
  obtain ⟨h43, ⟨hx, hx', hO⟩, h41, hC, h42, h44⟩ := h
  exact ⟨wI_s, hO.of (fun k _ => wI_n (Or.inl (by decide))), (wI_n (Or.inr (by decide))).trans h41, hC.of (fun k _ => wI_n (Or.inl (by decide))), (wI_n (Or.inr (by decide))).trans h42, (wI_n (Or.inr (by decide))).trans h44⟩
theorem SM.deep {T : Mm} {o : List Nat} {c : Cod} {ones d e : Nat} (h : SM T o c ones d) : SM (wI T 105 44 (nI e)) o c ones e := by
  obtain ⟨h43, hO, h41, hC, h42, h44⟩ := h
  exact ⟨(wI_n (Or.inr (by decide))).trans h43, hO.of (fun k _ => wI_n (Or.inl (by decide))), (wI_n (Or.inr (by decide))).trans h41, hC.of (fun k _ => wI_n (Or.inl (by decide))), (wI_n (Or.inr (by decide))).trans h42, wI_s⟩
theorem m_nots0 {R : Rf} {b : Nat → Nat} {L M t ones : Nat} (r8 : R 105 8 = 109) (r40 : R 105 40 = 119) : ∀ (o : List Nat) (fuel : Nat) (T : Mm) (c : Cod) (d : Nat), CuM T b L M t → SM T o c ones d → o.length + c.length ≤ 40 → d = 1 + cnS o → o.length < fuel → ∃ V, zl1 (pX12_nots_0 R 105 (pX12_nots_54 R 105)) fuel T = some V ∧ SM V (ntS o c d).1 (ntS o c d).2.1 ones (ntS o c d).2.2 ∧ CuM V b L M t ∧ FG T V ∧ V.1 105 15 = T.1 105 15 ∧ V.1 105 45 = T.1 105 45 := by
  intro o
  induction o with
  | nil =>
    intro fuel T c d hc h _ _ hf
    cases fuel with
    | zero => exact absurd hf (Nat.not_lt_zero _)
    | succ fuel =>
      refine ⟨T, ?_, h, hc, FG.refl, rfl, rfl⟩
      rw [zl1_s]
      unfold pX12_nots_0 pX12_nots_54
      rw [h.1, if_pos (show nI ([] : List Nat).length ≤ 0 by decide)]
  | cons x o ih =>
    intro fuel T c d hc h hl hd hf
    cases fuel with
    | zero => exact absurd hf (Nat.not_lt_zero _)
    | succ fuel =>
      obtain ⟨h43, ⟨hx, hx', hO⟩, h41, hC, h42, h44⟩ := id h
      simp only [List.length_cons] at hl hf h43
      have e1 : nI (o.length + 1) - 1 = nI o.length := nI_m1 (by omega)
      rw [zl1_s]
      have ihf := ih fuel
      generalize zl1 (pX12_nots_0 R 105 (pX12_nots_54 R 105)) fuel = rr at ihf ⊢
      unfold pX12_nots_0
      rw [h43, if_neg (show ¬ nI (o.length + 1) ≤ 0 from fun z => by have := (nI_leI (b := 0) (by omega) (by omega)).mp z; omega), e1, ix_nI (by omega) (by decide), nI_clamp (by omega), r40, hx]
      by_cases e : x = 20
      · subst e
        rw [cnS_y (Or.inl rfl)] at hd
        rw [if_pos (show nI 20 = 20 from rfl), ntS_20]
        simp only [lt]
        rw [wI_n (Or.inr (by decide)), h44, nI_m1 (by omega)]
        obtain ⟨V, v1, v2, v3, v4, v5, v6⟩ := m_code (R := R) (a := 20) (x := 0) (v := 0) (w := 20) (y := 0) (z := 0) r8 ((hc.w6 (k := 43) (v := nI o.length) (by omega)).w6 (k := 44) (v := nI (d - 1)) (by omega)) h.pop.deep (by omega) rfl rfl rfl
        rw [v1, bd1_some]
        obtain ⟨V', w1, w2, w3, w4, w5, w6⟩ := ihf V ((20, 0, 0) :: c) (d - 1) v3 v2 (by simp only [List.length_cons]; omega) (by omega) (by omega)
        exact ⟨V', w1, w2, w3, ((FG.refl.w (by omega)).w (by omega)).trans (v4.trans w4), by rw [w5, v5, wI_n (Or.inr (by decide)), wI_n (Or.inr (by decide))], by rw [w6, v6, wI_n (Or.inr (by decide)), wI_n (Or.inr (by decide))]⟩
      · rw [if_neg (show ¬ nI x = 20 from fun z => e ((nI_eq (b := 20) (by omega) (by omega)).mp z)), ntS_no e]
        exact ⟨T, rfl, h, hc, FG.refl, rfl, rfl⟩
theorem m_joins0 {R : Rf} {b : Nat → Nat} {L M t ones d m : Nat} (r8 : R 105 8 = 109) (r40 : R 105 40 = 119) (hm : m < 100) : ∀ (o : List Nat) (fuel : Nat) (T : Mm) (c : Cod), CuM T b L M t → SM T o c ones d → o.length + c.length ≤ 40 → o.length < fuel → ∃ V, zl1 (pX12_joins_0 R 105 (nI m) (pX12_joins_73 R 105 (nI m))) fuel T = some V ∧ SM V (joS m o c).1 (joS m o c).2 ones d ∧ CuM V b L M t ∧ FG T V ∧ V.1 105 15 = T.1 105 15 ∧ V.1 105 45 = T.1 105 45 := by
  intro o
  induction o with
  | nil =>
    intro fuel T c hc h _ hf
    cases fuel with
    | zero => exact absurd hf (Nat.not_lt_zero _)
    | succ fuel =>
      refine ⟨T, ?_, h, hc, FG.refl, rfl, rfl⟩
      rw [zl1_s]
      unfold pX12_joins_0 pX12_joins_73
      rw [h.1, if_pos (show nI ([] : List Nat).length ≤ 0 by decide)]
  | cons x o ih =>
    intro fuel T c hc h hl hf
    cases fuel with
    | zero => exact absurd hf (Nat.not_lt_zero _)
    | succ fuel =>
      obtain ⟨h43, ⟨hx, hx', hO⟩, h41, hC, h42, h44⟩ := id h
      simp only [List.length_cons] at hl hf h43
      have e1 : nI (o.length + 1) - 1 = nI o.length := nI_m1 (by omega)
      rw [zl1_s]
      have ihf := ih fuel
      generalize zl1 (pX12_joins_0 R 105 (nI m) (pX12_joins_73 R 105 (nI m))) fuel = rr at ihf ⊢
      have go : ∀ e73, x = 21 ∨ (x = 22 ∧ m = 22) → ∃ V, pX12_joins_45 R 105 (nI m) rr e73 T = some V ∧ SM V (joS m (x :: o) c).1 (joS m (x :: o) c).2 ones d ∧ CuM V b L M t ∧ FG T V ∧ V.1 105 15 = T.1 105 15 ∧ V.1 105 45 = T.1 105 45 := by
        intro e73 e
        unfold pX12_joins_45
        simp only [lt]
        rw [wI_s, h43, e1, ix_nI (by omega) (by decide), nI_clamp (by omega), r40, wI_n (Or.inl (by decide)), hx, joS_y e]
        obtain ⟨V, v1, v2, v3, v4, v5, v6⟩ := m_code (R := R) (a := x) (x := 0) (v := 0) (w := nI x) (y := 0) (z := 0) r8 (hc.w6 (k := 43) (v := nI o.length) (by omega)) h.pop (by omega) rfl rfl rfl
        rw [v1, bd1_some]
        obtain ⟨V', w1, w2, w3, w4, w5, w6⟩ := ihf V ((x, 0, 0) :: c) v3 v2 (by simp only [List.length_cons]; omega) (by omega)
        exact ⟨V', w1, w2, w3, (FG.refl.w (by omega)).trans (v4.trans w4), by rw [w5, v5, wI_n (Or.inr (by decide))], by rw [w6, v6, wI_n (Or.inr (by decide))]⟩
      unfold pX12_joins_0
      rw [h43, if_neg (show ¬ nI (o.length + 1) ≤ 0 from fun z => by have := (nI_leI (b := 0) (by omega) (by omega)).mp z; omega), e1, ix_nI (by omega) (by decide), ix_nI (by omega) (by decide), nI_clamp (by omega), r40, hx]
      by_cases e : x = 21
      · rw [if_pos (show nI x = 21 by rw [e]; rfl)]
        exact go _ (Or.inl e)
      · rw [if_neg (show ¬ nI x = 21 from fun z => e ((nI_eq (b := 21) (by omega) (by omega)).mp z))]
        by_cases e' : x = 22
        · rw [if_pos (show nI x = 22 by rw [e']; rfl)]
          by_cases e'' : m = 22
          · rw [if_pos (show nI m = 22 by rw [e'']; rfl)]
            exact go _ (Or.inr ⟨e', e''⟩)
          · rw [if_neg (show ¬ nI m = 22 from fun z => e'' ((nI_eq (b := 22) (by omega) (by omega)).mp z)), joS_n (by omega)]
            exact ⟨T, rfl, h, hc, FG.refl, rfl, rfl⟩
        · rw [if_neg (show ¬ nI x = 22 from fun z => e' ((nI_eq (b := 22) (by omega) (by omega)).mp z)), joS_n (by omega)]
          exact ⟨T, rfl, h, hc, FG.refl, rfl, rfl⟩
theorem m_notsS {R : Rf} {T : Mm} {b : Nat → Nat} {L M t ones d : Nat} {o : List Nat} {c : Cod} (hr : RM R) (hc : CuM T b L M t) (h : SM T o c ones d) (hl : o.length + c.length ≤ 40) (hd : d = 1 + cnS o) : ∃ V, pX12_nots R T 105 = some V ∧ SM V (ntS o c d).1 (ntS o c d).2.1 ones (ntS o c d).2.2 ∧ CuM V b L M t ∧ FG T V ∧ V.1 105 15 = T.1 105 15 ∧ V.1 105 45 = T.1 105 45 :=
  m_nots0 hr.2.2.2.1 hr.2.2.2.2.2.2.2.2.2.2.2.2.2.1 o FU T c d hc h hl hd (by rw [FU_eq]; omega)
theorem m_joinsS {R : Rf} {T : Mm} {b : Nat → Nat} {L M t ones d m : Nat} {x : Int32} {o : List Nat} {c : Cod} (hr : RM R) (hc : CuM T b L M t) (h : SM T o c ones d) (hl : o.length + c.length ≤ 40) (hm : m < 100) (ex : x = nI m) : ∃ V, pX12_joins R T 105 x = some V ∧ SM V (joS m o c).1 (joS m o c).2 ones d ∧ CuM V b L M t ∧ FG T V ∧ V.1 105 15 = T.1 105 15 ∧ V.1 105 45 = T.1 105 45 := by
  subst ex
  exact m_joins0 hr.2.2.2.1 hr.2.2.2.2.2.2.2.2.2.2.2.2.2.1 hm o FU T c hc h hl (by rw [FU_eq]; omega)
