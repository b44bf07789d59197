/-! Tape.begin: all TOKENS read ahead -/
def XC (T : Mm) (b : Nat → Nat) (L : Nat) : Prop := L ≤ 940 ∧ T.1 1 1 = nI L ∧ (∀ k, k < L → b k < 256 ∧ T.1 2 k = nI (b k)) ∧ ∀ k, k < 24 → T.2 7 k = w5 (kwk k)
def RT (R : Rf) : Prop := R 1 0 = 2 ∧ R 1 7 = 3 ∧ R 1 8 = 4 ∧ R 1 9 = 5 ∧ R 1 10 = 6 ∧ R 1 11 = 7
/-- what reading may touch of the class's tape -/
def FY (T V : Mm) : Prop := (∀ a, a ≠ 1 → a ≠ 3 → a ≠ 4 → a ≠ 5 → V.1 a = T.1 a) ∧ (∀ a, a ≠ 6 → V.2 a = T.2 a) ∧ V.1 1 1 = T.1 1 1
theorem FY.refl {T : Mm} : FY T T := ⟨fun _ _ _ _ _ => rfl, fun _ _ => rfl, rfl⟩
theorem FY.trans {T U V : Mm} (h : FY T U) (h' : FY U V) : FY T V := ⟨fun a h1 h2 h3 h4 => (h'.1 a h1 h2 h3 h4).trans (h.1 a h1 h2 h3 h4), fun a ha => (h'.2.1 a ha).trans (h.2.1 a ha), h'.2.2.trans h.2.2⟩
theorem FY.w1 {T : Mm} {k : Nat} {v : Int32} (hk : k ≠ 1) : FY T (wI T 1 k v) := ⟨fun a h _ _ _ => by rw [wI_1, up2_row h], fun _ _ => rfl, wI_n (Or.inr (fun z => hk z.symm))⟩
theorem FY.w {T : Mm} {a k : Nat} {v : Int32} (ha : a = 3 ∨ a = 4 ∨ a = 5) : FY T (wI T a k v) := ⟨fun c _ h3 h4 h5 => by rw [wI_1, up2_row (by omega)], fun _ _ => rfl, wI_n (Or.inl (by omega))⟩
theorem FY.j {T : Mm} {k : Nat} {v : Int64} : FY T (wJ T 6 k v) := ⟨fun _ _ _ _ _ => rfl, fun a h => by rw [wJ_2, up2_row h], rfl⟩
theorem XC.fy {T V : Mm} {b : Nat → Nat} {L : Nat} (h : XC T b L) (f : FY T V) : XC V b L := by
  obtain ⟨h1, h2, h3, h4⟩ := h
  exact ⟨h1, by rw [f.2.2, h2], fun k hk => by rw [f.1 2 (by decide) (by decide) (by decide) (by decide)]; exact h3 k hk, fun k hk => by rw [f.2.1 7 (by decide)]; exact h4 k hk⟩
def adS (T : Mm) (t : Nat) (k s v : Int32) (j : Int64) : Mm := wI (wJ (wI (wI (wI T 3 t k) 4 t s) 5 t v) 6 t j) 1 5 (nI (t + 1))
theorem c_add {R : Rf} {T : Mm} {t : Nat} (hR : RT R) (ht : t ≤ 940) (h : T.1 1 5 = nI t) (k s v : Int32) (j : Int64) : pX10_add R T 1 k s v j = some (adS T t k s v j) := by
  obtain ⟨q0, q7, q8, q9, q10, q11⟩ := hR
  unfold pX10_add adS
  have e1 : (wI T 3 t k).1 1 5 = nI t := by rw [wI_n (Or.inl (by decide)), h]
  have e2 : (wI (wI T 3 t k) 4 t s).1 1 5 = nI t := by rw [wI_n (Or.inl (by decide)), e1]
  have e3 : (wI (wI (wI T 3 t k) 4 t s) 5 t v).1 1 5 = nI t := by rw [wI_n (Or.inl (by decide)), e2]
  rw [h, if_neg (show ¬ (940 : Int32) < nI t from nI_nlt (a := 940) ht (by decide)), ix_nI (by omega) (by decide), nI_clamp (by omega), q7]
  simp only [lt]
  rw [e1, ix_nI (by omega) (by decide), nI_clamp (by omega), q8]
  rw [e2, ix_nI (by omega) (by decide), nI_clamp (by omega), q9]
  rw [e3, ix_nI (by omega) (by decide), nI_clamp (by omega), q10]
  rw [wJ_1, e3, nI_1]
theorem adS_fy {T : Mm} {t : Nat} {k s v : Int32} {j : Int64} : FY T (adS T t k s v j) := ((((FY.w (Or.inl rfl)).trans (FY.w (Or.inr (Or.inl rfl)))).trans (FY.w (Or.inr (Or.inr rfl)))).trans FY.j).trans (FY.w1 (by decide))
theorem adS_5 {T : Mm} {t : Nat} {k s v : Int32} {j : Int64} : (adS T t k s v j).1 1 5 = nI (t + 1) := wI_s
theorem adS_1 {T : Mm} {t i : Nat} {k s v : Int32} {j : Int64} (h : i ≠ 5) : (adS T t k s v j).1 1 i = T.1 1 i := by
  unfold adS
  rw [wI_n (Or.inr h), wJ_1, wI_n (Or.inl (by decide)), wI_n (Or.inl (by decide)), wI_n (Or.inl (by decide))]
theorem adS_t {T : Mm} {t : Nat} {k s v : Int32} {j : Int64} : (adS T t k s v j).1 3 t = k ∧ (adS T t k s v j).1 4 t = s ∧ (adS T t k s v j).1 5 t = v ∧ (adS T t k s v j).2 6 t = j := by
  unfold adS
  refine ⟨?_, ?_, ?_, ?_⟩
  · rw [wI_n (Or.inl (by decide)), wJ_1, wI_n (Or.inl (by decide)), wI_n (Or.inl (by decide)), wI_s]
  · rw [wI_n (Or.inl (by decide)), wJ_1, wI_n (Or.inl (by decide)), wI_s]
  · rw [wI_n (Or.inl (by decide)), wJ_1, wI_s]
  · exact wJ_s
theorem adS_n {T : Mm} {t u : Nat} {k s v : Int32} {j : Int64} (h : u ≠ t) : (adS T t k s v j).1 3 u = T.1 3 u ∧ (adS T t k s v j).1 4 u = T.1 4 u ∧ (adS T t k s v j).1 5 u = T.1 5 u ∧ (adS T t k s v j).2 6 u = T.2 6 u := by
  unfold adS
  refine ⟨?_, ?_, ?_, ?_⟩
  · rw [wI_n (Or.inl (by decide)), wJ_1, wI_n (Or.inl (by decide)), wI_n (Or.inl (by decide)), wI_n (Or.inr h)]
  · rw [wI_n (Or.inl (by decide)), wJ_1, wI_n (Or.inl (by decide)), wI_n (Or.inr h), wI_n (Or.inl (by decide))]
  · rw [wI_n (Or.inl (by decide)), wJ_1, wI_n (Or.inr h), wI_n (Or.inl (by decide)), wI_n (Or.inl (by decide))]
  · exact wJ_n (Or.inr h)
/-- the class's t-th TOKEN is the one at s -/
def CTk (T : Mm) (b : Nat → Nat) (L s t : Nat) : Prop := T.1 3 t = nI (tkK b L s) ∧ T.1 4 t = nI s ∧ (tkK b L s = 2 ∨ tkK b L s = 4 ∨ tkK b L s = 5 → T.1 5 t = nI (tkV b L s)) ∧ (tkK b L s = 3 ∨ tkK b L s = 4 → T.2 6 t = w5 (tkW b L s))
theorem c_isSmallN {R : Rf} {T : Mm} {c : Nat} (hc : c < 256) : pX10_isSmall R T (nI c) = some (if smB c = true then 1 else 0) := by
  unfold pX10_isSmall smB
  simp (disch := omega) only [lt, jn, bd1_some, bd2_some, ix_nI, ix_lit, nI_clamp, lit_clamp, lit_add, add_lit, nI_add, nI_leI, nI_ltI, nI_eq, lit_le, le_lit, lit_lt, lt_lit, lit_eq, eq_lit, if_pos, if_neg]
  by_cases e1 : c < 97
  · rw [if_pos e1, if_neg]
    simp
    omega
  · rw [if_neg e1]
    by_cases e2 : 122 < c
    · rw [if_pos e2, if_neg]
      simp
      omega
    · rw [if_neg e2, if_pos]
      simp
      omega
theorem c_isDigitN {R : Rf} {T : Mm} {c : Nat} (hc : c < 256) : pX10_isDigit R T (nI c) = some (if dgB c = true then 1 else 0) := by
  unfold pX10_isDigit dgB
  simp (disch := omega) only [lt, jn, bd1_some, bd2_some, ix_nI, ix_lit, nI_clamp, lit_clamp, lit_add, add_lit, nI_add, nI_leI, nI_ltI, nI_eq, lit_le, le_lit, lit_lt, lt_lit, lit_eq, eq_lit, if_pos, if_neg]
  by_cases e1 : c < 48
  · rw [if_pos e1, if_neg]
    simp
    omega
  · rw [if_neg e1]
    by_cases e2 : 57 < c
    · rw [if_pos e2, if_neg]
      simp
      omega
    · rw [if_neg e2, if_pos]
      simp
      omega
theorem cmp_eq {a b : Int64} : lg_cmp a b = 0 ↔ a = b := by
  unfold lg_cmp
  by_cases h1 : b < a
  · rw [if_pos h1]
    exact ⟨fun z => absurd z (by decide), fun z => by subst z; exact (Int64.lt_irrefl h1).elim⟩
  · rw [if_neg h1]
    by_cases h2 : a = b
    · rw [if_pos h2]; exact ⟨fun _ => h2, fun _ => rfl⟩
    · rw [if_neg h2]; exact ⟨fun z => absurd z (by decide), fun z => absurd z h2⟩
theorem c_keywordOf {R : Rf} {T : Mm} (hR : RT R) (hk : ∀ k, k < 24 → T.2 7 k = w5 (kwk k)) {w : List Nat} (hw : IW w) : pX10_keywordOf R T 1 (w5 w) = some (oI (kwS w)) := by
  obtain ⟨q0, q7, q8, q9, q10, q11⟩ := hR
  unfold pX10_keywordOf kwS
  have key := zl1_seek (f := pX10_keywordOf_2 R T 1 (w5 w) (pX10_keywordOf_19 R T 1 (w5 w)) (pX10_keywordOf_27 R T 1 (w5 w))) (fun k => decide (kwk k = w)) (fun k => some (nI k)) (some (-1)) (n := 24) 0 (by omega) (by omega) ?_ ?_
  · rw [show (0 : Int32) = nI 0 from rfl, key]
    show (fst (fun k => decide (kwk k = w)) 0 24).elim _ _ = _
    cases fst (fun k => decide (kwk k = w)) 0 24 <;> rfl
  · intro r k _ hk24
    unfold pX10_keywordOf_2 pX10_keywordOf_19
    rw [if_neg (show ¬ (24 : Int32) ≤ nI k from nI_ge (b := 24) hk24 (by decide)), ix_nI hk24 (by decide), nI_clamp (by omega), q11, hk k hk24]
    simp only [lt, nI_1]
    by_cases e : kwk k = w
    · rw [if_pos (cmp_eq.mpr ((w5_inj (kwk_w hk24) hw).mpr e)), if_pos (decide_eq_true e)]
    · rw [if_neg (fun z => e ((w5_inj (kwk_w hk24) hw).mp (cmp_eq.mp z))), if_neg (fun z => e (of_decide_eq_true z))]
  · intro r
    unfold pX10_keywordOf_2 pX10_keywordOf_27
    rw [if_pos (by decide)]
theorem w5_long {w : List Nat} {c : Nat} (hc : 97 ≤ c ∧ c ≤ 122) (h : enB 32 96 w < 2 ^ 40) : (lN (enB 32 96 w) <<< ((5 : Int32).toInt64 &&& 63)) ||| ((nI c - 97) + 1).toInt64 = lN (enB 32 96 (w ++ [c])) := by
  have h1 : (nI c - 97) + 1 = nI (c - 96) := by
    rw [show (97 : Int32) = nI 97 from rfl, pk_sub hc.1, nI_1]
    congr 1
    omega
  rw [h1, enB_snoc, show (5 : Int32) = nI 5 from rfl, wb_shl _ (by decide), nI_l (by omega)]
  exact g_or (k := 5) (by decide) (by omega) (by omega)
