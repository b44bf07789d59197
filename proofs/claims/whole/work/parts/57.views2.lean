/-! what both programs hold, as one view each -/
def CC (T : Mm) (c : Nat) (C : Nat → Int32) : Prop := (∀ k, k < 4 → T.1 c k = C k) ∧ ∀ k, k < 5 → T.1 (c + 1) k = C (4 + k)
theorem CC.self {T : Mm} {c : Nat} {C : Nat → Int32} (h : CC T c C) : setC T c C = T := by
  unfold setC
  refine Prod.ext ?_ rfl
  funext a k
  by_cases h1 : a = c
  · subst h1
    by_cases h2 : k < 4
    · simp [h2, h.1 k h2]
    · simp [h2]
  · by_cases h3 : a = c + 1
    · subst h3
      by_cases h4 : k < 5
      · simp [h4, h.2 k h4]
      · simp [h4]
    · simp [h1, h3]
theorem CC.sC {T : Mm} {c : Nat} {C : Nat → Int32} : CC (setC T c C) c C := ⟨fun _ h => setC_c h, fun _ h => setC_h h⟩
theorem CC.of {T T' : Mm} {c : Nat} {C : Nat → Int32} (h : CC T c C) (e : T'.1 c = T.1 c) (e' : T'.1 (c + 1) = T.1 (c + 1)) : CC T' c C := ⟨fun k hk => by rw [e, h.1 k hk], fun k hk => by rw [e', h.2 k hk]⟩
def MC (T : Mm) (n : Nat) (C : Nat → Int32) : Prop := T.1 107 80 = C 0 ∧ T.1 107 81 = C 1 ∧ T.1 107 82 = wh n (C 2) ∧ T.1 107 83 = C 3 ∧ ∀ p, p < 5 → T.1 107 (84 + p) = C (4 + p)
theorem MC.self {T : Mm} {n : Nat} {C : Nat → Int32} (h : MC T n C) : setM T n C = T := by
  obtain ⟨h0, h1, h2, h3, h4⟩ := h
  unfold setM
  refine Prod.ext ?_ rfl
  funext a k
  dsimp only
  by_cases e : a = 107 ∧ 80 ≤ k ∧ k < 89
  · obtain ⟨rfl, e1, e2⟩ := e
    simp only [e1, e2, and_self, if_true]
    by_cases z : 84 ≤ k
    · have := h4 (k - 84) (by omega)
      rw [show 84 + (k - 84) = k by omega] at this
      rw [if_neg (by omega), this]
      congr 1
      omega
    · have : k = 80 ∨ k = 81 ∨ k = 82 ∨ k = 83 := by omega
      rcases this with rfl | rfl | rfl | rfl
      · simp [h0]
      · simp [h1]
      · simp [h2]
      · simp [h3]
  · rw [if_neg e]
theorem MC.sM {T : Mm} {n : Nat} {C : Nat → Int32} : MC (setM T n C) n C := ⟨setM_0, setM_1, setM_2, setM_3, fun _ h => setM_h h⟩
theorem MC.of {T T' : Mm} {n : Nat} {C : Nat → Int32} (h : MC T n C) (e : ∀ k, 80 ≤ k → k < 89 → T'.1 107 k = T.1 107 k) : MC T' n C := by
  obtain ⟨h0, h1, h2, h3, h4⟩ := h
  refine ⟨?_, ?_, ?_, ?_, fun p hp => ?_⟩
  · rw [e 80 (by omega) (by omega), h0]
  · rw [e 81 (by omega) (by omega), h1]
  · rw [e 82 (by omega) (by omega), h2]
  · rw [e 83 (by omega) (by omega), h3]
  · rw [e (84 + p) (by omega) (by omega), h4 p hp]
/-- a course that can be -/
def VC (F : Nat → Nat) (C : Nat → Int32) : Prop := (∃ d, d ≤ 400 ∧ C 0 = nI d) ∧ (∀ i, bt (C 1) i = true → i < F 1) ∧ (∀ j, bt (C 2) j = true → j < F 2) ∧ (∀ p, p < 5 → C (4 + p) = 0 ∨ C (4 + p) = 1 ∨ C (4 + p) = 2 ∨ C (4 + p) = 3) ∧ ∀ j, j < F 2 → bt (C 2) j = false → bt (C 1) (F (32 + j)) = true ∧ bt (C 1) (F (48 + j)) = true
theorem c_hasP {R : Rf} {T : Mm} {f : Nat} {F : Nat → Nat} (hF : CF R T f F) (hv : VF F) (x : Int32) : pX3_hasPerson R T f x = some (if ∃ j, j < F 0 ∧ x = nI j then 1 else 0) := c_hasPerson hF.2.1 (by have := hv.1; omega) x
theorem c_hasIt {R : Rf} {T : Mm} {f : Nat} {F : Nat → Nat} (hF : CF R T f F) (hv : VF F) (x : Int32) : pX3_hasItem R T f x = some (if ∃ j, j < F 1 ∧ x = nI j then 1 else 0) := by
  have hb : F 1 < 2 ^ 31 := by have := hv.2.1; omega
  unfold pX3_hasItem
  rw [hF.2.2.1]
  rcases pk_ix x hb with h | h | ⟨j, hj, rfl⟩
  · rw [if_pos h, if_neg (by rintro ⟨j, hj, rfl⟩; exact nI_pos (by omega) h)]
  · by_cases h0 : x < 0
    · rw [if_pos h0, if_neg (by rintro ⟨j, hj, rfl⟩; exact nI_pos (by omega) h0)]
    · rw [if_neg h0, if_pos h, if_neg (by rintro ⟨j, hj, rfl⟩; exact nI_ge hj hb h)]
  · rw [if_neg (nI_pos (by omega)), if_neg (nI_ge hj hb), if_pos ⟨j, hj, rfl⟩]
theorem c_hasJo {R : Rf} {T : Mm} {f : Nat} {F : Nat → Nat} (hF : CF R T f F) (hv : VF F) (x : Int32) : pX3_hasJoin R T f x = some (if ∃ j, j < F 2 ∧ x = nI j then 1 else 0) := by
  have hb : F 2 < 2 ^ 31 := by have := hv.2.2.1; omega
  unfold pX3_hasJoin
  rw [hF.2.2.2.1]
  rcases pk_ix x hb with h | h | ⟨j, hj, rfl⟩
  · rw [if_pos h, if_neg (by rintro ⟨j, hj, rfl⟩; exact nI_pos (by omega) h)]
  · by_cases h0 : x < 0
    · rw [if_pos h0, if_neg (by rintro ⟨j, hj, rfl⟩; exact nI_pos (by omega) h0)]
    · rw [if_neg h0, if_pos h, if_neg (by rintro ⟨j, hj, rfl⟩; exact nI_ge hj hb h)]
  · rw [if_neg (nI_pos (by omega)), if_neg (nI_ge hj hb), if_pos ⟨j, hj, rfl⟩]
theorem m_isIn {R : Rf} {T : Mm} {n : Nat} (hn : n < 2 ^ 31) (x : Int32) : pX12_isIn R T x 0 (nI n - 1) = some (if ∃ j, j < n ∧ x = nI j then 1 else 0) := by
  unfold pX12_isIn
  by_cases h0 : x < 0
  · rw [if_pos h0, if_neg (by rintro ⟨j, hj, rfl⟩; exact nI_pos (by omega) h0)]
  · rw [if_neg h0]
    obtain ⟨j, hj, rfl⟩ := nI_of h0
    cases n with
    | zero =>
      have : nI 0 - 1 < nI j := by
        have h1 : nI 0 - 1 = (-1 : Int32) := by decide
        rw [h1]
        apply Int32.lt_iff_toInt_lt.mpr
        rw [nI_toInt hj]
        have h2 : (-1 : Int32).toInt = -1 := by decide
        rw [h2]
        omega
      rw [if_pos this, if_neg (by rintro ⟨j, hj, _⟩; omega)]
    | succ n =>
      rw [nI_pred]
      by_cases e : n < j
      · rw [if_pos (nI_lt e hj), if_neg]
        rintro ⟨k, hk, e2⟩
        have := (nI_eq hj (by omega)).mp e2
        omega
      · rw [if_neg (nI_nlt (by omega) (by omega)), if_pos ⟨j, by omega, rfl⟩]
theorem m_isInG {R : Rf} {T : Mm} {x lo hi : Int32} : pX12_isIn R T x lo hi = some (if lo ≤ x ∧ x ≤ hi then 1 else 0) := by
  unfold pX12_isIn
  by_cases h : x < lo
  · rw [if_pos h, if_neg (fun q => Int32.not_le.mpr h q.1)]
  · rw [if_neg h]
    by_cases h2 : hi < x
    · rw [if_pos h2, if_neg (fun q => Int32.not_le.mpr h2 q.2)]
    · rw [if_neg h2, if_pos ⟨Int32.not_lt.mp h, Int32.not_lt.mp h2⟩]
theorem nI_between {x : Int32} {a b : Nat} (hb : b < 2 ^ 31) (hab : a ≤ b) (h1 : nI a ≤ x) (h2 : x ≤ nI b) : ∃ j, a ≤ j ∧ j ≤ b ∧ x = nI j := by
  have hx : ¬ x < 0 := fun z => absurd (Int32.lt_of_le_of_lt h1 z) (nI_pos (by omega))
  obtain ⟨j, hj, rfl⟩ := nI_of hx
  exact ⟨j, (nI_leI (by omega) hj).mp h1, (nI_leI hj hb).mp h2, rfl⟩
theorem bz_ite {ρ : Type} {c : Prop} [Decidable c] {k : Option ρ} : bz (if c then (1 : Int32) else 0) k = k := by
  unfold bz
  by_cases h : c
  · rw [if_pos h, if_pos (Or.inr rfl)]
  · rw [if_neg h, if_pos (Or.inl rfl)]
theorem m_isPersonS {R : Rf} {T : Mm} {F : Nat → Nat} (r6 : R 105 6 = 107) (hM : MF T F) (hv : VF F) (x : Int32) : pX12_isPerson R T 105 x = some (if ∃ j, j < F 0 ∧ x = nI j then 1 else 0) := by
  unfold pX12_isPerson
  have := hv.1
  rw [ix_lit (by decide) (by decide), lit_clamp (by decide), r6, hM 0 (by decide), m_isIn (by omega), bd1_some, bz_ite]
theorem m_isItemS {R : Rf} {T : Mm} {F : Nat → Nat} (r6 : R 105 6 = 107) (hM : MF T F) (hv : VF F) (x : Int32) : pX12_isItem R T 105 x = some (if ∃ j, j < F 1 ∧ x = nI j then 1 else 0) := by
  unfold pX12_isItem
  have := hv.2.1
  rw [ix_lit (by decide) (by decide), lit_clamp (by decide), r6, hM 1 (by decide), m_isIn (by omega), bd1_some, bz_ite]
theorem m_isJoinS {R : Rf} {T : Mm} {F : Nat → Nat} (r6 : R 105 6 = 107) (hM : MF T F) (hv : VF F) (x : Int32) : pX12_isJoin R T 105 x = some (if ∃ j, j < F 2 ∧ x = nI j then 1 else 0) := by
  unfold pX12_isJoin
  have := hv.2.2.1
  rw [ix_lit (by decide) (by decide), lit_clamp (by decide), r6, hM 2 (by decide), m_isIn (by omega), bd1_some, bz_ite]
/-! that courses stay such as can be -/
theorem VC.uC3 {F : Nat → Nat} {C : Nat → Int32} {v : Int32} (h : VC F C) : VC F (uC C 3 v) := by
  obtain ⟨h0, h1, h2, h3, h4⟩ := h
  refine ⟨?_, ?_, ?_, ?_, ?_⟩
  · rw [uC_n (by decide)]; exact h0
  · rw [uC_n (by decide)]; exact h1
  · rw [uC_n (by decide)]; exact h2
  · intro p hp; rw [uC_n (by omega)]; exact h3 p hp
  · rw [uC_n (by decide), uC_n (by decide)]; exact h4
theorem VC.uCh {F : Nat → Nat} {C : Nat → Int32} {p : Nat} {v : Int32} (h : VC F C) (hv : v = 0 ∨ v = 1 ∨ v = 2 ∨ v = 3) : VC F (uC C (4 + p) v) := by
  obtain ⟨h0, h1, h2, h3, h4⟩ := h
  refine ⟨?_, ?_, ?_, ?_, ?_⟩
  · rw [uC_n (by omega)]; exact h0
  · rw [uC_n (by omega)]; exact h1
  · rw [uC_n (by omega)]; exact h2
  · intro q hq
    by_cases e : q = p
    · subst e; rw [uC_s]; exact hv
    · rw [uC_n (by omega)]; exact h3 q hq
  · rw [uC_n (by omega), uC_n (by omega)]; exact h4
theorem VC.uCb {F : Nat → Nat} {C : Nat → Int32} {v : Int32} (h : VC F C) (hv : ∀ j, bt v j = true → j < F 2) : VC F (uC C 2 (C 2 ||| v)) := by
  obtain ⟨h0, h1, h2, h3, h4⟩ := h
  refine ⟨?_, ?_, ?_, ?_, ?_⟩
  · rw [uC_n (by omega)]; exact h0
  · rw [uC_n (by omega)]; exact h1
  · rw [uC_s]
    intro j hj
    rw [b_or, Bool.or_eq_true] at hj
    rcases hj with hj | hj
    · exact h2 j hj
    · exact hv j hj
  · intro q hq
    rw [uC_n (by omega)]; exact h3 q hq
  · rw [uC_s, uC_n (by omega)]
    intro j hj hb
    rw [b_or, Bool.or_eq_false_iff] at hb
    exact h4 j hj hb.1
theorem bt_lt {c : Nat → Bool} {n j : Nat} (hn : n ≤ 32) (h : bt (sB c n) j = true) : j < n ∧ c j = true := by
  have hj : j < 32 := by
    rcases Nat.lt_or_ge j 32 with z | z
    · exact z
    · rw [b_big z] at h; cases h
  rw [bt_sB c hn hj] at h
  simpa using h
theorem VC.drop {F : Nat → Nat} (hv : VF F) {C : Nat → Int32} {p : Nat} (h : VC F C) : VC F (dropS F C p) := by
  unfold dropS
  by_cases e : C (4 + p) = 1 ∧ nI (wtC F C p) ≤ flS F (C 0)
  · rw [if_pos e]
    refine VC.uC3 (VC.uCh (VC.uCb h ?_) (by decide))
    intro j hj
    exact (bt_lt (by have := hv.2.2.1; omega) hj).1
  · rw [if_neg e]; exact h
theorem VC.go {F : Nat → Nat} (hv : VF F) {C : Nat → Int32} {p : Nat} (h : VC F C) : VC F (goS F C p).2 := by
  unfold goS
  by_cases e : C (4 + p) = 0
  · rw [if_pos e]; exact VC.drop hv (VC.uCh h (by decide))
  · rw [if_neg e]; exact h
theorem VC.fr {F : Nat → Nat} {C : Nat → Int32} {p : Nat} (h : VC F C) : VC F (frS C p).2 := by
  unfold frS
  by_cases e : C (4 + p) = 2
  · rw [if_pos e]; exact VC.uCh h (by decide)
  · rw [if_neg e]; exact h
theorem VC.un {F : Nat → Nat} (hv : VF F) {C : Nat → Int32} {i : Nat} (hi : i < F 1) (h : VC F C) : VC F (unS F C i).2 := by
  obtain ⟨v0, v1, v2, v3, v4, v5, v6, vs, vo, vj⟩ := id hv
  unfold unS
  by_cases e : bt (C 1) i = false
  · rw [if_pos e]; exact h
  · rw [if_neg e]
    by_cases e2 : C (4 + F (12 + i)) < 2
    · rw [if_pos e2]
      dsimp only
      refine VC.drop hv ?_
      obtain ⟨h0, h1, h2, h3, h4⟩ := h
      refine ⟨?_, ?_, ?_, ?_, ?_⟩
      · rw [uC_n (by omega), uC_n (by omega)]; exact h0
      · rw [uC_n (by omega), uC_s]
        intro k hk
        rw [b_and, Bool.and_eq_true] at hk
        exact h1 k hk.1
      · rw [uC_s]
        intro j hj
        rw [b_or, Bool.or_eq_true] at hj
        rcases hj with hj | hj
        · exact h2 j hj
        · exact (bt_lt (by omega) hj).1
      · intro q hq
        rw [uC_n (by omega), uC_n (by omega)]; exact h3 q hq
      · rw [uC_s, uC_n (by omega), uC_s]
        intro j hj hb
        rw [b_or, Bool.or_eq_false_iff] at hb
        obtain ⟨g1, g2⟩ := h4 j hj hb.1
        have ha := (vj j hj).1
        have hbb := (vj j hj).2.1
        have hn : ¬ (F (32 + j) = i) ∧ ¬ (F (48 + j) = i) := by
          have := hb.2
          unfold jaS at this
          rw [bt_sB _ (by omega) (by omega)] at this
          simpa [hj] using this
        rw [b_and, b_and, g1, g2, bt_not _ (by omega), bt_not _ (by omega), bt_one _ (by omega) (by omega), bt_one _ (by omega) (by omega)]
        simp [hn.1, hn.2]
    · rw [if_neg e2]; exact h
theorem VC.ld {F : Nat → Nat} (hv : VF F) {C : Nat → Int32} {i : Nat} (hi : i < F 1) (h : VC F C) : VC F (ldS F C i).2 := by
  obtain ⟨v0, v1, v2, v3, v4, v5, v6, vs, vo, vj⟩ := id hv
  unfold ldS
  by_cases e : bt (C 1) i = false
  · rw [if_pos e]
    by_cases e2 : C (4 + F (12 + i)) = 0
    · rw [if_pos e2]
      dsimp only
      obtain ⟨h0, h1, h2, h3, h4⟩ := h
      refine ⟨?_, ?_, ?_, ?_, ?_⟩
      · rw [uC_n (by omega)]; exact h0
      · rw [uC_s]
        intro k hk
        rw [b_or, Bool.or_eq_true] at hk
        rcases hk with hk | hk
        · exact h1 k hk
        · have hk32 : k < 32 := by
            rcases Nat.lt_or_ge k 32 with z | z
            · exact z
            · rw [b_big z] at hk; cases hk
          rw [bt_one _ (by omega) hk32] at hk
          simp only [decide_eq_true_iff] at hk
          omega
      · rw [uC_n (by omega)]; exact h2
      · intro q hq
        rw [uC_n (by omega)]; exact h3 q hq
      · rw [uC_s, uC_n (by omega)]
        intro j hj hb
        obtain ⟨g1, g2⟩ := h4 j hj hb
        rw [b_or, b_or, g1, g2]
        exact ⟨rfl, rfl⟩
    · rw [if_neg e2]; exact h
  · rw [if_neg e]; exact h
theorem VC.bd {F : Nat → Nat} (hv : VF F) {C : Nat → Int32} {j : Nat} (hj : j < F 2) (h : VC F C) : VC F (bdS F C j).2 := by
  obtain ⟨v0, v1, v2, v3, v4, v5, v6, vs, vo, vj⟩ := id hv
  unfold bdS
  by_cases e : bt (C 2) j = false
  · rw [if_pos e]; exact h
  · rw [if_neg e]
    by_cases e1 : bt (C 1) (F (32 + j)) = false
    · rw [if_pos e1]; exact h
    · rw [if_neg e1]
      by_cases e2 : bt (C 1) (F (48 + j)) = false
      · rw [if_pos e2]; exact h
      · rw [if_neg e2]
        by_cases e3 : C (4 + F (12 + F (32 + j))) = 0
        · rw [if_pos e3]
          dsimp only
          obtain ⟨h0, h1, h2, h3, h4⟩ := h
          refine ⟨?_, ?_, ?_, ?_, ?_⟩
          · rw [uC_n (by omega)]; exact h0
          · rw [uC_n (by omega)]; exact h1
          · rw [uC_s]
            intro k hk
            rw [b_and, Bool.and_eq_true] at hk
            exact h2 k hk.1
          · intro q hq
            rw [uC_n (by omega)]; exact h3 q hq
          · rw [uC_s, uC_n (by omega)]
            intro k hk hb
            by_cases ek : k = j
            · subst ek
              exact ⟨by simpa using e1, by simpa using e2⟩
            · rw [b_and, bt_not _ (by omega), bt_one _ (by omega) (by omega)] at hb
              have : bt (C 2) k = false := by simpa [ek] using hb
              exact h4 k hk this
        · rw [if_neg e3]; exact h
