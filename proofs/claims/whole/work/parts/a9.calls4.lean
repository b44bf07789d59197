/-! restore -/
theorem c_restore {R : Rf} {T : Mm} {f g s z : Nat} {F : Nat → Nat} {N : Nat → List Nat} {C : Nat → Int32} {c : Cod} {ones k : Nat} (r : RR R f g s z) (hG : CG R T (47 + 16 * k) F N) (hV : VSt F N) (hC : CC T (56 + 16 * k) C) (hS : SC T (58 + 16 * k) c ones) (hl : c.length < 40) (hk : k < 2) (ht : T.1 (46 + 16 * k) 0 = 1) : ∃ V, pX11_restore R T 0 (nI k) = some (1, V) ∧ CG R V f F N ∧ CC V 8 C ∧ SC V s c ones ∧ V.1 12 0 = 0 ∧ (∀ a j, a ≠ 8 → a ≠ 9 → ¬ (f ≤ a ∧ a ≤ f + 8) → ¬ (s ≤ a ∧ a ≤ s + 3) → ¬ (a = 12 ∧ j = 0) → V.1 a j = T.1 a j) ∧ ∀ a, a ≠ f + 2 → a ≠ f + 3 → V.2 a = T.2 a := by
  have hf := r.2.2.2.2.2.1
  have hs := r.2.2.2.2.2.2
  have e1 : R 45 k = 46 + 16 * k := by
    have : k = 0 ∨ k = 1 := by omega
    rcases this with rfl | rfl
    · exact r.c (by decide) (by decide)
    · exact r.c (by decide) (by decide)
  have e2 : R (46 + 16 * k) 1 = 47 + 16 * k ∧ R (46 + 16 * k) 2 = 56 + 16 * k ∧ R (46 + 16 * k) 3 = 58 + 16 * k ∧ R (56 + 16 * k) 4 = 56 + 16 * k + 1 := by
    have : k = 0 ∨ k = 1 := by omega
    rcases this with rfl | rfl
    · exact ⟨r.c (by decide) (by decide), r.c (by decide) (by decide), r.c (by decide) (by decide), r.c (by decide) (by decide)⟩
    · exact ⟨r.c (by decide) (by decide), r.c (by decide) (by decide), r.c (by decide) (by decide), r.c (by decide) (by decide)⟩
  obtain ⟨A, a1, a2, a3, a4⟩ := c_copyF (a := f) (c := 47 + 16 * k) (r.rg (by omega)) (by omega) hG hV
  have b1 := c_copy (R := R) (T := A) (a := 8) (b := 56 + 16 * k) (C := C) (r.c (by decide) (by decide)) e2.2.2.2 (by omega) (hC.of (a3 _ (by omega)) (a3 _ (by omega)))
  obtain ⟨D, d1, d2, d3, d4⟩ := c_copyS (T := setC A 8 C) (a := s) (s := 58 + 16 * k) (r.rs (by omega)) (r.rs (by omega)) (by omega) (hS.of (fun a h1 h2 => by rw [setC_o (by omega) (by omega), a3 a (by omega)])) hl
  unfold pX11_restore
  rw [if_neg (show ¬ nI k < 0 from fun z => by have := (nI_ltI (b := 0) (by omega) (by omega)).mp z; omega), if_neg (show ¬ 1 < nI k from fun z => by have := (nI_ltI (a := 1) (by omega) (by omega)).mp z; omega)]
  simp only [ix_nI hk (by decide)]
  rw [nI_clamp (by omega), show R 0 9 = 45 from r.c (by decide) (by decide), e1, ht, if10, e2.1, e2.2.1, e2.2.2.1, r.2.1, r.2.2.2.1, show R 0 1 = 8 from r.c (by decide) (by decide), show R 0 3 = 12 from r.c (by decide) (by decide), a1, bd1_some, b1, bd1_some, d1, bd1_some]
  simp only [lt]
  refine ⟨_, rfl, a2.at (fun a h1 h2 => ?_) (fun p _ => ?_) (fun p _ => ?_), ⟨fun j hj => ?_, fun j hj => ?_⟩, d2.of (fun a h1 h2 => wI_o (by omega)), wI_s, fun a j h8 h9 h1 h2 h3 => ?_, fun a h1 h2 => ?_⟩
  · rw [wI_o (by omega), d3 a (by omega), setC_o (by omega) (by omega)]
  · show D.2 _ _ = _
    rw [d4]; rfl
  · show D.2 _ _ = _
    rw [d4]; rfl
  · rw [wI_n (Or.inl (by omega)), d3 _ (by omega), setC_c hj]
  · rw [wI_n (Or.inl (by omega)), d3 _ (by omega), setC_h hj]
  · rw [wI_n (by omega), d3 a (by omega), setC_o h8 h9, a3 a (by omega)]
  · show D.2 a = _
    rw [d4]
    exact a4 a (by omega) (by omega)
theorem m_restore {R : Rf} {T : Mm} (hr : RM R) {k : Nat} (hk : k < 2) (h1 : T.1 123 k = 1) : ∃ V, pX12_restore R T 105 (nI k) = some (1, V) ∧ (∀ j, j < 270 → V.1 107 j = T.1 121 (270 * k + j)) ∧ (∀ j, j < 15 → V.2 110 j = T.2 122 (15 * k + j)) ∧ V.1 105 23 = 0 ∧ (∀ a, a ≠ 105 → a ≠ 107 → V.1 a = T.1 a) ∧ (∀ j, j ≠ 0 → j ≠ 23 → V.1 105 j = T.1 105 j) ∧ ∀ a, a ≠ 110 → V.2 a = T.2 a := by
  obtain ⟨r1, r6, r7, r8, r9, r10, r21, r22, r28, r32, r33, r34, r38, r40, r46, r47, r48, r49⟩ := id hr
  unfold pX12_restore
  simp only [lt]
  rw [m_isInG, bd1_some, ifI, if_pos (show (0 : Int32) ≤ nI k ∧ nI k ≤ 1 from ⟨(nI_leI (a := 0) (by omega) (by omega)).mpr (Nat.zero_le _), (nI_leI (b := 1) (by omega) (by omega)).mpr (by omega)⟩), ix_nI hk (by decide), nI_clamp (by omega), r49, wI_n (Or.inl (by decide)), h1, if10]
  generalize hU : wI T 105 0 0 = U
  have uo : ∀ a, a ≠ 105 → U.1 a = T.1 a := fun a ha => by rw [← hU, wI_o ha]
  have uk : ∀ j, j ≠ 0 → U.1 105 j = T.1 105 j := fun j hj => by rw [← hU, wI_n (Or.inr hj)]
  have u2 : U.2 = T.2 := by rw [← hU]; rfl
  rw [zl2_fill U 107 (fun i => U.1 121 (270 * k + i)) 270 (pX12_restore_58 R 105 (nI k)) (by omega) ?_ ?_]
  · generalize hX : fiR U 107 (fun i => U.1 121 (270 * k + i)) 270 = X
    unfold pX12_restore_58
    rw [zl2_fillJ X 110 (fun i => X.2 122 (15 * k + i)) 15 (pX12_restore_89 R 105 (nI k)) (by omega) ?_ ?_]
    · generalize hY : fjR X 110 (fun i => X.2 122 (15 * k + i)) 15 = Y
      unfold pX12_restore_89
      simp only [lt]
      have y1 : Y.1 = X.1 := by rw [← hY]; rfl
      have x2 : X.2 = U.2 := by rw [← hX]; rfl
      refine ⟨_, rfl, fun j hj => ?_, fun j hj => ?_, wI_s, fun a h1 h2 => ?_, fun j h0 h23 => ?_, fun a ha => ?_⟩
      · rw [wI_n (Or.inl (by decide)), y1, ← hX, fiR_in hj, uo 121 (by decide)]
      · show Y.2 110 _ = _
        rw [← hY, fjR_in hj, x2, u2]
      · rw [wI_o h1, y1, ← hX, fiR_o h2, uo a h1]
      · rw [wI_n (Or.inr h23), y1, ← hX, fiR_o (by decide), uk j h0]
      · show Y.2 a = _
        rw [← hY, fjR_o ha, x2, u2]
    · intro q i hi
      unfold pX12_restore_60
      rw [if_neg (show ¬ (15 : Int32) ≤ nI i from fun z => by have := (nI_leI (a := 15) (by omega) (by omega)).mp z; omega), lit_mul, nI_add, ix_nI (by omega) (by decide), ix_nI (by omega) (by decide), nI_clamp (by omega), nI_clamp (by omega), r48, r9, fjR_o (by decide)]
      simp only [lt]
      rw [nI_1]
    · intro q
      unfold pX12_restore_60
      rw [if_pos (show (15 : Int32) ≤ nI 15 by decide)]
  · intro q i hi
    unfold pX12_restore_27
    rw [if_neg (show ¬ (270 : Int32) ≤ nI i from fun z => by have := (nI_leI (a := 270) (by omega) (by omega)).mp z; omega), lit_mul, nI_add, ix_nI (by omega) (by decide), ix_nI (by omega) (by decide), nI_clamp (by omega), nI_clamp (by omega), r47, r6, fiR_o (by decide)]
    simp only [lt]
    rw [nI_1]
  · intro q
    unfold pX12_restore_27
    rw [if_pos (show (270 : Int32) ≤ nI 270 by decide)]
theorem NM.to {T V : Mm} {F : Nat → Nat} {N : Nat → List Nat} (h : NM T F N) (hv : VF F) (e : ∀ j, j < 15 → V.2 110 j = T.2 110 j) : NM V F N := ⟨fun p hp => by have := hv.1; rw [e p (by omega)]; exact h.1 p hp, fun i hi => by have := hv.2.1; rw [e (5 + i) (by omega)]; exact h.2 i hi⟩
theorem q_restore {R : Rf} {T : Mm} (h : IV R T) (x : Int32) : ∃ a V V', pX11_restore R T 0 x = some (a, V) ∧ pX12_restore R V 105 x = some (a, V') ∧ IV R V' := by
  obtain ⟨f, g, s, z, F, N, C, n, fs, H, b, L, c, ones, t, h⟩ := h
  have hi : IV R (wI T 105 0 0) := ⟨f, g, s, z, F, N, C, n, fs, H, b, L, c, ones, t, h.s0 (k := 0) (v := 0) (by unfold Ker; omega)⟩
  by_cases e : 0 ≤ x ∧ x ≤ 1
  · obtain ⟨k, hk, rfl⟩ := nI_01 (Int32.not_lt.mpr e.1) e.2
    obtain ⟨hR, hA, hB, hC, hD, hE, hG, hT, hI⟩ := h
    have hf := hR.2.2.2.2.2.1
    have hs := hR.2.2.2.2.2.2
    obtain ⟨i1, i2⟩ := hI k hk
    rcases i2 with i2 | ⟨i2, F', N', C', c', ones', W, j1, j2, j3, j4, j5, j6, j7, j8, j9, j10, j11, j12, j13⟩
    · have e1 : R 45 k = 46 + 16 * k := by
        have : k = 0 ∨ k = 1 := by omega
        rcases this with rfl | rfl
        · exact hR.c (by decide) (by decide)
        · exact hR.c (by decide) (by decide)
      refine ⟨0, T, _, ?_, ?_, hi⟩
      · unfold pX11_restore
        rw [if_neg (show ¬ nI k < 0 from fun z => by have := (nI_ltI (b := 0) (by omega) (by omega)).mp z; omega), if_neg (show ¬ 1 < nI k from fun z => by have := (nI_ltI (a := 1) (by omega) (by omega)).mp z; omega), ix_nI hk (by decide), nI_clamp (by omega), show R 0 9 = 45 from hR.c (by decide) (by decide), e1, i1, i2, if00]
      · unfold pX12_restore
        simp only [lt]
        rw [m_isInG, bd1_some, ifI, if_pos e, ix_nI hk (by decide), nI_clamp (by omega), show R 105 49 = 123 from hR.c (by decide) (by decide), wI_n (Or.inl (by decide)), i2, if00]
    · obtain ⟨V, v1, v2, v3, v4, v5, v6, v7⟩ := c_restore hR j5 j1 j6 j7 j3 hk (i1.trans i2)
      have v6' : ∀ a, a ≠ 8 → a ≠ 9 → a ≠ 12 → ¬ (f ≤ a ∧ a ≤ f + 8) → ¬ (s ≤ a ∧ a ≤ s + 3) → V.1 a = T.1 a := fun a h8 h9 h12 h1 h2 => funext fun j => v6 a j h8 h9 h1 h2 (by omega)
      obtain ⟨X, w1, w2, w3, w4, w5, w6, w7⟩ := m_restore (T := V) hR.rm hk (by rw [v6' 123 (by omega) (by omega) (by omega) (by omega) (by omega)]; exact i2)
      have o1 : ∀ a, a ≠ 8 → a ≠ 9 → a ≠ 12 → ¬ (f ≤ a ∧ a ≤ f + 8) → ¬ (s ≤ a ∧ a ≤ s + 3) → a ≠ 105 → a ≠ 107 → X.1 a = T.1 a := fun a h8 h9 h12 h1 h2 h3 h4 => by rw [w5 a h3 h4, v6' a h8 h9 h12 h1 h2]
      have o2 : ∀ a, a ≠ f + 2 → a ≠ f + 3 → a ≠ 110 → X.2 a = T.2 a := fun a h1 h2 h3 => by rw [w7 a h3, v7 a h1 h2]
      have o5 : ∀ j, j ≠ 0 → j ≠ 23 → X.1 105 j = T.1 105 j := fun j h1 h2 => by rw [w6 j h1 h2, v6' 105 (by omega) (by omega) (by omega) (by omega) (by omega)]
      have x7 : ∀ j, j < 270 → X.1 107 j = W.1 107 j := fun j hj => by rw [w2 j hj, v6' 121 (by omega) (by omega) (by omega) (by omega) (by omega), j8 j hj]
      have x10 : ∀ j, j < 15 → X.2 110 j = W.2 110 j := fun j hj => by rw [w3 j hj, v7 122 (by omega) (by omega), j9 j hj]
      refine ⟨1, V, X, v1, w1, f, g, s, z, F', N', C', 0, fs, H, b, L, c', ones', t, hR, ⟨j1, j2, by omega, fun i hi => absurd hi (Nat.not_lt_zero i), j3, j4⟩, ⟨v2.at (fun a h1 h2 => w5 a (by omega) (by omega)) (fun p _ => by rw [w7 _ (by omega)]) (fun p _ => by rw [w7 _ (by omega)]), v3.of (w5 _ (by omega) (by omega)) (w5 _ (by omega) (by omega)), by omega, hB.2.2.2.1, ?_, ?_, fun i hi => absurd hi (Nat.not_lt_zero i)⟩, ⟨fun i hi => by rw [x7 i (by omega)]; exact j10 i hi, j11.of (fun i _ _ => x7 i (by omega)), ⟨w4, fun i hi => absurd hi (Nat.not_lt_zero i)⟩, j12.to j1.1 x10⟩, hD.of (by rw [o1 1 (by omega) (by omega) (by omega) (by omega) (by omega) (by omega) (by omega)]) (o1 2 (by omega) (by omega) (by omega) (by omega) (by omega) (by omega) (by omega)) (o2 7 (by omega) (by omega) (by omega)) (o5 2 (by omega) (by omega)) (o1 106 (by omega) (by omega) (by omega) (by omega) (by omega) (by omega) (by omega)) (o2 111 (by omega) (by omega) (by omega)), ⟨v4.of (fun a h1 h2 => w5 a (by omega) (by omega)), j13.of (fun i _ _ => x7 i (by omega))⟩, hG.of (fun j _ _ => by rw [o1 0 (by omega) (by omega) (by omega) (by omega) (by omega) (by omega) (by omega)]) (fun j hj => o5 j (by omega) (by omega)) (o1 78 (by omega) (by omega) (by omega) (by omega) (by omega) (by omega) (by omega)) (o1 118 (by omega) (by omega) (by omega) (by omega) (by omega) (by omega) (by omega)), hT.of (o1 43 (by omega) (by omega) (by omega) (by omega) (by omega) (by omega) (by omega)) (o1 44 (by omega) (by omega) (by omega) (by omega) (by omega) (by omega) (by omega)) (o5 35 (by omega) (by omega)) (o1 117 (by omega) (by omega) (by omega) (by omega) (by omega) (by omega) (by omega)), hI.of hR.rgI (fun a h1 h2 => o1 a (by omega) (by omega) (by omega) (by omega) (by omega) (by omega) (by omega)) (fun a h1 h2 => o2 a (by omega) (by omega) (by omega)) (o1 121 (by omega) (by omega) (by omega) (by omega) (by omega) (by omega) (by omega)) (o2 122 (by omega) (by omega) (by omega)) (o1 123 (by omega) (by omega) (by omega) (by omega) (by omega) (by omega) (by omega))⟩
      · rw [w5 12 (by omega) (by omega), v5]; rfl
      · rw [w5 12 (by omega) (by omega), v6 12 1 (by omega) (by omega) (by omega) (by omega) (by omega)]; exact hB.2.2.2.2.2.1
  · refine ⟨0, T, _, ?_, ?_, hi⟩
    · unfold pX11_restore
      by_cases e0 : x < 0
      · rw [if_pos e0]
      · rw [if_neg e0, if_pos (Int32.not_le.mp (fun z => e ⟨Int32.not_lt.mp e0, z⟩))]
    · unfold pX12_restore
      simp only [lt]
      rw [m_isInG, bd1_some, ifI, if_neg e]
