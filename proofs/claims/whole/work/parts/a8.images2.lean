/-! image and restore, both -/
theorem wI_o {T : Mm} {a k x : Nat} {v : Int32} (h : x ≠ a) : (wI T a k v).1 x = T.1 x := by rw [wI_1, up2_row h]
theorem c_image {R : Rf} {T : Mm} {f g s z : Nat} {F : Nat → Nat} {N : Nat → List Nat} {C : Nat → Int32} {c : Cod} {ones : Nat} (r : RR R f g s z) (hG : CG R T f F N) (hV : VSt F N) (hC : CC T 8 C) (hS : SC T s c ones) (hl : c.length < 40) {k : Nat} (hk : k < 2) : ∃ V, pX11_image R T 0 (nI k) = some (1, V) ∧ CG R V (47 + 16 * k) F N ∧ CC V (56 + 16 * k) C ∧ SC V (58 + 16 * k) c ones ∧ V.1 (46 + 16 * k) 0 = 1 ∧ (∀ a, ¬ (46 + 16 * k ≤ a ∧ a ≤ 61 + 16 * k) → V.1 a = T.1 a) ∧ ∀ a, ¬ (46 + 16 * k ≤ a ∧ a ≤ 61 + 16 * k) → V.2 a = T.2 a := by
  have hf := r.2.2.2.2.2.1
  have hs := r.2.2.2.2.2.2
  have e1 : R 45 k = 46 + 16 * k := by
    have : k = 0 ∨ k = 1 := by omega
    rcases this with rfl | rfl
    · exact r.c (by decide) (by decide)
    · exact r.c (by decide) (by decide)
  have e2 : R (46 + 16 * k) 1 = 47 + 16 * k ∧ R (46 + 16 * k) 2 = 56 + 16 * k ∧ R (46 + 16 * k) 3 = 58 + 16 * k ∧ R (56 + 16 * k) 4 = 56 + 16 * k + 1 := by
    have : k = 0 ∨ k = 1 := by omega
    rcases this with rfl | rfl
    · exact ⟨r.c (by decide) (by decide), r.c (by decide) (by decide), r.c (by decide) (by decide), r.c (by decide) (by decide)⟩
    · exact ⟨r.c (by decide) (by decide), r.c (by decide) (by decide), r.c (by decide) (by decide), r.c (by decide) (by decide)⟩
  obtain ⟨A, a1, a2, a3, a4⟩ := c_copyF (a := 47 + 16 * k) (c := f) (r.rg (by omega)) (by omega) hG hV
  have b1 := c_copy (R := R) (T := A) (a := 56 + 16 * k) (b := 8) (C := C) e2.2.2.2 (r.c (by decide) (by decide)) (by omega) (hC.of (a3 8 (by omega)) (a3 9 (by omega)))
  obtain ⟨D, d1, d2, d3, d4⟩ := c_copyS (T := setC A (56 + 16 * k) C) (a := 58 + 16 * k) (s := s) (r.rs (by omega)) (r.rs (by omega)) (by omega) (hS.of (fun a h1 h2 => by rw [setC_o (by omega) (by omega), a3 a (by omega)])) hl
  unfold pX11_image
  rw [if_neg (show ¬ nI k < 0 from fun z => by have := (nI_ltI (b := 0) (by omega) (by omega)).mp z; omega), if_pos (show nI k ≤ 1 from (nI_leI (b := 1) (by omega) (by omega)).mpr (by omega)), ix_nI hk (by decide), nI_clamp (by omega), show R 0 9 = 45 from r.c (by decide) (by decide), e1, e2.1, e2.2.1, e2.2.2.1, r.2.1, r.2.2.2.1, show R 0 1 = 8 from r.c (by decide) (by decide), a1, bd1_some, b1, bd1_some, d1, bd1_some]
  simp only [lt]
  refine ⟨_, rfl, a2.at (fun a h1 h2 => ?_) (fun p _ => ?_) (fun p _ => ?_), ⟨fun j hj => ?_, fun j hj => ?_⟩, d2.of (fun a h1 h2 => wI_o (by omega)), wI_s, fun a ha => ?_, fun a ha => ?_⟩
  · rw [wI_o (by omega), d3 a (by omega), setC_o (by omega) (by omega)]
  · show D.2 _ _ = _
    rw [d4]; rfl
  · show D.2 _ _ = _
    rw [d4]; rfl
  · rw [wI_n (Or.inl (by omega)), d3 _ (by omega), setC_c hj]
  · rw [wI_n (Or.inl (by omega)), d3 _ (by omega), setC_h hj]
  · rw [wI_o (by omega), d3 a (by omega), setC_o (by omega) (by omega), a3 a (by omega)]
  · show D.2 a = _
    rw [d4]
    exact a4 a (by omega) (by omega)
theorem m_image {R : Rf} {T : Mm} (hr : RM R) {k : Nat} (hk : k < 2) : ∃ V, pX12_image R T 105 (nI k) = some (1, V) ∧ (∀ j, j < 270 → V.1 121 (270 * k + j) = T.1 107 j) ∧ (∀ j, j < 15 → V.2 122 (15 * k + j) = T.2 110 j) ∧ V.1 123 k = 1 ∧ (∀ j, j ≠ k → V.1 123 j = T.1 123 j) ∧ (∀ a, a ≠ 105 → a ≠ 121 → a ≠ 123 → V.1 a = T.1 a) ∧ (∀ j, j ≠ 0 → V.1 105 j = T.1 105 j) ∧ (∀ a, a ≠ 122 → V.2 a = T.2 a) ∧ (∀ j, ¬ (270 * k ≤ j ∧ j < 270 * k + 270) → V.1 121 j = T.1 121 j) ∧ ∀ j, ¬ (15 * k ≤ j ∧ j < 15 * k + 15) → V.2 122 j = T.2 122 j := by
  obtain ⟨r1, r6, r7, r8, r9, r10, r21, r22, r28, r32, r33, r34, r38, r40, r46, r47, r48, r49⟩ := id hr
  unfold pX12_image
  simp only [lt]
  rw [m_isInG, bd1_some, ifI, if_pos (show (0 : Int32) ≤ nI k ∧ nI k ≤ 1 from ⟨(nI_leI (a := 0) (by omega) (by omega)).mpr (Nat.zero_le _), (nI_leI (b := 1) (by omega) (by omega)).mpr (by omega)⟩)]
  generalize hU : wI T 105 0 0 = U
  have uo : ∀ a, a ≠ 105 → U.1 a = T.1 a := fun a ha => by rw [← hU, wI_o ha]
  have uk : ∀ j, j ≠ 0 → U.1 105 j = T.1 105 j := fun j hj => by rw [← hU, wI_n (Or.inr hj)]
  have u2 : U.2 = T.2 := by rw [← hU]; rfl
  rw [zl2_fillO U 121 (270 * k) (fun i => U.1 107 i) 270 (pX12_image_49 R 105 (nI k)) (by omega) ?_ ?_]
  · generalize hX : foI U 121 (270 * k) (fun i => U.1 107 i) 270 = X
    unfold pX12_image_49
    rw [zl2_fillOJ X 122 (15 * k) (fun i => X.2 110 i) 15 (pX12_image_80 R 105 (nI k)) (by omega) ?_ ?_]
    · generalize hY : foJ X 122 (15 * k) (fun i => X.2 110 i) 15 = Y
      unfold pX12_image_80
      rw [ix_nI hk (by decide), nI_clamp (by omega), r49]
      simp only [lt]
      have y1 : Y.1 = X.1 := by rw [← hY]; rfl
      have x2 : X.2 = U.2 := by rw [← hX]; rfl
      refine ⟨_, rfl, fun j hj => ?_, fun j hj => ?_, wI_s, fun j hj => ?_, fun a h1 h2 h3 => ?_, fun j hj => ?_, fun a ha => ?_, fun j hj => ?_, fun j hj => ?_⟩
      · rw [wI_n (Or.inl (by decide)), y1, ← hX, foI_in hj, uo 107 (by decide)]
      · show Y.2 122 _ = _
        rw [← hY, foJ_in hj, x2, u2]
      · rw [wI_n (Or.inr hj), y1, ← hX, foI_o (by decide), uo 123 (by decide)]
      · rw [wI_o h3, y1, ← hX, foI_o h2, uo a h1]
      · rw [wI_n (Or.inl (by decide)), y1, ← hX, foI_o (by decide), uk j hj]
      · show Y.2 a = _
        rw [← hY, foJ_o ha, x2, u2]
      · rw [wI_n (Or.inl (by decide)), y1, ← hX, foI_out (by omega), uo 121 (by decide)]
      · show Y.2 122 j = _
        rw [← hY, foJ_out (by omega), x2, u2]
    · intro q i hi
      unfold pX12_image_51
      rw [if_neg (show ¬ (15 : Int32) ≤ nI i from fun z => by have := (nI_leI (a := 15) (by omega) (by omega)).mp z; omega), lit_mul, nI_add, ix_nI (by omega) (by decide), ix_nI (by omega) (by decide), nI_clamp (by omega), nI_clamp (by omega), r48, r9, foJ_o (by decide)]
      simp only [lt]
      rw [nI_1]
    · intro q
      unfold pX12_image_51
      rw [if_pos (show (15 : Int32) ≤ nI 15 by decide)]
  · intro q i hi
    unfold pX12_image_18
    rw [if_neg (show ¬ (270 : Int32) ≤ nI i from fun z => by have := (nI_leI (a := 270) (by omega) (by omega)).mp z; omega), lit_mul, nI_add, ix_nI (by omega) (by decide), ix_nI (by omega) (by decide), nI_clamp (by omega), nI_clamp (by omega), r47, r6, foI_o (by decide)]
    simp only [lt]
    rw [nI_1]
  · intro q
    unfold pX12_image_18
    rw [if_pos (show (270 : Int32) ≤ nI 270 by decide)]
theorem nI_01 {x : Int32} (h0 : ¬ x < 0) (h1 : x ≤ 1) : ∃ k, k < 2 ∧ x = nI k := by
  obtain ⟨j, hj, rfl⟩ := nI_all h0
  exact ⟨j, by have := (nI_leI (b := 1) hj (by omega)).mp h1; omega, rfl⟩
theorem q_image {R : Rf} {T : Mm} (h : IV R T) (x : Int32) : ∃ a V V', pX11_image R T 0 x = some (a, V) ∧ pX12_image R V 105 x = some (a, V') ∧ IV R V' := by
  obtain ⟨f, g, s, z, F, N, C, n, fs, H, b, L, c, ones, t, h⟩ := h
  have hi : IV R (wI T 105 0 0) := ⟨f, g, s, z, F, N, C, n, fs, H, b, L, c, ones, t, h.s0 (k := 0) (v := 0) (by unfold Ker; omega)⟩
  by_cases e : 0 ≤ x ∧ x ≤ 1
  · obtain ⟨k, hk, rfl⟩ := nI_01 (Int32.not_lt.mpr e.1) e.2
    obtain ⟨hR, hA, hB, hC, hD, hE, hG, hT, hI⟩ := h
    have hf := hR.2.2.2.2.2.1
    have hs := hR.2.2.2.2.2.2
    obtain ⟨V, v1, v2, v3, v4, v5, v6, v7⟩ := c_image hR hB.1 hA.1 hB.2.1 hE.1 hA.2.2.2.2.1 hk
    obtain ⟨W, w1, w2, w3, w4, w5, w6, w7, w8, w9, w10⟩ := m_image (T := V) hR.rm hk
    have o1 : ∀ a, ¬ (46 ≤ a ∧ a ≤ 77) → a ≠ 105 → a ≠ 121 → a ≠ 123 → W.1 a = T.1 a := fun a h1 h2 h3 h4 => by rw [w6 a h2 h3 h4, v6 a (by omega)]
    have o2 : ∀ a, ¬ (46 ≤ a ∧ a ≤ 77) → a ≠ 122 → W.2 a = T.2 a := fun a h1 h2 => by rw [w8 a h2, v7 a (by omega)]
    have o5 : ∀ j, j ≠ 0 → W.1 105 j = T.1 105 j := fun j hj => by rw [w7 j hj, v6 105 (by omega)]
    refine ⟨1, V, W, v1, w1, f, g, s, z, F, N, C, n, fs, H, b, L, c, ones, t, hR, hA, hB.of (fun a ha => o1 a (by omega) (by omega) (by omega) (by omega)) (o2 _ (by omega) (by omega)) (o2 _ (by omega) (by omega)), hC.of (fun j _ => by rw [o1 107 (by omega) (by omega) (by omega) (by omega)]) (o5 23 (by omega)) (o1 112 (by omega) (by omega) (by omega) (by omega)) (o2 110 (by omega) (by omega)), hD.of (by rw [o1 1 (by omega) (by omega) (by omega) (by omega)]) (o1 2 (by omega) (by omega) (by omega) (by omega)) (o2 7 (by omega) (by omega)) (o5 2 (by omega)) (o1 106 (by omega) (by omega) (by omega) (by omega)) (o2 111 (by omega) (by omega)), hE.of (fun a h1 h2 => o1 a (by omega) (by omega) (by omega) (by omega)) (fun j _ => by rw [o1 107 (by omega) (by omega) (by omega) (by omega)]), hG.of (fun j _ _ => by rw [o1 0 (by omega) (by omega) (by omega) (by omega)]) (fun j hj => o5 j (by omega)) (o1 78 (by omega) (by omega) (by omega) (by omega)) (o1 118 (by omega) (by omega) (by omega) (by omega)), hT.of (o1 43 (by omega) (by omega) (by omega) (by omega)) (o1 44 (by omega) (by omega) (by omega) (by omega)) (o5 35 (by omega)) (o1 117 (by omega) (by omega) (by omega) (by omega)), fun j hj => ?_⟩
    by_cases ej : j = k
    · subst ej
      refine ⟨by rw [w6 _ (by omega) (by omega) (by omega), v5, w4], Or.inr ⟨w4, F, N, C, c, ones, V, hA.1, hA.2.1, hA.2.2.2.2.1, hA.2.2.2.2.2, v2.at (fun a h1 h2 => w6 a (by omega) (by omega) (by omega)) (fun p _ => by rw [w8 _ (by omega)]) (fun p _ => by rw [w8 _ (by omega)]), v3.of (w6 _ (by omega) (by omega) (by omega)) (w6 _ (by omega) (by omega) (by omega)), v4.of (fun a h1 h2 => w6 a (by omega) (by omega) (by omega)), w2, w3, fun i hi => by rw [v6 107 (by omega)]; exact hC.1 i hi, hC.2.1.of (fun i _ _ => by rw [v6 107 (by omega)]), hC.2.2.2.of (v7 110 (by omega)), hE.2.of (fun i _ _ => by rw [v6 107 (by omega)])⟩⟩
    · obtain ⟨i1, i2⟩ := hI j hj
      have q1 : ∀ a, 46 + 16 * j ≤ a → a ≤ 61 + 16 * j → W.1 a = T.1 a := fun a h1 h2 => by rw [w6 a (by omega) (by omega) (by omega), v6 a (by omega)]
      have q2 : ∀ a, 46 + 16 * j ≤ a → a ≤ 61 + 16 * j → W.2 a = T.2 a := fun a h1 h2 => by rw [w8 a (by omega), v7 a (by omega)]
      have q3 : W.1 123 j = T.1 123 j := by rw [w5 j ej, v6 123 (by omega)]
      refine ⟨by rw [q1 _ (by omega) (by omega), q3]; exact i1, ?_⟩
      rw [q3]
      rcases i2 with i2 | ⟨i2, F2, N2, C2, c2, ones2, W2, i3⟩
      · exact Or.inl i2
      · exact Or.inr ⟨i2, F2, N2, C2, c2, ones2, W2, i3.of hj (hR.rgI j hj) q1 q2 (fun i hi => by rw [w9 _ (by omega), v6 121 (by omega)]) (fun i hi => by rw [w10 _ (by omega), v7 122 (by omega)])⟩
  · refine ⟨0, T, _, ?_, ?_, hi⟩
    · unfold pX11_image
      by_cases e0 : x < 0
      · rw [if_pos e0]
      · rw [if_neg e0, if_neg (fun z => e ⟨Int32.not_lt.mp e0, z⟩)]
    · unfold pX12_image
      simp only [lt]
      rw [m_isInG, bd1_some, ifI, if_neg e]
