/-! the calls, one by one: falls, sentence, book -/
theorem VC_iC {F : Nat → Nat} (hv : VF F) : VC F (iC F) := by
  obtain ⟨v0, v1, v2, v3, v4, v5, v6, vs, vo, vj⟩ := id hv
  have h1 : iC F 1 = ((1 : Int32) <<< (nI (F 1) &&& 31)) - 1 := if_pos rfl
  have hn : ∀ k, k ≠ 1 → iC F k = 0 := fun k hk => if_neg hk
  have hb : ∀ i, i < 32 → bt (iC F 1) i = decide (i < F 1) := fun i hi => by rw [h1]; exact mask_bt (F 1) (by omega) i hi
  refine ⟨⟨0, by omega, hn 0 (by decide)⟩, fun i hi => ?_, fun j hj => ?_, fun p _ => Or.inl (hn _ (by omega)), fun j hj _ => ?_⟩
  · by_cases e : i < 32
    · rw [hb i e] at hi
      exact of_decide_eq_true hi
    · rw [b_big (by omega)] at hi
      cases hi
  · rw [hn 2 (by decide), b_0] at hj
    cases hj
  · obtain ⟨j1, j2, _⟩ := vj j hj
    exact ⟨by rw [hb _ (by omega)]; exact decide_eq_true j1, by rw [hb _ (by omega)]; exact decide_eq_true j2⟩
theorem jG.f15 {T V : Mm} {v : Int32} (h : jG T) (e0 : V.1 0 15 = v) (e0' : V.1 105 15 = v) (e : ∀ k, 16 ≤ k → k ≤ 19 → V.1 0 k = T.1 0 k) (e' : ∀ k, (24 ≤ k ∧ k ≤ 31) ∨ k = 39 → V.1 105 k = T.1 105 k) (e2 : V.1 78 = T.1 78) (e3 : V.1 118 = T.1 118) : jG V := by
  obtain ⟨h1, h2, h3, h4, h5, h6⟩ := h
  unfold jG
  rw [e0, e0', e 16 (by omega) (by omega), e 17 (by omega) (by omega), e 18 (by omega) (by omega), e 19 (by omega) (by omega), e' 24 (by omega), e' 25 (by omega), e' 26 (by omega), e' 27 (by omega), e' 29 (by omega), e' 30 (by omega), e' 31 (by omega), e' 39 (by omega), e2, e3]
  exact ⟨rfl, h2, h3, h4, h5, h6⟩
theorem q_falls {R : Rf} {T : Mm} (h : IV R T) : ∃ a V R' V', pX11_falls R T 0 = some (a, V, R') ∧ pX12_falls R' V 105 = some (a, V') ∧ IV R' V' := by
  obtain ⟨f, g, s, z, F, N, C, n, fs, H, b, L, c, ones, t, h⟩ := h
  obtain ⟨hR, hA, hB, hC, hD, hE, hG, hT, hI⟩ := h
  have hf := hR.2.2.2.2.2.1
  have hs := hR.2.2.2.2.2.2
  have hm := fun (R' : Rf) (V : Mm) (hr : RM R') (e2 : V.1 105 2 = T.1 105 2) (e6 : V.1 106 = T.1 106) (e11 : V.2 111 = T.2 111) => m_fallsW (R := R') (T := V) (b := b) (L := L) hr hD.1.1 (e2.trans hD.2.1) (fun k hk => by rw [e6]; exact hD.2.2.1 k hk) (fun k hk => by rw [e11]; exact hD.2.2.2 k hk)
  rcases c_fallsW (b := b) (L := L) (f := f) (g := g) (s := s) hR.rt hD.1 (hR.rg (by omega)) (by omega) (by omega) (hR.c (by decide) (by decide)) (hR.c (by decide) (by decide)) (hR.c (by decide) (by decide)) (hR.c (by decide) (by decide)) hR.2.1 hR.2.2.1 hR.2.2.2.1 (by omega) with ⟨k, p, V, z1, z2, z3, z4, ⟨z5, z6, z7⟩, z8, z9, z10, z11⟩ | ⟨F', N', t', V, z1, z2, z3, z4, z5, z6, z7, z8, ⟨z9, z10, z11⟩⟩
  · have v1 : ∀ a, a ≠ 1 → a ≠ 3 → a ≠ 4 → a ≠ 5 → ¬ (g ≤ a ∧ a ≤ g + 8) → a ≠ 0 → V.1 a = T.1 a := fun a h1 h3 h4 h5 hg h0 => funext fun j => by
      by_cases e8 : a = 8
      · rw [e8]; exact z8 j
      by_cases e9 : a = 9
      · rw [e9]; exact z9 j
      by_cases e12 : a = 12 ∧ j = 0
      · rw [e12.1, e12.2]; exact z10
      by_cases es : a = s ∧ j = 1
      · rw [es.1, es.2]; exact z11
      exact z5 a j h1 h3 h4 h5 e8 e9 hg (fun e => h0 e.1) e12 es
    rcases hm R V hR.rm (by rw [v1 105 (by omega) (by omega) (by omega) (by omega) (by omega) (by omega)]) (v1 106 (by omega) (by omega) (by omega) (by omega) (by omega) (by omega)) (z6 111 (by omega) (by omega) (by omega)) with ⟨k', p', V', y1, y2, y3, y4, y5, ⟨y6, y7, y8⟩, y9, y10, y11⟩ | ⟨F'', N'', t'', V', y1, _⟩
    · rw [z1] at y1
      cases y1
      have o1 : ∀ a, a ≠ 1 → a ≠ 3 → a ≠ 4 → a ≠ 5 → ¬ (g ≤ a ∧ a ≤ g + 8) → a ≠ 0 → a ≠ 105 → a ≠ 108 → V'.1 a = T.1 a := fun a h1 h3 h4 h5 hg h0 h105 h108 => by
        by_cases e7 : a = 107
        · rw [e7, y9, v1 107 (by omega) (by omega) (by omega) (by omega) (by omega) (by omega)]
        · rw [y6 a h105 e7 h108, v1 a h1 h3 h4 h5 hg h0]
      have o2 : ∀ a, a ≠ 6 → a ≠ g + 2 → a ≠ g + 3 → a ≠ 105 → a ≠ 110 → V'.2 a = T.2 a := fun a h1 h2 h3 h4 h5 => by rw [y7 a h4 h5, z6 a h1 h2 h3]
      have o5 : ∀ j, j = 35 ∨ (24 ≤ j ∧ j ≤ 31) ∨ j = 39 → V'.1 105 j = T.1 105 j := fun j hj => by rw [y8 j (by omega) (by omega) (by omega) (by omega) (by omega) (by omega) (by omega) (by omega), v1 105 (by omega) (by omega) (by omega) (by omega) (by omega) (by omega)]
      have o0 : ∀ j, V'.1 0 j = V.1 0 j := fun j => by rw [y6 0 (by omega) (by omega) (by omega)]
      refine ⟨_, V, R, V', z3, y2, f, g, s, z, F, N, C, n, fs, H, b, 0, c, ones, t, hR, hA, hB.of (fun a ha => o1 a (by omega) (by omega) (by omega) (by omega) (by omega) (by omega) (by omega) (by omega)) (o2 _ (by omega) (by omega) (by omega) (by omega) (by omega)) (o2 _ (by omega) (by omega) (by omega) (by omega) (by omega)), ⟨fun i hi => by rw [o1 107 (by omega) (by omega) (by omega) (by omega) (by omega) (by omega) (by omega) (by omega)]; exact hC.1 i hi, hC.2.1.of (fun i _ _ => by rw [o1 107 (by omega) (by omega) (by omega) (by omega) (by omega) (by omega) (by omega) (by omega)]), hC.2.2.1.of (by rw [y10, v1 105 (by omega) (by omega) (by omega) (by omega) (by omega) (by omega)]) (o1 112 (by omega) (by omega) (by omega) (by omega) (by omega) (by omega) (by omega) (by omega)), hC.2.2.2.to hA.1.1 (fun j hj => by rw [y11 j hj, z6 110 (by omega) (by omega) (by omega)])⟩, hD.nil ?_ (o2 7 (by omega) (by omega) (by omega) (by omega) (by omega)) y5 (o2 111 (by omega) (by omega) (by omega) (by omega) (by omega)), hE.of (fun a h1 h2 => o1 a (by omega) (by omega) (by omega) (by omega) (by omega) (by omega) (by omega) (by omega)) (fun j _ => by rw [o1 107 (by omega) (by omega) (by omega) (by omega) (by omega) (by omega) (by omega) (by omega)]), hG.f15 (v := nI k) (by rw [o0]; exact z4) y3 (fun j h1 h2 => ?_) (fun j hj => o5 j (by omega)) (o1 78 (by omega) (by omega) (by omega) (by omega) (by omega) (by omega) (by omega) (by omega)) (o1 118 (by omega) (by omega) (by omega) (by omega) (by omega) (by omega) (by omega) (by omega)), hT.of (o1 43 (by omega) (by omega) (by omega) (by omega) (by omega) (by omega) (by omega) (by omega)) (o1 44 (by omega) (by omega) (by omega) (by omega) (by omega) (by omega) (by omega) (by omega)) (o5 35 (by omega)) (o1 117 (by omega) (by omega) (by omega) (by omega) (by omega) (by omega) (by omega) (by omega)), hI.of hR.rgI (fun a h1 h2 => o1 a (by omega) (by omega) (by omega) (by omega) (by omega) (by omega) (by omega) (by omega)) (fun a h1 h2 => o2 a (by omega) (by omega) (by omega) (by omega) (by omega)) (o1 121 (by omega) (by omega) (by omega) (by omega) (by omega) (by omega) (by omega) (by omega)) (o2 122 (by omega) (by omega) (by omega) (by omega) (by omega)) (o1 123 (by omega) (by omega) (by omega) (by omega) (by omega) (by omega) (by omega) (by omega))⟩
      · rw [y6 1 (by omega) (by omega) (by omega), z7]
      · rw [o0, z5 0 j (by omega) (by omega) (by omega) (by omega) (by omega) (by omega) (by omega) (by omega) (by omega) (by omega)]
    · rw [z1] at y1
      cases y1
  · have hR' := hR.swF
    have v1 : ∀ a, a ≠ 1 → a ≠ 3 → a ≠ 4 → a ≠ 5 → a ≠ 8 → a ≠ 9 → ¬ (g ≤ a ∧ a ≤ g + 8) → a ≠ 0 → a ≠ 12 → a ≠ s → V.1 a = T.1 a := fun a h1 h3 h4 h5 h8 h9 hg h0 h12 hs => funext fun j => z9 a j h1 h3 h4 h5 h8 h9 hg (fun e => h0 e.1) (fun e => h12 e.1) (fun e => hs e.1)
    rcases hm (up2 (up2 R 0 11 g) 0 12 f) V hR'.rm (by rw [v1 105 (by omega) (by omega) (by omega) (by omega) (by omega) (by omega) (by omega) (by omega) (by omega) (by omega)]) (v1 106 (by omega) (by omega) (by omega) (by omega) (by omega) (by omega) (by omega) (by omega) (by omega) (by omega)) (z10 111 (by omega) (by omega) (by omega)) with ⟨k', p', V', y1, _⟩ | ⟨F'', N'', t'', V', y1, y2, y3, y4, y5, y6, y7, y8, y9, y10, y11, y12, ⟨y13, y14, y15⟩⟩
    · rw [z1] at y1
      cases y1
    · rw [z1] at y1
      cases y1
      have o1 : ∀ a, a ≠ 1 → a ≠ 3 → a ≠ 4 → a ≠ 5 → a ≠ 8 → a ≠ 9 → ¬ (g ≤ a ∧ a ≤ g + 8) → a ≠ 0 → a ≠ 12 → a ≠ s → a ≠ 105 → a ≠ 107 → a ≠ 108 → V'.1 a = T.1 a := fun a h1 h3 h4 h5 h8 h9 hg h0 h12 hs h105 h107 h108 => by rw [y13 a h105 h107 h108, v1 a h1 h3 h4 h5 h8 h9 hg h0 h12 hs]
      have o2 : ∀ a, a ≠ 6 → a ≠ g + 2 → a ≠ g + 3 → a ≠ 105 → a ≠ 110 → V'.2 a = T.2 a := fun a h1 h2 h3 h4 h5 => by rw [y14 a h4 h5, z10 a h1 h2 h3]
      have o5 : ∀ j, j = 35 ∨ (24 ≤ j ∧ j ≤ 31) ∨ j = 39 → V'.1 105 j = T.1 105 j := fun j hj => by rw [y15 j (by omega) (by omega) (by omega) (by omega) (by omega) (by omega) (by omega) (by omega), v1 105 (by omega) (by omega) (by omega) (by omega) (by omega) (by omega) (by omega) (by omega) (by omega) (by omega)]
      have oc : ∀ a, a < 105 → V'.1 a = V.1 a := fun a ha => y13 a (by omega) (by omega) (by omega)
      have oc2 : ∀ a, a < 105 → V'.2 a = V.2 a := fun a ha => y14 a (by omega) (by omega)
      refine ⟨_, V, _, V', z2, y2, g, f, s, z, F', N', iC F', 0, fs, H, b, 0, [], ones, t, hR', ⟨z5, VC_iC z5.1, by omega, fun i hi => absurd hi (Nat.not_lt_zero i), by decide, Or.inl rfl⟩, ⟨(z4.at (fun a h1 h2 => oc a (by omega)) (fun p _ => by rw [oc2 _ (by omega)]) (fun p _ => by rw [oc2 _ (by omega)])).rf (hR'.rg (by omega)), z6.of (oc _ (by omega)) (oc _ (by omega)), by omega, hB.2.2.2.1, ?_, ?_, fun i hi => absurd hi (Nat.not_lt_zero i)⟩, ⟨y7, y8, ⟨y6, fun i hi => absurd hi (Nat.not_lt_zero i)⟩, y11, y12⟩, hD.nil ?_ (o2 7 (by omega) (by omega) (by omega) (by omega) (by omega)) y5 (o2 111 (by omega) (by omega) (by omega) (by omega) (by omega)), ⟨⟨?_, ?_, trivial⟩, y10, trivial⟩, hG.f15 (v := 0) (by rw [oc 0 (by omega)]; exact z3) y3 (fun j h1 h2 => ?_) (fun j hj => o5 j (by omega)) (o1 78 (by omega) (by omega) (by omega) (by omega) (by omega) (by omega) (by omega) (by omega) (by omega) (by omega) (by omega) (by omega) (by omega)) (o1 118 (by omega) (by omega) (by omega) (by omega) (by omega) (by omega) (by omega) (by omega) (by omega) (by omega) (by omega) (by omega) (by omega)), hT.of (o1 43 (by omega) (by omega) (by omega) (by omega) (by omega) (by omega) (by omega) (by omega) (by omega) (by omega) (by omega) (by omega) (by omega)) (o1 44 (by omega) (by omega) (by omega) (by omega) (by omega) (by omega) (by omega) (by omega) (by omega) (by omega) (by omega) (by omega) (by omega)) (o5 35 (by omega)) (o1 117 (by omega) (by omega) (by omega) (by omega) (by omega) (by omega) (by omega) (by omega) (by omega) (by omega) (by omega) (by omega) (by omega)), hI.of hR'.rgI (fun a h1 h2 => o1 a (by omega) (by omega) (by omega) (by omega) (by omega) (by omega) (by omega) (by omega) (by omega) (by omega) (by omega) (by omega) (by omega)) (fun a h1 h2 => o2 a (by omega) (by omega) (by omega) (by omega) (by omega)) (o1 121 (by omega) (by omega) (by omega) (by omega) (by omega) (by omega) (by omega) (by omega) (by omega) (by omega) (by omega) (by omega) (by omega)) (o2 122 (by omega) (by omega) (by omega) (by omega) (by omega)) (o1 123 (by omega) (by omega) (by omega) (by omega) (by omega) (by omega) (by omega) (by omega) (by omega) (by omega) (by omega) (by omega) (by omega))⟩
      · rw [oc 12 (by omega), z7]; rfl
      · rw [oc 12 (by omega), z9 12 1 (by omega) (by omega) (by omega) (by omega) (by omega) (by omega) (by omega) (by omega) (by omega) (by omega)]; exact hB.2.2.2.2.2.1
      · rw [oc 1 (by omega), z11]
      · rw [oc s (by omega), z9 s 0 (by omega) (by omega) (by omega) (by omega) (by omega) (by omega) (by omega) (by omega) (by omega) (by omega)]; exact hE.1.1
      · rw [oc s (by omega), z8]; rfl
      · rw [oc 0 (by omega), z9 0 j (by omega) (by omega) (by omega) (by omega) (by omega) (by omega) (by omega) (by omega) (by omega) (by omega)]
