/-! falls, both whole -/
def iC (F : Nat → Nat) : Nat → Int32 := fun k => if k = 1 then ((1 : Int32) <<< (nI (F 1) &&& 31)) - 1 else 0
def FW (g s : Nat) (T V : Mm) : Prop := (∀ a k, a ≠ 1 → a ≠ 3 → a ≠ 4 → a ≠ 5 → a ≠ 8 → a ≠ 9 → ¬ (g ≤ a ∧ a ≤ g + 8) → ¬ (a = 0 ∧ k = 15) → ¬ (a = 12 ∧ k = 0) → ¬ (a = s ∧ k = 1) → V.1 a k = T.1 a k) ∧ (∀ a, a ≠ 6 → a ≠ g + 2 → a ≠ g + 3 → V.2 a = T.2 a) ∧ V.1 1 1 = 0
theorem c_begin1 {R : Rf} {T : Mm} {g : Nat} {F : Nat → Nat} (r8 : R 8 4 = 9) (hg : 79 ≤ g) (h1 : T.1 g 1 = nI (F 1)) : ∃ V, pX1_begin R T 8 g = some V ∧ CC V 8 (iC F) ∧ (∀ a, a ≠ 8 → a ≠ 9 → V.1 a = T.1 a) ∧ V.2 = T.2 := by
  unfold pX1_begin
  simp only [lt]
  rw [wI_n (Or.inl (by omega)), h1]
  generalize hU : wI (wI (wI (wI T 8 0 0) 8 1 (((1 : Int32) <<< (nI (F 1) &&& 31)) - 1)) 8 2 0) 8 3 0 = U
  rw [zl2_fill U 9 (fun _ => 0) 5 (pX1_begin_47 R 8 g) (by omega) ?_ ?_]
  · unfold pX1_begin_47
    refine ⟨_, rfl, ⟨fun k hk => ?_, fun k hk => ?_⟩, fun a h1 h2 => ?_, ?_⟩
    · rw [fiR_out (Or.inl (by omega)), ← hU]
      have : k = 0 ∨ k = 1 ∨ k = 2 ∨ k = 3 := by omega
      rcases this with rfl | rfl | rfl | rfl
      all_goals
        simp (disch := omega) only [wI_n, wI_s]
        rfl
    · show (fiR U 9 (fun _ => 0) 5).1 9 k = _
      rw [fiR_in hk]
      unfold iC
      rw [if_neg (by omega)]
    · rw [fiR_o h2, ← hU]
      simp only [wI_1]
      rw [up2_row h1, up2_row h1, up2_row h1, up2_row h1]
    · rw [← hU]; rfl
  · intro r i hi
    unfold pX1_begin_29
    rw [if_neg (show ¬ (5 : Int32) ≤ nI i from nI_ge (b := 5) hi (by decide)), ix_nI hi (by decide), nI_clamp (by omega), r8]
    simp only [lt, nI_1]
  · intro r
    unfold pX1_begin_29
    rw [if_pos (by decide)]
theorem c_fallsW {R : Rf} {T : Mm} {b : Nat → Nat} {L f g s : Nat} (hR : RT R) (hX : XC T b L) (hG : RG R g) (h79 : 79 ≤ g) (h88 : g ≤ 88) (r00 : R 0 0 = 1) (r01 : R 0 1 = 8) (r84 : R 8 4 = 9) (r03 : R 0 3 = 12) (r011 : R 0 11 = f) (r012 : R 0 12 = g) (r013 : R 0 13 = s) (hs : 97 ≤ s) : (∃ k p V, rFW b L 900 34 (F0f, fun _ => [], 0) = paB k p ∧ gB L 900 k p ∧ pX11_falls R T 0 = some (-1 - nI p, V, R) ∧ V.1 0 15 = nI k ∧ FW g s T V ∧ (∀ k, V.1 8 k = T.1 8 k) ∧ (∀ k, V.1 9 k = T.1 9 k) ∧ V.1 12 0 = T.1 12 0 ∧ V.1 s 1 = T.1 s 1) ∨ ∃ F' N' t' V, rFW b L 900 34 (F0f, fun _ => [], 0) = paO (F', N', t') ∧ pX11_falls R T 0 = some (nI (cnF F'), V, up2 (up2 R 0 11 g) 0 12 f) ∧ V.1 0 15 = 0 ∧ CG R V g F' N' ∧ VSt F' N' ∧ CC V 8 (iC F') ∧ V.1 12 0 = 0 ∧ V.1 s 1 = 0 ∧ FW g s T V := by
  obtain ⟨u, V, v1, v2, v3⟩ := c_fallsRead hR hX hG h79
  unfold pX11_falls
  rw [r00, r012, r011, v1, bd2_some]
  simp only [lt]
  rw [wI_n (Or.inl (by decide)), wI_s]
  rcases v3 with ⟨k, p, z1, z2, z3, z4⟩ | ⟨F', N', t', z1, z2, z3, z4, z5⟩
  · left
    have hk : ¬ nI k = 0 := fun z => by
      have := (nI_eq (b := 0) (by have := z2.2.1; omega) (by omega)).mp z
      have := z2.1
      omega
    rw [z3, if_neg hk]
    simp (disch := omega) only [wI_n]
    rw [z4]
    refine ⟨k, p, _, z1, z2, rfl, ?_, ⟨fun a k h1 h2 h3 h4 h5 h6 h7 h8 h9 h10 => ?_, fun a h1 h2 h3 => v2.2.1 a h1 h2 h3, wI_s⟩, fun k => ?_, fun k => ?_, ?_, ?_⟩
    · rw [wI_n (Or.inl (by decide)), wI_s]
    · rw [wI_n (Or.inl h1), wI_n (by omega), v2.1 a h1 h2 h3 h4 h7]
    · rw [wI_n (Or.inl (by decide)), wI_n (Or.inl (by decide)), v2.1 8 (by decide) (by decide) (by decide) (by decide) (by omega)]
    · rw [wI_n (Or.inl (by decide)), wI_n (Or.inl (by decide)), v2.1 9 (by decide) (by decide) (by decide) (by decide) (by omega)]
    · rw [wI_n (Or.inl (by decide)), wI_n (Or.inl (by decide)), v2.1 12 (by decide) (by decide) (by decide) (by decide) (by omega)]
    · rw [wI_n (Or.inl (by omega)), wI_n (Or.inl (by omega)), v2.1 s (by omega) (by omega) (by omega) (by omega) (by omega)]
  · right
    rw [z3, if_pos rfl, up2_n (Or.inr (by decide)), up2_n (Or.inr (by decide)), r01, up2_n (Or.inr (by decide)), up2_s, up2_n (Or.inr (by decide)), up2_n (Or.inr (by decide)), r013, up2_n (Or.inr (by decide)), up2_n (Or.inr (by decide)), r03]
    obtain ⟨W, w1, w2, w3, w4⟩ := c_begin1 (R := up2 (up2 R 0 11 g) 0 12 f) (T := wI (wI V 0 15 0) 1 1 0) (g := g) (F := F') (by rw [up2_row (by decide), up2_row (by decide), r84]) h79 (by rw [wI_n (Or.inl (by omega)), wI_n (Or.inl (by omega))]; exact z4.1.2.2.1)
    rw [w1, bd1_some]
    have rows : ∀ a, a ≠ 0 → a ≠ 1 → a ≠ 8 → a ≠ 9 → a ≠ s → a ≠ 12 → (wI (wI W s 1 0) 12 0 0).1 a = V.1 a := fun a h0 h1 h8 h9 hs h12 => by
      rw [wI_1, up2_row h12, wI_1, up2_row hs, w3 a h8 h9, wI_1, up2_row h1, wI_1, up2_row h0]
    refine ⟨F', N', t', _, z1, by rw [z2], ?_, ?_, z5, ⟨fun k hk => ?_, fun k hk => ?_⟩, wI_s, ?_, ⟨fun a k h1 h2 h3 h4 h5 h6 h7 h8 h9 h10 => ?_, fun a h1 h2 h3 => ?_, ?_⟩⟩
    · rw [wI_n (Or.inl (by decide)), wI_n (Or.inl (by omega)), w3 0 (by decide) (by decide), wI_n (Or.inl (by decide)), wI_s]
    · exact z4.at (fun a h1 h2 => rows a (by omega) (by omega) (by omega) (by omega) (by omega) (by omega)) (fun p _ => by show W.2 _ _ = _; rw [w4]; rfl) (fun p _ => by show W.2 _ _ = _; rw [w4]; rfl)
    · rw [wI_n (Or.inl (by decide)), wI_n (Or.inl (by omega))]; exact w2.1 k hk
    · rw [wI_n (Or.inl (by decide)), wI_n (Or.inl (by omega))]; exact w2.2 k hk
    · rw [wI_n (Or.inl (by omega)), wI_s]
    · rw [wI_n (by omega), wI_n (by omega), w3 a h5 h6, wI_n (Or.inl h1), wI_n (by omega), v2.1 a h1 h2 h3 h4 h7]
    · show W.2 a = _
      rw [w4]
      exact v2.2.1 a h1 h2 h3
    · rw [wI_n (Or.inl (by decide)), wI_n (Or.inl (by omega)), w3 1 (by decide) (by decide), wI_s]
/-- what the reference's falls may touch -/
def FN (T V : Mm) : Prop := (∀ a, a ≠ 105 → a ≠ 107 → a ≠ 108 → V.1 a = T.1 a) ∧ (∀ a, a ≠ 105 → a ≠ 110 → V.2 a = T.2 a) ∧ ∀ k, k ≠ 0 → k ≠ 2 → k ≠ 3 → k ≠ 4 → k ≠ 5 → ¬ (11 ≤ k ∧ k ≤ 16) → ¬ (18 ≤ k ∧ k ≤ 20) → k ≠ 23 → V.1 105 k = T.1 105 k
theorem m_fallsW {R : Rf} {T : Mm} {b : Nat → Nat} {L : Nat} (hr : RM R) (hL : L ≤ 940) (h2 : T.1 105 2 = nI L) (hb : ∀ k, k < L → b k < 256 ∧ T.1 106 k &&& 255 = nI (b k)) (hkw : ∀ k, k < 24 → T.2 111 k = w8 (kwk k)) : (∃ k p V, rFW b L 900 34 (F0f, fun _ => [], 0) = paB k p ∧ pX12_falls R T 105 = some (-1 - nI p, V) ∧ V.1 105 15 = nI k ∧ V.1 105 0 = 0 ∧ V.1 105 2 = 0 ∧ FN T V ∧ V.1 107 = T.1 107 ∧ V.1 105 23 = T.1 105 23 ∧ ∀ k, k < 15 → V.2 110 k = T.2 110 k) ∨ ∃ F' N' t' V, rFW b L 900 34 (F0f, fun _ => [], 0) = paO (F', N', t') ∧ pX12_falls R T 105 = some (nI (cnF F'), V) ∧ V.1 105 15 = 0 ∧ V.1 105 0 = 0 ∧ V.1 105 2 = 0 ∧ V.1 105 23 = 0 ∧ MF V F' ∧ MC V (F' 2) (iC F') ∧ VSt F' N' ∧ V.1 107 89 = 0 ∧ (∀ p, p < F' 0 → V.2 110 p = w8 (N' p)) ∧ (∀ i, i < F' 1 → V.2 110 (5 + i) = w8 (N' (5 + i))) ∧ FN T V := by
  obtain ⟨r1, r6, r7, r8, r9, r10, r21, r22, r28, r32, r33, r34, r38, r40, r46, r47, r48, r49⟩ := id hr
  unfold pX12_falls pX12_taken
  simp only [lt]
  rw [bd1_some]
  generalize hU : wI (wI (wI (wI (wI (wI (wI (wI T 105 0 0) 105 3 ((wI T 105 0 0).1 105 2)) 105 2 0) 105 4 0) 105 5 900) 105 15 0) 105 19 0) 105 20 0 = U
  obtain ⟨V, c1, c2, c3, c4⟩ := m_clears (R := R) (T := U) r7
  rw [c1, bd1_some]
  have u105 : ∀ k, k ≠ 0 → k ≠ 3 → k ≠ 2 → k ≠ 4 → k ≠ 5 → k ≠ 15 → k ≠ 19 → k ≠ 20 → V.1 105 k = T.1 105 k := by
    intro k h0 h3 h2 h4 h5 h15 h19 h20
    rw [c2 105 (by decide), ← hU]
    simp (disch := omega) only [wI_n]
  have uo : ∀ a, a ≠ 105 → a ≠ 108 → V.1 a = T.1 a := by
    intro a h1 h2
    rw [c2 a h2, ← hU]
    simp only [wI_1]
    rw [up2_row h1, up2_row h1, up2_row h1, up2_row h1, up2_row h1, up2_row h1, up2_row h1, up2_row h1]
  have u2 : V.2 = T.2 := by rw [c3, ← hU]; rfl
  have v0 : V.1 105 0 = 0 := by rw [c2 105 (by decide), ← hU]; simp (disch := omega) only [wI_n, wI_s]
  have v2 : V.1 105 2 = 0 := by rw [c2 105 (by decide), ← hU]; simp (disch := omega) only [wI_n, wI_s]
  have v3 : V.1 105 3 = nI L := by rw [c2 105 (by decide), ← hU]; simp (disch := omega) only [wI_n, wI_s]; exact h2
  have v4 : V.1 105 4 = nI 0 := by rw [c2 105 (by decide), ← hU]; simp (disch := omega) only [wI_n, wI_s]; rfl
  have v5 : V.1 105 5 = nI 900 := by rw [c2 105 (by decide), ← hU]; simp (disch := omega) only [wI_n, wI_s]; rfl
  have v15 : V.1 105 15 = 0 := by rw [c2 105 (by decide), ← hU]; simp (disch := omega) only [wI_n, wI_s]
  have v19 : V.1 105 19 = 0 := by rw [c2 105 (by decide), ← hU]; simp (disch := omega) only [wI_n, wI_s]
  have v20 : V.1 105 20 = 0 := by rw [c2 105 (by decide), ← hU]; simp (disch := omega) only [wI_s]
  have hXM : XM V b L 900 := ⟨hL, by omega, v3, v5, fun k hk => by rw [uo 106 (by decide) (by decide)]; exact hb k hk⟩
  obtain ⟨W, w1, w2, w3⟩ := m_next (R := R) r1 hXM v4 (by omega)
  rw [w1, bd1_some]
  have hCu : CuM W b L 900 0 := ⟨hXM.fx w2, Nat.zero_le _, w3, fun k hk => by rw [(w2.1 111 (by decide)).2, u2]; exact hkw k hk⟩
  have hMG : MG W F0f (fun _ => []) := by
    have e20 : W.1 105 20 = 0 := by rw [w2.2.1 20 (by decide) (by decide) (by decide) (by decide) (by decide), v20]
    exact ⟨fun k hk => by rw [(w2.1 108 (by decide)).1, c4 k hk], by rw [e20]; decide, by rw [e20]; decide, fun p hp => absurd hp (Nat.not_lt_zero p), fun p hp => absurd hp (Nat.not_lt_zero p)⟩
  have hw19 : W.1 105 19 = nI (cnF F0f) := by rw [w2.2.1 19 (by decide) (by decide) (by decide) (by decide) (by decide), v19]; rfl
  have fW : ∀ X, FQ9 W X → (∀ a, a ≠ 105 → a ≠ 108 → X.1 a = T.1 a) ∧ (∀ a, a ≠ 105 → a ≠ 110 → X.2 a = T.2 a) ∧ (∀ k, k ≠ 0 → k ≠ 2 → k ≠ 3 → k ≠ 4 → k ≠ 5 → ¬ (11 ≤ k ∧ k ≤ 16) → ¬ (18 ≤ k ∧ k ≤ 20) → X.1 105 k = T.1 105 k) ∧ X.1 105 0 = 0 ∧ X.1 105 2 = 0 ∧ ∀ k, k < 15 → X.2 110 k = T.2 110 k := by
    intro X hX
    refine ⟨fun a h1 h2 => ?_, fun a h1 h2 => ?_, fun k h0 h2 h3 h4 h5 h11 h18 => ?_, ?_, ?_, fun k hk => ?_⟩
    · rw [hX.1 a h1 h2, (w2.1 a h1).1, uo a h1 h2]
    · rw [hX.2.1 a h1 h2, (w2.1 a h1).2, u2]
    · rw [hX.2.2.1 k h4 h11 h18, w2.2.1 k h4 (by omega) (by omega) (by omega) (by omega), u105 k h0 h3 h2 h4 h5 (by omega) (by omega) (by omega)]
    · rw [hX.2.2.1 0 (by decide) (by decide) (by decide), w2.2.1 0 (by decide) (by decide) (by decide) (by decide) (by decide), v0]
    · rw [hX.2.2.1 2 (by decide) (by decide) (by decide), w2.2.1 2 (by decide) (by decide) (by decide) (by decide) (by decide), v2]
    · rw [hX.2.2.2.2 k hk, (w2.1 110 (by decide)).2, u2]
  rcases m_fLoop (b := b) (L := L) (M := 900) hr 34 FU W F0f (fun _ => []) 0 F0_v hMG hCu hw19 rfl (by decide) with ⟨k, p, X, y1, y2, y3, y4, y5⟩ | ⟨F', N', t', X, y1, y2, y3, y4, y5, y6, y7⟩
  · left
    obtain ⟨x1, x2, x3, x4, x5, x6⟩ := fW X y3
    exact ⟨k, p, X, y1, y2, y4, x4, x5, ⟨fun a h1 _ h3 => x1 a h1 h3, x2, fun k h0 h2 h3 h4 h5 h11 h18 _ => x3 k h0 h2 h3 h4 h5 h11 h18⟩, x1 107 (by decide) (by decide), x3 23 (by decide) (by decide) (by decide) (by decide) (by decide) (by decide) (by decide), x6⟩
  · right
    obtain ⟨x1, x2, x3, x4, x5, x6⟩ := fW X y3
    obtain ⟨g1, g2, g3, g4, g5⟩ := y4
    obtain ⟨⟨k0, k1, k2, _⟩, _⟩ := id y5
    rw [y2]
    unfold pX12_falls_78
    rw [zl2_fill X 107 (fun i => if i < 80 then X.1 108 i else 0) 270 (pX12_falls_115 R 105) (by omega) ?_ ?_]
    · generalize hY : fiR X 107 (fun i => if i < 80 then X.1 108 i else 0) 270 = Y
      unfold pX12_falls_115
      rw [zl2_fillJ Y 110 (fun i => Y.2 110 (15 + i)) 15 (pX12_falls_144 R 105) (by omega) ?_ ?_]
      · generalize hZ : fjR Y 110 (fun i => Y.2 110 (15 + i)) 15 = Z
        have z1 : Z.1 = Y.1 := by rw [← hZ]; rfl
        have yo : ∀ a, a ≠ 107 → Y.1 a = X.1 a := fun a ha => by rw [← hY, fiR_o ha]
        have y107 : ∀ k, k < 270 → Y.1 107 k = if k < 80 then X.1 108 k else 0 := fun k hk => by rw [← hY, fiR_in hk]
        have yy2 : Y.2 = X.2 := by rw [← hY]; rfl
        have z110 : ∀ k, k < 15 → Z.2 110 k = X.2 110 (15 + k) := fun k hk => by rw [← hZ, fjR_in hk, yy2]
        have zo : ∀ a, a ≠ 110 → Z.2 a = X.2 a := fun a ha => by rw [← hZ, fjR_o ha, yy2]
        have z107 : ∀ k, k < 80 → Z.1 107 k = nI (F' k) := fun k hk => by rw [z1, y107 k (by omega), if_pos hk, g1 k hk]
        have z107' : ∀ k, 80 ≤ k → k < 270 → Z.1 107 k = 0 := fun k hk h => by rw [z1, y107 k h, if_neg (by omega)]
        have z105 : Z.1 105 = X.1 105 := by rw [z1, yo 105 (by decide)]
        unfold pX12_falls_144
        simp (disch := omega) only [lt, ix_lit, lit_clamp]
        rw [r6, z107 1 (by omega)]
        simp (disch := omega) only [wI_n]
        rw [z107 2 (by omega), z105, y7]
        refine ⟨F', N', t', _, y1, rfl, ?_, ?_, ?_, wI_s, fun k hk => ?_, ⟨?_, ?_, ?_, ?_, fun p hp => ?_⟩, y5, ?_, fun p hp => ?_, fun i hi => ?_, ⟨fun a h1 h2 h3 => ?_, fun a h1 h2 => ?_, fun k h0 h2 h3 h4 h5 h11 h18 h23 => ?_⟩⟩
        · simp (disch := omega) only [wI_n]
          rw [z105, y6, w2.f15, v15]
        · simp (disch := omega) only [wI_n]
          rw [z105, x4]
        · simp (disch := omega) only [wI_n]
          rw [z105, x5]
        · simp (disch := omega) only [wI_n]
          exact z107 k hk
        · simp (disch := omega) only [wI_n]
          exact z107' 80 (by omega) (by omega)
        · simp (disch := omega) only [wI_n, wI_s]
          rfl
        · simp (disch := omega) only [wI_n, wI_s]
          refine b_ext fun i hi => ?_
          rw [mask_bt _ (by omega) i hi, bt_wh (by omega) hi]
          unfold iC
          rw [if_neg (by decide), b_0]
          simp
        · simp (disch := omega) only [wI_n]
          exact z107' 83 (by omega) (by omega)
        · simp (disch := omega) only [wI_n]
          rw [z107' (84 + p) (by omega) (by omega)]
          unfold iC
          rw [if_neg (by omega)]
        · simp (disch := omega) only [wI_n]
          exact z107' 89 (by omega) (by omega)
        · show Z.2 110 p = _
          rw [z110 p (by omega)]
          exact g4 p hp
        · show Z.2 110 (5 + i) = _
          rw [z110 (5 + i) (by omega), show 15 + (5 + i) = 20 + i by omega]
          exact g5 i hi
        · rw [wI_1, up2_row h1, wI_1, up2_row h2, wI_1, up2_row h2, z1, yo a h2, x1 a h1 h3]
        · show Z.2 a = _
          rw [zo a h2, x2 a h1 h2]
        · rw [wI_n (Or.inr h23), wI_n (Or.inl (by decide)), wI_n (Or.inl (by decide)), z105, x3 k h0 h2 h3 h4 h5 h11 h18]
      · intro r i hi
        unfold pX12_falls_117
        rw [if_neg (show ¬ (15 : Int32) ≤ nI i from nI_ge (b := 15) hi (by decide)), show (15 : Int32) = nI 15 from rfl, nI_add, ix_nI (by omega) (by decide), ix_nI (by omega) (by decide), nI_clamp (by omega), nI_clamp (by omega), r9, fjR_out (Or.inr (by omega))]
        simp only [lt, nI_1]
      · intro r
        unfold pX12_falls_117
        rw [if_pos (by decide)]
    · intro r i hi
      unfold pX12_falls_80
      rw [if_neg (show ¬ (270 : Int32) ≤ nI i from nI_ge (b := 270) hi (by decide)), r6, r7]
      simp (disch := omega) only [lt, nI_1, lit_le, ix_nI, nI_clamp]
      by_cases e : i < 80
      · rw [if_neg (by omega), fiR_o (by decide), if_pos e]
      · rw [if_pos (by omega), if_neg e]
    · intro r
      unfold pX12_falls_80
      rw [if_pos (by decide)]
