/-! TAG and byteAt, whole; MEAN's numbers -/
theorem m_tag1 {R : Rf} {T : Mm} {F : Nat → Nat} {C : Nat → Int32} (l : LV R T F C) (r9 : R 105 9 = 110) (r34 : R 105 34 = 117) {w : List Nat} (hw : IW w) {p : Nat} (hp : p < F 0) (hnm : T.2 110 p = w8 w) : ∃ T', pX12_tag R T 105 (nI p) = some (nI (tgS w (C (4 + p)) (paS F (wh (F 2) (C 2)) (brl F C p))).length, T') ∧ TXm T' (tgS w (C (4 + p)) (paS F (wh (F 2) (C 2)) (brl F C p))) ∧ FT (wI T 105 0 0) T' := by
  have l' := l.sw (a := 105) (k := 0) (v := 0) (by decide)
  have v0 := l.2.2.1.1
  have h7 := hw.2.1
  have hlt := hw.lt8
  have hsp := sp_en (B := 256) (o := 0) (by decide) w.length w rfl hw.c8 8 (by omega)
  have hnl := paS_le l.2.2.1 (J := wh (F 2) (C 2)) (A := brl F C p)
  unfold pX12_tag
  simp only [lt]
  rw [l'.isP1 hp, bd1_some, if10, ix_nI (by omega) (by decide), nI_clamp (by omega), r9]
  have e2 : (wI (wI T 105 0 0) 105 35 0).2 110 p = w8 w := hnm
  rw [e2]
  have f0 : FT (wI T 105 0 0) (wI (wI T 105 0 0) 105 35 0) := ⟨fun a h1 _ => by rw [wI_1, up2_row h1], fun k hk => wI_n (Or.inr hk), rfl⟩
  obtain ⟨U, hU1, hU2, hU3⟩ := m_spell r34 (j := w8 w) (N := enB 256 0 w) rfl (by omega) hw.ch (wI (wI T 105 0 0) 105 35 0) [] (by decide) ⟨wI_s, fun k hk => by cases hk⟩
  rw [List.nil_append, hsp] at hU2
  have fU := f0.trans hU3
  have lU : LV R U F C := l'.fr (fU.1 107 (by decide) (by decide))
  have e84 : U.1 107 (84 + p) = C (4 + p) := lU.2.2.2.2.2.2.2.2 p (by omega)
  rw [hU1, bd1_some]
  simp (disch := omega) only [lt, jn, bd1_some, bd2_some, ix_nI, ix_lit, nI_clamp, lit_clamp, lit_add, add_lit, nI_add, nI_leI, nI_ltI, nI_eq, lit_le, le_lit, lit_lt, lt_lit, lit_eq, eq_lit, if_pos, if_neg, l.1, e84]
  unfold pX12_tag_76 tgS
  have hstep : ∀ (s : List Nat) (N : Nat) (j : Int64), N < 2 ^ 62 → (∀ k, N / 256 ^ k % 256 < 128) → spB 256 0 N 8 = s → j = lN N → s.length ≤ 5 → C (4 + p) < 2 → ∃ T', bd1 (pX12_says R U 105 j) (fun (T6 : Mm) => if 2 ≤ C (4 + p) then bd1 (pX12_partsNow R T6 105 (nI p)) (fun (u7 : Int32) => bd1 (pX12_lays R T6 105 32) (fun (T8 : Mm) => if u7 ≤ 9 then pX12_tag_118 R 105 (nI p) T8 u7 else bd1 (pX12_lays R T8 105 (48 + (u7 / 10))) (fun (T10 : Mm) => pX12_tag_118 R 105 (nI p) T10 u7))) else some (T6.1 105 35, T6)) = some (nI (w ++ ([32] ++ s)).length, T') ∧ TXm T' (w ++ ([32] ++ s)) ∧ FT (wI T 105 0 0) T' := by
    intro s N j hN hch hs hj hsl hC
    obtain ⟨V, hV1, hV2, hV3⟩ := m_says1 r34 hU2 (by omega) hN hch hs hj
    rw [hV1, bd1_some, if_neg (Int32.not_le.mpr hC)]
    rw [List.append_assoc] at hV2
    exact ⟨V, by rw [hV2.1], hV2, fU.trans hV3⟩
  have hstep2 : ∀ (s : List Nat) (N : Nat) (j : Int64), N < 2 ^ 62 → (∀ k, N / 256 ^ k % 256 < 128) → spB 256 0 N 8 = s → j = lN N → s.length ≤ 3 → 2 ≤ C (4 + p) → ∃ T', bd1 (pX12_says R U 105 j) (fun (T6 : Mm) => if 2 ≤ C (4 + p) then bd1 (pX12_partsNow R T6 105 (nI p)) (fun (u7 : Int32) => bd1 (pX12_lays R T6 105 32) (fun (T8 : Mm) => if u7 ≤ 9 then pX12_tag_118 R 105 (nI p) T8 u7 else bd1 (pX12_lays R T8 105 (48 + (u7 / 10))) (fun (T10 : Mm) => pX12_tag_118 R 105 (nI p) T10 u7))) else some (T6.1 105 35, T6)) = some (nI (w ++ ([32] ++ s ++ [32]) ++ dgS (paS F (wh (F 2) (C 2)) (brl F C p))).length, T') ∧ TXm T' (w ++ ([32] ++ s ++ [32]) ++ dgS (paS F (wh (F 2) (C 2)) (brl F C p))) ∧ FT (wI T 105 0 0) T' := by
    intro s N j hN hch hs hj hsl hC
    obtain ⟨V, hV1, hV2, hV3⟩ := m_says1 r34 hU2 (by omega) hN hch hs hj
    have lV : LV R V F C := lU.fr (hV3.1 107 (by decide) (by decide))
    obtain ⟨W, hW1, hW2, hW3⟩ := m_lays1 r34 hV2 (by simp only [List.length_append, List.length_cons, List.length_nil]; omega) (c := 32) (by decide)
    obtain ⟨X, hX1, hX2, hX3⟩ := m_digits r34 hW2 (by simp only [List.length_append, List.length_cons, List.length_nil]; omega) hnl (nI p)
    rw [hV1, bd1_some, if_pos hC, lV.partsNow (by omega), bd1_some, show (32 : Int32) = nI 32 from rfl, hW1, bd1_some, hX1]
    have e : w ++ [32] ++ s ++ [32] = w ++ ([32] ++ s ++ [32]) := by simp
    rw [e] at hX2
    rw [e]
    exact ⟨X, rfl, hX2, ((fU.trans hV3).trans hW3).trans hX3⟩
  rcases l.2.2.2.1.2.2.2.1 p (by omega) with e | e | e | e
  · rw [e] at hstep ⊢
    rw [if_pos rfl, if_pos rfl]
    exact hstep [114, 101, 97, 100, 121] 491327153273 491327153273 (by decide) (chk (by decide) (by decide +kernel)) (by decide +kernel) rfl (by decide) (by decide)
  · rw [e] at hstep ⊢
    rw [if_neg (show ¬ (1 : Int32) = 0 by decide), if_neg (show ¬ (1 : Int32) = 0 by decide), if_pos rfl, if_pos rfl]
    exact hstep [104, 97, 110, 103, 115] 448311224179 448311224179 (by decide) (chk (by decide) (by decide +kernel)) (by decide +kernel) rfl (by decide) (by decide)
  · rw [e] at hstep2 ⊢
    rw [if_neg (show ¬ (2 : Int32) = 0 by decide), if_neg (show ¬ (2 : Int32) = 0 by decide), if_neg (show ¬ (2 : Int32) = 1 by decide), if_neg (show ¬ (2 : Int32) = 1 by decide), if_pos rfl, if_pos rfl]
    exact hstep2 [105, 110] 26990 26990 (by decide) (chk (by decide) (by decide +kernel)) (by decide +kernel) rfl (by decide) (by decide)
  · rw [e] at hstep2 ⊢
    rw [if_neg (show ¬ (3 : Int32) = 0 by decide), if_neg (show ¬ (3 : Int32) = 0 by decide), if_neg (show ¬ (3 : Int32) = 1 by decide), if_neg (show ¬ (3 : Int32) = 1 by decide), if_neg (show ¬ (3 : Int32) = 2 by decide), if_neg (show ¬ (3 : Int32) = 2 by decide)]
    exact hstep2 [111, 117, 116] 7304564 7304564 (by decide) (chk (by decide) (by decide +kernel)) (by decide +kernel) rfl (by decide) (by decide)
theorem dgS_len {n : Nat} : (dgS n).length ≤ 2 := by
  unfold dgS
  by_cases e : n < 10
  · rw [if_pos e]; simp
  · rw [if_neg e]; simp
theorem tgS_len {w : List Nat} (hw : IW w) {how : Int32} {n : Nat} : (tgS w how n).length ≤ 16 := by
  have h7 := hw.2.1
  have hd := dgS_len (n := n)
  unfold tgS
  by_cases e0 : how = 0
  · rw [if_pos e0, List.length_append]; show _ + 6 ≤ 16; omega
  · rw [if_neg e0]
    by_cases e1 : how = 1
    · rw [if_pos e1, List.length_append]; show _ + 6 ≤ 16; omega
    · rw [if_neg e1]
      by_cases e2 : how = 2
      · rw [if_pos e2, List.length_append, List.length_append]; show _ + 4 + _ ≤ 16; omega
      · rw [if_neg e2, List.length_append, List.length_append]; show _ + 5 + _ ≤ 16; omega
theorem k_tag {R : Rf} {T T' : Mm} {f : Nat} {F : Nat → Nat} {C : Nat → Int32} (h : KV R T f F C) (l : LV R T' F C) (r08 : R 0 8 = 43) (r43 : R 43 0 = 44) (r9 : R 105 9 = 110) (r34 : R 105 34 = 117) (hnm : ∀ p, p < F 0 → NR (T.2 (f + 2) p) (T'.2 110 p)) (x : Int32) : (pX11_tag R T 0 x = some (-1, T) ∧ pX12_tag R T' 105 x = some (-1, wI T' 105 0 0)) ∨ (∃ a U V t, pX11_tag R T 0 x = some (a, U) ∧ pX12_tag R T' 105 x = some (a, V) ∧ TXc U t ∧ TXm V t ∧ t.length ≤ 16 ∧ Fr S3 T U ∧ FT (wI T' 105 0 0) V) := by
  have l' := l.sw (a := 105) (k := 0) (v := 0) (by decide)
  obtain ⟨k1, k2, k3, k4, k5, k6, k7, k8, k9, k10⟩ := id h
  have v0 := k8.1
  by_cases e : ∃ p, p < F 0 ∧ x = nI p
  · obtain ⟨p, hp, rfl⟩ := e
    right
    obtain ⟨w, hw, hw1, hw2⟩ := hnm p hp
    obtain ⟨V, hV1, hV2, hV3⟩ := m_tag1 l r9 r34 hw hp hw2
    obtain ⟨g, hg⟩ := c_asTheyAre k4 (by omega) k7 k8 (by decide) k9.1 hp
    obtain ⟨U, hU1, hU2, hU3⟩ := c_write (T := setN T g) r43 hw (how := C (4 + p)) (k10.2.2.2.1 p (by omega)) (n := paS F (wh (F 2) (C 2)) (brl F C p)) (paS_le k8)
    refine ⟨_, U, V, _, ?_, hV1, hU2, hV2, tgS_len hw, ?_, hV3⟩
    · unfold pX11_tag
      rw [k3, h.hasP1 hp, bd1_some, if10, ix_nI (by omega) (by decide), ix_nI (by omega) (by decide), k2, k1, hg, bd2_some, r08, nI_clamp (by omega), k7.1.2.1, k5, k9.2 p (by omega), hw1, hU1, bd1_some, hU2.1]
    · refine ((Fr.refl (T := T)).sN (g := g) (Or.inl rfl)).trans (hU3.mono (fun a ha => ?_))
      rcases ha with ha | ha
      · exact Or.inr (Or.inl ha)
      · exact Or.inr (Or.inr ha)
  · left
    unfold pX11_tag pX12_tag
    simp only [lt]
    rw [k3, h.hasP0 e, bd1_some, if00, l'.isP0 e, bd1_some, if00]
    exact ⟨rfl, rfl⟩
theorem k_byteAt {R : Rf} {T T' : Mm} (r08 : R 0 8 = 43) (r43 : R 43 0 = 44) (r34 : R 105 34 = 117) {t : List Nat} (ht : t.length ≤ 16) (hc : TXc T t) (hm : TXm T' t) (x : Int32) : ∃ a, pX11_byteAt R T 0 x = some a ∧ pX12_byteAt R T' 105 x = some (a, wI T' 105 0 0) := by
  unfold pX11_byteAt pX12_byteAt
  simp only [lt]
  have e1 : (wI T' 105 0 0).1 105 35 = nI t.length := by rw [wI_n (Or.inr (by decide)), hm.1]
  rw [r08, hc.1, e1, m_isIn (by omega), bd1_some, r43, r34]
  by_cases e : ∃ k, k < t.length ∧ x = nI k
  · rw [if_pos e, if10]
    obtain ⟨k, hk, rfl⟩ := e
    rw [if_neg (nI_pos (by omega)), if_neg (nI_ge hk (by omega)), ix_nI (by omega) (by decide), nI_clamp (by omega), hc.2 k hk, ix_nI (by omega) (by decide), wI_n (Or.inl (by decide)), hm.2 k hk]
    exact ⟨_, rfl, rfl⟩
  · rw [if_neg e, if00]
    refine ⟨-1, ?_, rfl⟩
    by_cases z : x < 0
    · rw [if_pos z]
    · rw [if_neg z, if_pos]
      rcases pk_ix x (n := t.length) (by omega) with q | q | q
      · exact absurd q z
      · exact q
      · exact absurd q e
