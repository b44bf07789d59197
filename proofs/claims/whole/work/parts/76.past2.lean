/-! the reference's past; undo; days -/
theorem c_pop {R : Rf} {T : Mm} {n fs : Nat} {H : Nat → Nat → Int32} (hR : RP R) (r8 : R 8 4 = 9) (hp : PP T n fs H) (hn : 0 < n) : pX7_pop R T 12 8 = some (nI (n - 1), setC (wI T 12 0 (nI (n - 1))) 8 (H (n - 1))) := by
  obtain ⟨h1, h2, h3, h4, h5⟩ := hp
  obtain ⟨q1, q2, q3⟩ := hR
  have hm : nI fs + nI (n - 1) - (nI fs + nI (n - 1)) / 8 * 8 = nI ((fs + (n - 1)) % 8) := by
    rw [nI_add]
    exact pk_rem (d := 8) (by omega) (by decide) (by decide)
  have hlt : (fs + (n - 1)) % 8 < 8 := Nat.mod_lt _ (by decide)
  have hs : nI n - 1 = nI (n - 1) := pk_sub (b := 1) hn
  unfold pX7_pop
  rw [h3, if_neg (nI_ne0 hn (by omega)), hs]
  simp only [lt]
  rw [wI_s, wI_n (Or.inr (by decide)), h4, hm, ix_nI hlt (by decide), nI_clamp (by omega), q1, q2 _ hlt]
  have hC : CC (wI T 12 0 (nI (n - 1))) (14 + 2 * ((fs + (n - 1)) % 8)) (H (n - 1)) := (h5 (n - 1) (by omega)).of (by rw [wI_1, up2_row (by omega)]) (by rw [wI_1, up2_row (by omega)])
  rw [c_copy r8 (q3 _ hlt) (by omega) hC, bd1_some, setC_o (by decide) (by decide), wI_s]
theorem c_pop0 {R : Rf} {T : Mm} {fs : Nat} {H : Nat → Nat → Int32} (hp : PP T 0 fs H) : pX7_pop R T 12 8 = some (-1, T) := by
  unfold pX7_pop
  rw [hp.2.2.1, if_pos (show nI 0 = 0 from rfl)]
/-- what the reference's past touches -/
def FP (T T' : Mm) : Prop := (∀ a, a ≠ 105 → a ≠ 112 → T'.1 a = T.1 a) ∧ (∀ k, k ≠ 23 → T'.1 105 k = T.1 105 k) ∧ T'.2 = T.2
theorem m_stores {R : Rf} {T : Mm} {n N : Nat} {H : Nat → Nat → Int32} {C : Nat → Int32} (r6 : R 105 6 = 107) (r21 : R 105 21 = 112) (hn : n ≤ 8) (hp : PM T n N H) (hC : MC T N C) : ∃ T', pX12_stores R T 105 = some T' ∧ PM T' (phN n) N (phH n H C) ∧ FP T T' := by
  obtain ⟨h1, h2⟩ := hp
  have put : ∀ (U : Mm) (m : Nat), m < 8 → (∀ a, a ≠ 105 → a ≠ 112 → U.1 a = T.1 a) → (∀ k, k ≠ 23 → U.1 105 k = T.1 105 k) → U.2 = T.2 → U.1 105 23 = nI m → zl2 (pX12_stores_46 R 105 (pX12_stores_81 R 105)) FU U 0 = some (wI (cpR U 112 (9 * m) 107 80 9) 105 23 (nI (m + 1))) := by
    intro U m hm f1 f2 f3 hm2
    rw [zl2_copy (f := pX12_stores_46 R 105 (pX12_stores_81 R 105)) U 112 (9 * m) 107 80 9 (fun V => pX12_stores_81 R 105 V) (by decide) (by omega) ?_ ?_]
    · unfold pX12_stores_81
      simp only [lt]
      rw [cpR_o (by decide), hm2, nI_1]
    · intro r V i hV hi
      have e5 : V.1 105 23 = nI m := by rw [hV 105 (by decide), hm2]
      unfold pX12_stores_46
      rw [e5]
      simp (disch := omega) only [lt, jn, bd1_some, bd2_some, ix_nI, ix_lit, nI_clamp, lit_clamp, lit_add, add_lit, nI_add, nI_leI, nI_ltI, nI_eq, lit_le, le_lit, lit_lt, lt_lit, lit_eq, eq_lit, if_pos, if_neg, lit_mul, r6, r21]
    · intro r V
      unfold pX12_stores_46
      rw [if_pos (by decide)]
  have fin : ∀ (U : Mm) (m : Nat), m < 8 → (∀ a, a ≠ 105 → a ≠ 112 → U.1 a = T.1 a) → (∀ k, k ≠ 23 → U.1 105 k = T.1 105 k) → U.2 = T.2 → (∀ k, k < m → ∀ i, i < 9 → U.1 112 (9 * k + i) = r9 N (phH n H C k) i) → phH n H C m = C → phN n = m + 1 → PM (wI (cpR U 112 (9 * m) 107 80 9) 105 23 (nI (m + 1))) (phN n) N (phH n H C) ∧ FP T (wI (cpR U 112 (9 * m) 107 80 9) 105 23 (nI (m + 1))) := by
    intro U m hm f1 f2 f3 hU hCm hN
    refine ⟨⟨by rw [wI_s, hN], fun k hk i hi => ?_⟩, fun a ha hb => ?_, fun k hk => ?_, f3⟩
    · rw [wI_n (Or.inl (by decide))]
      by_cases e : k = m
      · subst e
        rw [cpR_s hi, f1 107 (by decide) (by decide), hCm]
        exact hC.row i hi
      · rw [cpR_n (by omega)]
        exact hU k (by omega) i hi
    · rw [wI_1, up2_row ha, cpR_o hb]
      exact f1 a ha hb
    · rw [wI_n (Or.inr hk), cpR_o (by decide)]
      exact f2 k hk
  unfold pX12_stores
  rw [h1]
  by_cases e : n < 8
  · rw [if_neg (fun z => by have := (nI_eq (b := 8) (by omega) (by decide)).mp z; omega), put T n e (fun _ _ _ => rfl) (fun _ _ => rfl) rfl h1]
    have hf := fin T n e (fun _ _ _ => rfl) (fun _ _ => rfl) rfl (fun k hk i hi => by
      unfold phH
      rw [if_pos e]
      rw [if_neg (by omega)]
      exact h2 k hk i hi) (by
      unfold phH
      rw [if_pos e]
      exact if_pos rfl) (by unfold phN; rw [if_pos e])
    exact ⟨_, rfl, hf.1, hf.2⟩
  · have en : n = 8 := by omega
    subst en
    rw [if_pos (by decide)]
    refine zl2_wp (f := pX12_stores_11 R 105 (pX12_stores_38 R 105)) (P := fun m U x => ∃ i, x = nI i ∧ i + m = 63 ∧ (∀ a, a ≠ 112 → U.1 a = T.1 a) ∧ U.2 = T.2 ∧ (∀ k, k < i → U.1 112 k = T.1 112 (k + 9)) ∧ ∀ k, i ≤ k → U.1 112 k = T.1 112 k) (Q := fun z => ∃ T', z = some T' ∧ PM T' (phN 8) N (phH 8 H C) ∧ FP T T') ?_ FU 63 T 0 (by rw [FU_eq]; omega) ⟨0, rfl, by omega, fun _ _ => rfl, rfl, fun k hk => by omega, fun _ _ => rfl⟩
    rintro m r U x ⟨i, rfl, hi, f1, f2, f3, f4⟩ hr
    unfold pX12_stores_11
    by_cases hlt : i < 63
    · simp (disch := omega) only [lt, jn, bd1_some, bd2_some, ix_nI, ix_lit, nI_clamp, lit_clamp, lit_add, add_lit, nI_add, nI_leI, nI_ltI, nI_eq, lit_le, le_lit, lit_lt, lt_lit, lit_eq, eq_lit, if_pos, if_neg, r21]
      refine hr (m - 1) _ _ (by omega) ⟨i + 1, rfl, by omega, fun a ha => by rw [wI_1, up2_row ha]; exact f1 a ha, f2, fun k hk => ?_, fun k hk => ?_⟩
      · by_cases ek : k = i
        · subst ek
          rw [wI_s, f4 _ (by omega)]
        · rw [wI_n (Or.inr ek)]
          exact f3 k (by omega)
      · rw [wI_n (Or.inr (by omega))]
        exact f4 k (by omega)
    · have ei : i = 63 := by omega
      subst ei
      rw [if_pos (by decide)]
      unfold pX12_stores_38
      simp only [lt]
      rw [put (wI U 105 23 7) 7 (by decide) (fun a ha hb => by rw [wI_1, up2_row ha]; exact f1 a hb) (fun k hk => by rw [wI_n (Or.inr hk), f1 105 (by decide)]) f2 wI_s]
      have hf := fin (wI U 105 23 7) 7 (by decide) (fun a ha hb => by rw [wI_1, up2_row ha]; exact f1 a hb) (fun k hk => by rw [wI_n (Or.inr hk), f1 105 (by decide)]) f2 (fun k hk i hi => by
        unfold phH
        rw [if_neg (by decide)]
        rw [if_neg (by omega), wI_n (Or.inl (by decide)), f3 _ (by omega), show 9 * k + i + 9 = 9 * (k + 1) + i by omega]
        exact h2 (k + 1) (by omega) i hi) (by
        unfold phH
        rw [if_neg (by decide)]
        rfl) rfl
      exact ⟨_, rfl, hf.1, hf.2⟩
theorem m_undo1 {R : Rf} {T : Mm} {n N : Nat} {H : Nat → Nat → Int32} (r6 : R 105 6 = 107) (r21 : R 105 21 = 112) (hn : 0 < n) (hn8 : n ≤ 8) (hp : PM T n N H) : pX12_undo R T 105 = some (nI (n - 1), setM (wI (wI T 105 0 0) 105 23 (nI (n - 1))) N (H (n - 1))) := by
  obtain ⟨h1, h2⟩ := hp
  have e1 : (wI T 105 0 0).1 105 23 = nI n := by rw [wI_n (Or.inr (by decide)), h1]
  have hs : nI n - 1 = nI (n - 1) := pk_sub (b := 1) hn
  unfold pX12_undo
  simp only [lt]
  rw [e1, if_neg (nI_ne0 hn (by omega)), hs]
  rw [zl2_copy (f := pX12_undo_26 R 105 (pX12_undo_61 R 105)) (wI (wI T 105 0 0) 105 23 (nI (n - 1))) 107 80 112 (9 * (n - 1)) 9 (fun V => pX12_undo_61 R 105 V) (by decide) (by omega) ?_ ?_]
  · rw [cpR_M (n := N) (C := H (n - 1)) (by decide) (fun i hi => by rw [wI_n (Or.inl (by decide)), wI_n (Or.inl (by decide))]; exact h2 (n - 1) (by omega) i hi)]
    unfold pX12_undo_61
    rw [setM_o (by decide), wI_s]
  · intro r V i hV hi
    have e5 : V.1 105 23 = nI (n - 1) := by rw [hV 105 (by decide), wI_s]
    unfold pX12_undo_26
    rw [e5]
    simp (disch := omega) only [lt, jn, bd1_some, bd2_some, ix_nI, ix_lit, nI_clamp, lit_clamp, lit_add, add_lit, nI_add, nI_leI, nI_ltI, nI_eq, lit_le, le_lit, lit_lt, lt_lit, lit_eq, eq_lit, if_pos, if_neg, lit_mul, r6, r21]
  · intro r V
    unfold pX12_undo_26
    rw [if_pos (by decide)]
theorem m_undo0 {R : Rf} {T : Mm} {N : Nat} {H : Nat → Nat → Int32} (hp : PM T 0 N H) : pX12_undo R T 105 = some (-1, wI T 105 0 0) := by
  unfold pX12_undo
  simp only [lt]
  rw [wI_n (Or.inr (by decide)), hp.1, if_pos (show nI 0 = 0 from rfl)]
