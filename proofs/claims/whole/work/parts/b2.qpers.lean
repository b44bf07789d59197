/-! person, mean: the class's (none: it threw) against the reference's -/
theorem m_thr0 {R : Rf} {T : Mm} : pX12_throwsIf R T 105 0 = some (0, wI T 105 0 0) := rfl
theorem m_thr1 {R : Rf} {T : Mm} : pX12_throwsIf R T 105 1 = some (1, wI T 105 0 1) := rfl
theorem k_person {R : Rf} {T T' : Mm} {f : Nat} {F : Nat → Nat} {C : Nat → Int32} (h : KV R T f F C) (l : LV R T' F C) (x y : Int32) : (pX11_person R T 0 x y = some (none, T) ∧ pX12_person R T' 105 x y = some (0, wI T' 105 0 1)) ∨ ∃ a g, pX11_person R T 0 x y = some (some a, setN T g) ∧ pX12_person R T' 105 x y = some (a, wI T' 105 0 0) := by
  have l' := l.sw (a := 105) (k := 0) (v := 0) (by decide)
  obtain ⟨k1, k2, k3, k4, k5, k6, k7, k8, k9, k10⟩ := id h
  obtain ⟨l1, l2, l3, l4, l5⟩ := id l'
  obtain ⟨v0, v1, v2, v3, v4, v5, v6, vs, vo, vj⟩ := id k8
  have thr : pX12_person_18 R 105 x y T' 105 = some (0, wI T' 105 0 1) := by
    unfold pX12_person_18 pX12_person_23
    rw [m_thr1, bd2_some, if_neg (by decide)]
  unfold pX11_person pX12_person
  by_cases e1 : ∃ p, p < F 0 ∧ x = nI p
  · obtain ⟨p, hp, rfl⟩ := e1
    have hi := m_isIn (R := R) (T := T') (n := 6) (by decide) y
    rw [show nI 6 - 1 = 5 from by decide] at hi
    rw [k3, h.hasP1 hp, bd1_some, if10, l.isP1 hp, bd1_some, if10, hi, bd1_some]
    by_cases e2 : ∃ j, j < 6 ∧ y = nI j
    · right
      rw [if_pos e2, if10]
      unfold pX12_person_23
      rw [m_thr0, bd2_some, if_pos rfl]
      obtain ⟨j, hj, rfl⟩ := e2
      obtain ⟨⟨q5, q6, q7, q8, q9, q10, q11, q12⟩, f0, f1, f2, f3, f4, f14, f15, cs, co, cw, ca, cb, ch⟩ := id k7
      obtain ⟨g, hg⟩ := c_asTheyAre (c := 8) (C := C) k4 (by omega) k7 k8 (by decide) k9.1 hp
      have hj' : j = 0 ∨ j = 1 ∨ j = 2 ∨ j = 3 ∨ j = 4 ∨ j = 5 := by omega
      rcases hj' with rfl | rfl | rfl | rfl | rfl | rfl
      · refine ⟨nI (F (7 + p)), T.1 34, ?_, ?_⟩
        · rw [if_pos (by decide), ix_nI (by omega) (by decide), nI_clamp (by omega), k7.1.1, k7.2.2.2.2.2.2.2.2.1 p hp, setN_self]
        · rw [if_pos (by decide), show (7 : Int32) + nI p = nI (7 + p) from nI_add 7 p, ix_nI (by omega) (by decide), nI_clamp (by omega), l1, l2 (7 + p) (by omega)]
      · refine ⟨C (4 + p), T.1 34, ?_, ?_⟩
        · rw [if_neg (by decide), if_pos (by decide), ix_nI (by omega) (by decide), nI_clamp (by omega), k1, k5, k9.2 p (by omega), setN_self]
        · rw [if_neg (by decide), if_pos (by decide), show (84 : Int32) + nI p = nI (84 + p) from nI_add 84 p, ix_nI (by omega) (by decide), nI_clamp (by omega), l1, l5.2.2.2.2 p (by omega)]
      · refine ⟨nI (wtC F C p), T.1 34, ?_, ?_⟩
        · rw [if_neg (by decide), if_neg (by decide), if_pos (by decide), k1, c_weight k7 k8 (k9.1 1 (by decide)) (by omega), bd1_some, setN_self]
        · rw [if_neg (by decide), if_neg (by decide), if_pos (by decide), l'.weight (by omega), bd1_some]
      · refine ⟨nI (paS F (wh (F 2) (C 2)) (brl F C p)), g, ?_, ?_⟩
        · rw [if_neg (by decide), if_neg (by decide), if_neg (by decide), if_pos (by decide), k1, k2, hg, bd2_some]
        · rw [if_neg (by decide), if_neg (by decide), if_neg (by decide), if_pos (by decide), l'.partsNow (by omega), bd1_some]
      · refine ⟨brl F C p, T.1 34, ?_, ?_⟩
        · rw [if_neg (by decide), if_neg (by decide), if_neg (by decide), if_neg (by decide), if_pos (by decide), c_itemsOfS k7 k8 (by omega), bd1_some, k1, k9.1 1 (by decide), setN_self, Int32.and_comm]
          rfl
        · rw [if_neg (by decide), if_neg (by decide), if_neg (by decide), if_neg (by decide), if_pos (by decide), l'.barrel (by omega), bd1_some]
      · refine ⟨ofS F p, T.1 34, ?_, ?_⟩
        · rw [if_neg (by decide), if_neg (by decide), if_neg (by decide), if_neg (by decide), if_neg (by decide), if_pos (by decide), c_itemsOfS k7 k8 (by omega), bd1_some, setN_self]
        · rw [if_neg (by decide), if_neg (by decide), if_neg (by decide), if_neg (by decide), if_neg (by decide), m_allOfS l1 l2 l3 (by omega), bd1_some]
    · left
      rw [if_neg e2, if00, thr]
      refine ⟨?_, rfl⟩
      rw [if_neg (show ¬ y = 0 from fun c => e2 ⟨0, by decide, c⟩), if_neg (show ¬ y = 1 from fun c => e2 ⟨1, by decide, c⟩), if_neg (show ¬ y = 2 from fun c => e2 ⟨2, by decide, c⟩), if_neg (show ¬ y = 3 from fun c => e2 ⟨3, by decide, c⟩), if_neg (show ¬ y = 4 from fun c => e2 ⟨4, by decide, c⟩), if_neg (show ¬ y = 5 from fun c => e2 ⟨5, by decide, c⟩)]
  · left
    rw [k3, h.hasP0 e1, bd1_some, if00, l.isP0 e1, bd1_some, if00, thr]
    exact ⟨rfl, rfl⟩
theorem cnt_0 : ∀ B, B < 1024 → (nI B = 0 ↔ cnt (bt (nI B)) 10 = 0) := by decide +kernel
theorem k_mean {R : Rf} {T T' : Mm} {f : Nat} {F : Nat → Nat} {C : Nat → Int32} (h : KV R T f F C) (l : LV R T' F C) (x y : Int32) : (pX11_mean R T 0 x y = some (none, T) ∧ pX12_mean R T' 105 x y = some (0, wI T' 105 0 1)) ∨ ∃ a, pX11_mean R T 0 x y = some (some a, T) ∧ pX12_mean R T' 105 x y = some (a, wI T' 105 0 0) := by
  have l' := l.sw (a := 105) (k := 0) (v := 0) (by decide)
  obtain ⟨k1, k2, k3, k4, k5, k6, k7, k8, k9, k10⟩ := id h
  obtain ⟨v0, v1, v2, v3, v4, v5, v6, vs, vo, vj⟩ := id k8
  have thr : pX12_mean_26 R 105 x y T' 105 = some (0, wI T' 105 0 1) := by
    unfold pX12_mean_26 pX12_mean_31
    rw [m_thr1, bd2_some, if_neg (by decide)]
  unfold pX11_mean pX12_mean
  by_cases e1 : ∃ p, p < F 0 ∧ x = nI p
  · obtain ⟨p, hp, rfl⟩ := e1
    have hi := m_isIn (R := R) (T := T') (n := 2) (by decide) y
    rw [show nI 2 - 1 = 1 from by decide] at hi
    have hb : ∀ i, i < 32 → bt (brl F C p) i = true → i < 10 := fun i _ hb => by
      have := (brl_own k8 hb).1
      omega
    have hw := wtC_le k8 (C := C) (p := p)
    obtain ⟨B, hB, hBe⟩ := brl_nI k8 C p
    have hBl : B < 1024 := Nat.lt_of_lt_of_le hB (Nat.pow_le_pow_right (by decide) (show F 1 ≤ 10 by omega))
    have hcn : cnt (bt (brl F C p)) 10 < 11 := Nat.lt_succ_of_le (cnt_le _ 10)
    have hz : brl F C p = 0 ↔ cnt (bt (brl F C p)) 10 = 0 := by
      rw [hBe]
      exact cnt_0 B hBl
    have hba : C 1 &&& ofS F p = brl F C p := Int32.and_comm _ _
    rw [k3, h.hasP1 hp, bd1_some, if10, l.isP1 hp, bd1_some, if10, hi, bd1_some, k1, c_weight k7 k8 (k9.1 1 (by decide)) (by omega), bd1_some, c_itemsOfS k7 k8 (by omega), bd1_some, k9.1 1 (by decide), hba, c_bits hb, bd1_some]
    by_cases e3 : cnt (bt (brl F C p)) 10 = 0
    · left
      have hn : nI (cnt (bt (brl F C p)) 10) = 0 := by rw [e3]; rfl
      rw [if_pos hn]
      refine ⟨rfl, ?_⟩
      by_cases e2 : ∃ j, j < 2 ∧ y = nI j
      · rw [if_pos e2, if10, l.barrel (by omega), bd1_some, if_pos (hz.mpr e3), thr]
      · rw [if_neg e2, if00, thr]
    · have hn : ¬ nI (cnt (bt (brl F C p)) 10) = 0 := fun q => e3 ((nI_eq (b := 0) (by omega) (by omega)).mp q)
      rw [if_neg hn, com_K]
      obtain ⟨g1, g2, g3⟩ := (gcd_all _ hcn _ (Nat.lt_succ_of_le hw)).resolve_left e3
      cases hd : comK (nI (wtC F C p)) (nI (cnt (bt (brl F C p)) 10)) with
      | none => exact absurd hd g2
      | some d =>
        have d0 : ¬ d = 0 := fun q => g3 (by rw [hd, q])
        rw [hd] at g1
        rw [bd1_some]
        by_cases e2 : ∃ j, j < 2 ∧ y = nI j
        · right
          rw [if_pos e2, if10, l.barrel (by omega), bd1_some, if_neg (fun q => e3 (hz.mp q))]
          unfold pX12_mean_31
          rw [m_thr0, bd2_some, if_pos rfl, l'.barrel (by omega), bd1_some, m_bits hb, bd1_some, l'.weight (by omega), bd1_some, eu_K]
          rw [show zl2 (fun (r : Int32 → Int32 → Option Int32) (x3 x4 : Int32) => if x4 = 0 then some x3 else nz x4 (r x4 (x3 - x3 / x4 * x4))) FU (nI (cnt (bt (brl F C p)) 10)) (nI (wtC F C p)) = some d from g1.symm, bd1_some]
          unfold pX12_mean_76
          have hnz : ∀ {ρ : Type} {k : Option ρ}, nz d k = k := fun {ρ k} => by unfold nz; rw [if_neg d0]
          obtain ⟨j, hj, rfl⟩ := e2
          have hj' : j = 0 ∨ j = 1 := by omega
          rcases hj' with rfl | rfl
          · refine ⟨nI (wtC F C p) / d, ?_, ?_⟩
            · rw [if_pos (by decide), hnz]
            · rw [if_pos (by decide), l'.weight (by omega), bd1_some, hnz]
          · refine ⟨nI (cnt (bt (brl F C p)) 10) / d, ?_, ?_⟩
            · rw [if_neg (by decide), if_pos (by decide), hnz]
            · rw [if_neg (by decide), l'.barrel (by omega), bd1_some, m_bits hb, bd1_some, hnz]
        · left
          rw [if_neg e2, if00, thr]
          refine ⟨?_, rfl⟩
          rw [if_neg (show ¬ y = 0 from fun c => e2 ⟨0, by decide, c⟩), if_neg (show ¬ y = 1 from fun c => e2 ⟨1, by decide, c⟩)]
  · left
    rw [k3, h.hasP0 e1, bd1_some, if00, l.isP0 e1, bd1_some, if00, thr]
    exact ⟨rfl, rfl⟩
/-- what person and mean do, under what holds between two calls -/
def QPx (R : Rf) (T : Mm) (cl : Option (Option Int32 × Mm)) (rf : Mm → Option (Int32 × Mm)) : Prop := ∃ o V a V', cl = some (o, V) ∧ rf V = some (a, V') ∧ V'.1 105 0 = (if o = none then 1 else 0) ∧ (o = none ∨ o = some a) ∧ IV R V'
theorem q_person {R : Rf} {T : Mm} (h : IV R T) (x y : Int32) : QPx R T (pX11_person R T 0 x y) (fun V => pX12_person R V 105 x y) := by
  obtain ⟨f, g, s, z, F, N, C, n, fs, H, b, L, c, ones, t, h⟩ := h
  rcases k_person h.kv h.lv x y with ⟨h1, h2⟩ | ⟨a, q, h1, _⟩
  · exact ⟨none, T, _, _, h1, h2, by rw [wI_s, if_pos rfl], Or.inl rfl, ⟨f, g, s, z, F, N, C, n, fs, H, b, L, c, ones, t, h.s0 (by unfold Ker; omega)⟩⟩
  · rcases k_person h.kv (h.sN (q := q)).lv x y with ⟨h1', _⟩ | ⟨a', q', h1', h2'⟩
    · rw [h1] at h1'
      cases h1'
    · obtain ⟨e, _⟩ := some2 h1 h1'
      cases e
      exact ⟨some a, _, a, _, h1, h2', by rw [wI_s, if_neg (by simp)], Or.inr rfl, ⟨f, g, s, z, F, N, C, n, fs, H, b, L, c, ones, t, h.sN.s0 (by unfold Ker; omega)⟩⟩
theorem q_mean {R : Rf} {T : Mm} (h : IV R T) (x y : Int32) : QPx R T (pX11_mean R T 0 x y) (fun V => pX12_mean R V 105 x y) := by
  obtain ⟨f, g, s, z, F, N, C, n, fs, H, b, L, c, ones, t, h⟩ := h
  rcases k_mean h.kv h.lv x y with ⟨h1, h2⟩ | ⟨a, h1, h2⟩
  · exact ⟨none, T, _, _, h1, h2, by rw [wI_s, if_pos rfl], Or.inl rfl, ⟨f, g, s, z, F, N, C, n, fs, H, b, L, c, ones, t, h.s0 (by unfold Ker; omega)⟩⟩
  · exact ⟨some a, T, a, _, h1, h2, by rw [wI_s, if_neg (by simp)], Or.inr rfl, ⟨f, g, s, z, F, N, C, n, fs, H, b, L, c, ones, t, h.s0 (by unfold Ker; omega)⟩⟩
