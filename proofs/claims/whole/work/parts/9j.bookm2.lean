/-! reading a BOOK: the reference, all -/
theorem m_book85p {R : Rf} {T : Mm} {b : Nat → Nat} {L M t m p : Nat} {F : Nat → Nat} {N : Nat → List Nat} (hr : RM R) (h : CuM T b L M t) (hm : T.1 105 37 = nI m) (hm40 : m ≤ 40) (e3 : kkS b L M t = 3) (hp : fnP F N (wwS b L t) = some p) (h18 : T.1 105 18 = nI p) : MB b L M T m (t + 2) (pX12_bookLine_85 R 105 T (nI (3 * m)) 0) (rB b L M F N m t) := by
  have hna : naP b L M t (fnP F N (wwS b L t)) = paO p := by
    unfold naP
    rw [if_pos e3, hp]
    rfl
  obtain ⟨V, v1, v2, v3⟩ := m_nextS (R := R) hr.1 h (by omega)
  unfold pX12_bookLine_85 rB
  simp only [lt]
  rw [hm, m_bad4 h, bd2_some, bz_0, v1, bd1_some, if_neg (show ¬ (kkS b L M t = 4 ∧ 7 ≤ vvS b L t ∧ vvS b L t ≤ 10) from fun z => by omega), hna, paD_o]
  by_cases em : m < 40
  · rw [if_pos em, if_neg (show ¬ nI m = 40 from fun z => by have := (nI_eq (b := 40) (by omega) (by omega)).mp z; omega), nI_1, ix_nI (by omega) (by decide), ix_nI (by omega) (by decide), nI_clamp (by omega), nI_clamp (by omega), hr.2.2.2.1, if_pos trivial, h18]
    generalize hU : wI (wI V 109 (3 * m) 0) 109 (3 * m + 1) (nI p) = U
    have fr : FB9 T U := by rw [← hU]; exact (FB9.refl.x v2).w9.w9
    have u37 : U.1 105 37 = T.1 105 37 := by rw [← hU, wI_n (Or.inl (by decide)), wI_n (Or.inl (by decide)), v2.f37]
    have u15 : U.1 105 15 = T.1 105 15 := by rw [← hU, wI_n (Or.inl (by decide)), wI_n (Or.inl (by decide)), v2.f15]
    have uC : CuM U b L M (t + 1) := by rw [← hU]; exact (v3.wa (by decide) (by decide)).wa (by decide) (by decide)
    rw [m_isWordK (k := 6) uC (by omega) (by decide), m_isWordK (k := 5) uC (by omega) (by decide), bd1_some, bd1_some, m_bad1 uC, bd2_some, bz_0, ifI, ifI]
    have h174 : ∀ w, kkS b L M (t + 1) = 4 → MB b L M T m (t + 2) (pX12_bookLine_174 R 105 U 109 (nI (3 * m)) (nI w)) (paO (w, p)) := by
      intro w hk4
      obtain ⟨X, x1, x2, x3⟩ := m_nextS (R := R) hr.1 (uC.wa (a := 109) (k := 3 * m) (v := nI w) (by decide) (by decide)) (by omega)
      unfold pX12_bookLine_174
      rw [ix_nI (by omega) (by decide), nI_clamp (by omega)]
      simp only [lt]
      rw [x1, bd1_some]
      refine ⟨1, X, rfl, fr.w9.x x2, ?_, Or.inr ⟨_, _, rfl, rfl, ?_, ?_, ?_, fun k hk => ?_, x3⟩⟩
      · rw [x2.f37, wI_n (Or.inl (by decide)), u37]
      · rw [x2.f15, wI_n (Or.inl (by decide)), u15]
      · rw [x2.r9, wI_s]
      · rw [x2.r9, wI_n (Or.inr (by omega)), ← hU, wI_s]
      · rw [x2.r9, wI_n (Or.inr (by omega)), ← hU, wI_n (Or.inr (by omega)), wI_n (Or.inr (by omega)), v2.r9]
    unfold pX12_bookLine_159
    rw [ifI, hr.2.2.2.1]
    by_cases e6 : kkS b L M (t + 1) = 4 ∧ vvS b L (t + 1) = 6
    · rw [if_pos e6, if_pos e6, if_pos ⟨e6.1, Or.inr e6.2⟩, e6.2]
      exact h174 1 e6.1
    · rw [if_neg e6, if_neg e6]
      by_cases e5 : kkS b L M (t + 1) = 4 ∧ vvS b L (t + 1) = 5
      · rw [if_pos e5, if_pos ⟨e5.1, Or.inl e5.2⟩, e5.2]
        exact h174 0 e5.1
      · rw [if_neg e5, if_neg (fun z => by omega)]
        exact MB.fl fr u37
  · rw [if_neg em, if_pos (show nI m = 40 by rw [show m = 40 by omega]; rfl)]
    exact MB.fl FB9.refl rfl
theorem m_bookLineG {R : Rf} {T : Mm} {b : Nat → Nat} {L M t m : Nat} {F : Nat → Nat} {N : Nat → List Nat} (hr : RM R) (h : CuM T b L M t) (hF : MF T F) (hv : VF F) (hN : NW F N) (hn : NM T F N) (hm : T.1 105 37 = nI m) (hm40 : m ≤ 40) : MB b L M T m (t + 2) (pX12_bookLine R T 105) (rB b L M F N m t) := by
  obtain ⟨v0, v1, v2, v3, v4, v5, v6, vs, vo, vj⟩ := id hv
  unfold pX12_bookLine
  simp only [lt]
  rw [hm, lit_mul, m_isWordK (k := 7) h (by omega) (by decide), m_isWordK (k := 8) h (by omega) (by decide), m_isWordK (k := 9) h (by omega) (by decide), m_isWordK (k := 10) h (by omega) (by decide)]
  simp only [bd1_some, ifI]
  have hw : ∀ w, 2 ≤ w ∧ w ≤ 5 → kkS b L M t = 4 ∧ vvS b L t = w + 5 → MB b L M T m (t + 2) (pX12_bookLine_64 R 105 T (nI (3 * m)) (nI w)) (rB b L M F N m t) := by
    intro w hw e
    unfold pX12_bookLine_64
    rw [if_neg (show ¬ nI w = 0 from fun z => by have := (nI_eq (b := 0) (by omega) (by omega)).mp z; omega)]
    exact m_book85w hr h hF hv hN hn hm hm40 e hw
  by_cases e7 : kkS b L M t = 4 ∧ vvS b L t = 7
  · rw [if_pos e7]; exact hw 2 (by omega) e7
  rw [if_neg e7]
  by_cases e8 : kkS b L M t = 4 ∧ vvS b L t = 8
  · rw [if_pos e8]; exact hw 3 (by omega) e8
  rw [if_neg e8]
  by_cases e9 : kkS b L M t = 4 ∧ vvS b L t = 9
  · rw [if_pos e9]; exact hw 4 (by omega) e9
  rw [if_neg e9]
  by_cases e10 : kkS b L M t = 4 ∧ vvS b L t = 10
  · rw [if_pos e10]; exact hw 5 (by omega) e10
  rw [if_neg e10]
  have e : ¬ (kkS b L M t = 4 ∧ 7 ≤ vvS b L t ∧ vvS b L t ≤ 10) := by omega
  unfold pX12_bookLine_64
  rw [if00]
  simp (disch := omega) only [ix_lit, lit_clamp]
  rw [hr.2.1, hF 0 (by omega)]
  obtain ⟨p, o1, o2, o3, o4⟩ | ⟨k, p, U, o1, o2, o3⟩ := m_look (x := 0) (y := nI (F 0)) (base := 0) (cnt := F 0) (N := N) hr h rfl rfl (by omega) hN.1 (fun i hi => by rw [Nat.zero_add]; exact hn.1 i hi)
  · rw [o4, bd2_some, if10]
    have hb := m_book85p (R := R) (F := F) (N := N) hr (h.w5 (k := 18) (v := nI p) (by omega)) (m := m) ((wI_n (Or.inr (by decide))).trans hm) hm40 o3 o2 wI_s
    obtain ⟨u, V, h1, h2, h37, h3⟩ := hb
    have fr : FB9 T (wI T 105 18 (nI p)) := FB9.refl.w (by omega)
    refine ⟨u, V, h1, fr.trans h2, h37.trans (wI_n (Or.inr (by decide))), ?_⟩
    rcases h3 with h3 | ⟨w, x, z1, z2, z3, z4, z5, z6, z7⟩
    · exact Or.inl h3
    · exact Or.inr ⟨w, x, z1, z2, z3.trans (wI_n (Or.inr (by decide))), z4, z5, fun k hk => (z6 k hk).trans (wI_n (Or.inl (by decide))), z7⟩
  · have o1' : naP b L M t (fnP F N (wwS b L t)) = paB k p := o1
    unfold rB
    rw [if_neg e, o1', paD_b, o2, bd2_some, if_pos rfl]
    rcases o3 with rfl | rfl
    · exact MB.fl FB9.refl rfl
    · exact MB.fl (FB9.refl.w (by omega)) (wI_n (Or.inr (by decide)))
theorem m_bLoop {R : Rf} {b : Nat → Nat} {L M : Nat} {F : Nat → Nat} {N : Nat → List Nat} (x1 : Int32) (hr : RM R) (hv : VF F) (hN : NW F N) : ∀ (j fuel : Nat) (T : Mm) (W X : Nat → Nat) (m t : Nat), MF T F → NM T F N → CuM T b L M t → BKm T W X m → m ≤ 40 → m + j = 41 → j < fuel → (∃ k p V, rBW b L M F N j (W, X, m) t = paB k p ∧ zl1 (pX12_book_39 R 105 x1 (pX12_book_62 R 105 x1) (pX12_book_83 R 105 x1)) fuel T = some (-2 - nI p, V) ∧ FB9 T V ∧ V.1 105 15 = nI k) ∨ ∃ W' X' m' V, rBW b L M F N j (W, X, m) t = paO (W', X', m') ∧ zl1 (pX12_book_39 R 105 x1 (pX12_book_62 R 105 x1) (pX12_book_83 R 105 x1)) fuel T = pX12_book_83 R 105 x1 V ∧ FB9 T V ∧ BKm V W' X' m' ∧ V.1 105 15 = T.1 105 15 := by
  intro j
  induction j with
  | zero => intro fuel T W X m t _ _ _ _ hm hmj _; omega
  | succ j ih =>
    intro fuel T W X m t hF hn hc hb hm hmj hf
    cases fuel with
    | zero => omega
    | succ fuel =>
      obtain ⟨hb1, hb2⟩ := id hb
      rw [zl1_s, rBW_succ]
      unfold pX12_book_39
      obtain ⟨_, _, _, t4⟩ := hc.t1
      by_cases e0 : kkS b L M t = 0 ∧ ¬ M < L
      · rw [if_pos (t4.mpr e0), if_pos e0.1, if_neg e0.2]
        exact Or.inr ⟨_, _, _, T, rfl, rfl, FB9.refl, hb, rfl⟩
      · rw [if_neg (fun z => e0 (t4.mp z))]
        obtain ⟨u, V, h1, h2, h37, h3⟩ := m_bookLineG hr hc hF hv hN hn hb1 hm
        rw [h1, bd2_some]
        by_cases e : kkS b L M t = 0
        · have hM : M < L := by
            rcases Nat.lt_or_ge M L with z | z
            · exact z
            · exact absurd ⟨e, by omega⟩ e0
          have hbd : rB b L M F N m t = paB 1 (psS b L M t) := by
            unfold rB naP
            rw [if_neg (show ¬ (kkS b L M t = 4 ∧ 7 ≤ vvS b L t ∧ vvS b L t ≤ 10) from fun z => by omega), if_neg (show ¬ kkS b L M t = 3 by omega)]
            rfl
          rcases h3 with ⟨k, p, z1, z2, z3, z4⟩ | ⟨w, x, z1, _⟩
          · rw [hbd] at z1
            cases z1
            rw [if_pos e, if_pos hM, z2, if_pos rfl]
            unfold pX12_book_62
            rw [z4]
            exact Or.inl ⟨_, _, V, rfl, rfl, h2, z3⟩
          · rw [hbd] at z1
            cases z1
        · rw [if_neg e]
          unfold rBL
          rcases h3 with ⟨k, p, z1, z2, z3, z4⟩ | ⟨w, x, z1, z2, z3, z4, z5, z6, z7⟩
          · rw [z1, paD_b, paD_b, z2, if_pos rfl]
            unfold pX12_book_62
            rw [z4]
            exact Or.inl ⟨_, _, V, rfl, rfl, h2, z3⟩
          · obtain ⟨_, hm40⟩ := rB_ok z1
            rw [z1, paD_o, z2, if10, show (59 : Int32) = nI 59 from rfl]
            obtain ⟨s1, s2⟩ := m_signC (R := R) hr.1 z7 (c := 59) (by omega)
            unfold maP
            by_cases e5 : kkS b L M (t + 2) = 5 ∧ vvS b L (t + 2) = 59
            · obtain ⟨Y, w1, w2, w3⟩ := s1 e5
              rw [if_pos e5, paD_o, paD_o, w1, bd2_some, if10]
              simp only [lt]
              have w37 : Y.1 105 37 = nI m := by rw [w2.f37, h37, hb1]
              rw [w37, nI_1]
              have frX : FB9 T (wI Y 105 37 (nI (m + 1))) := (h2.x w2).w (by omega)
              have f15 : (wI Y 105 37 (nI (m + 1))).1 105 15 = T.1 105 15 := by rw [wI_n (Or.inr (by decide)), w2.f15, z3]
              have cX : CuM (wI Y 105 37 (nI (m + 1))) b L M (t + 3) := w3.of (by rw [wI_1, up2_row (by decide)]) rfl (fun k hk => wI_n (Or.inr (by omega))) rfl
              have e109 : (wI Y 105 37 (nI (m + 1))).1 109 = V.1 109 := by rw [wI_1, up2_row (by decide), w2.r9]
              rcases ih fuel _ (uT W m w) (uT X m x) (m + 1) (t + 3) (fun k hk => by rw [frX.1 107 (by decide) (by decide)]; exact hF k hk) (hn.of (frX.2.1 110 (by decide))) cX ⟨wI_s, fun k hk => by
                rw [e109]
                by_cases ek : k = m
                · subst ek; rw [uT_s, uT_s]; exact ⟨z4, z5⟩
                · rw [uT_n ek, uT_n ek, z6 (3 * k) (by omega), z6 (3 * k + 1) (by omega)]; exact hb2 k (by omega)⟩ (by omega) (by omega) (by omega) with ⟨k, p, V', y1, y2, y3, y4⟩ | ⟨W2, X2, m2, V', y1, y2, y3, y4, y5⟩
              · exact Or.inl ⟨k, p, V', y1, y2, frX.trans y3, y4⟩
              · exact Or.inr ⟨W2, X2, m2, V', y1, y2, frX.trans y3, y4, by rw [y5, f15]⟩
            · rw [if_neg e5, paD_b, paD_b, s2 e5, bd2_some, if_pos rfl]
              unfold pX12_book_62
              rw [flm_16]
              exact Or.inl ⟨_, _, _, rfl, rfl, h2.fl, flm_15⟩
