/-! feed -/
def shf (i : Nat) : Int32 := if i = 0 then 24 else if i = 1 then 16 else if i = 2 then 8 else if i = 3 then 0 else -8
def vy (x : Int32) (i : Nat) : Nat := (us x (shf i) &&& 255).toBitVec.toNat
theorem vy_lt (x : Int32) (i : Nat) : vy x i < 256 := by
  unfold vy
  rw [Int32.toBitVec_and, BitVec.toNat_and]
  exact Nat.lt_of_le_of_lt Nat.and_le_right (by decide)
theorem vy_c (x : Int32) (i : Nat) : us x (shf i) &&& 255 = nI (vy x i) := (nI_nat _).symm
theorem vy_m (x : Int32) {i : Nat} (hi : i < 4) : (((x >>> (shf i &&& 31)).toInt8.toInt32).toInt8.toInt32) &&& 255 = nI (vy x i) := by
  rw [← vy_c]
  have : i = 0 ∨ i = 1 ∨ i = 2 ∨ i = 3 := by omega
  rcases this with rfl | rfl | rfl | rfl
  · exact byte_same x 24 (by omega)
  · exact byte_same x 16 (by omega)
  · exact byte_same x 8 (by omega)
  · exact byte_same x 0 (by omega)
/-- the text with i bytes of x behind it -/
def ap (b : Nat → Nat) (L : Nat) (x : Int32) (i : Nat) : Nat → Nat := fun k => if k < L then b k else if k < L + i then vy x (k - L) else b k
theorem ap_s {b : Nat → Nat} {L i k : Nat} {x : Int32} (hk : k ≠ L + i) : ap b L x (i + 1) k = ap b L x i k := by
  unfold ap
  by_cases e : k < L
  · rw [if_pos e, if_pos e]
  · rw [if_neg e, if_neg e]
    by_cases e' : k < L + i
    · rw [if_pos e', if_pos (by omega)]
    · rw [if_neg e', if_neg (by omega)]
theorem ap_n {b : Nat → Nat} {L i : Nat} {x : Int32} : ap b L x (i + 1) (L + i) = vy x i := by
  unfold ap
  rw [if_neg (by omega), if_pos (by omega), Nat.add_sub_cancel_left]
theorem ap_0 {b : Nat → Nat} {L : Nat} {x : Int32} : ap b L x 0 = b := by
  funext k
  unfold ap
  by_cases e : k < L
  · rw [if_pos e]
  · rw [if_neg e, if_neg (by omega)]
theorem shf_n {i : Nat} (hi : i < 4) : ¬ shf i < 0 ∧ shf i + (-8) = shf (i + 1) := by
  have : i = 0 ∨ i = 1 ∨ i = 2 ∨ i = 3 := by omega
  rcases this with rfl | rfl | rfl | rfl <;> decide
theorem c_putX {R : Rf} {T : Mm} {b : Nat → Nat} {L : Nat} (hR : RT R) (h : XC T b L) (hL : L + 4 ≤ 940) (x : Int32) : ∃ V, pX10_put R T 1 x = some V ∧ XC V (ap b L x 4) (L + 4) ∧ (∀ a, a ≠ 1 → a ≠ 2 → V.1 a = T.1 a) ∧ V.2 = T.2 := by
  unfold pX10_put
  refine zl2_wp (f := pX10_put_3 R 1 x (pX10_put_49 R 1 x)) (P := fun m U y => ∃ i, i + m = 4 ∧ y = shf i ∧ XC U (ap b L x i) (L + i) ∧ (∀ a, a ≠ 1 → a ≠ 2 → U.1 a = T.1 a) ∧ U.2 = T.2) (Q := fun o => ∃ V, o = some V ∧ XC V (ap b L x 4) (L + 4) ∧ (∀ a, a ≠ 1 → a ≠ 2 → V.1 a = T.1 a) ∧ V.2 = T.2) ?_ FU 4 T 24 (by rw [FU_eq]; omega) ⟨0, rfl, rfl, by rw [ap_0]; exact h, fun _ _ _ => rfl, rfl⟩
  rintro m r U y ⟨i, hi, rfl, hX, hU, h2⟩ hq
  unfold pX10_put_3
  by_cases e : i < 4
  · obtain ⟨s1, s2⟩ := shf_n e
    rw [if_neg s1, hX.2.1, if_neg (show ¬ (940 : Int32) ≤ nI (L + i) from fun z => by have := (nI_leI (a := 940) (by omega) (by omega)).mp z; omega), ix_nI (by omega) (by decide), nI_clamp (by omega), hR.1]
    simp only [lt]
    rw [wI_n (Or.inl (by decide)), hX.2.1, nI_1, s2, vy_c]
    refine hq (m - 1) _ _ (by omega) ⟨i + 1, by omega, rfl, ⟨by omega, wI_s, fun k hk => ?_, fun k hk => hX.2.2.2 k hk⟩, fun a h1 h3 => by rw [wI_1, up2_row h1, wI_1, up2_row h3]; exact hU a h1 h3, h2⟩
    by_cases ek : k = L + i
    · subst ek
      rw [ap_n, wI_n (Or.inl (by decide)), wI_s]
      exact ⟨vy_lt _ _, rfl⟩
    · rw [ap_s ek, wI_n (Or.inl (by decide)), wI_n (Or.inr ek)]
      exact hX.2.2.1 k (by omega)
  · have : i = 4 := by omega
    subst this
    rw [if_pos (show shf 4 < 0 by decide)]
    exact ⟨U, rfl, hX, hU, h2⟩
theorem m_fourX {R : Rf} {T : Mm} {b : Nat → Nat} {L : Nat} (r1 : R 105 1 = 106) (hL : L + 4 ≤ 940) (h2 : T.1 105 2 = nI L) (hb : ∀ k, k < L → b k < 256 ∧ T.1 106 k &&& 255 = nI (b k)) (x : Int32) : ∃ V, pX12_four R T 105 x = some V ∧ V.1 105 2 = nI (L + 4) ∧ (∀ k, k < L + 4 → ap b L x 4 k < 256 ∧ V.1 106 k &&& 255 = nI (ap b L x 4 k)) ∧ (∀ a, a ≠ 105 → a ≠ 106 → V.1 a = T.1 a) ∧ (∀ k, k ≠ 2 → V.1 105 k = T.1 105 k) ∧ V.2 = T.2 := by
  unfold pX12_four
  refine zl2_wp (f := pX12_four_3 R 105 x (pX12_four_36 R 105 x)) (P := fun m U y => ∃ i, i + m = 4 ∧ y = shf i ∧ U.1 105 2 = nI (L + i) ∧ (∀ k, k < L + i → ap b L x i k < 256 ∧ U.1 106 k &&& 255 = nI (ap b L x i k)) ∧ (∀ a, a ≠ 105 → a ≠ 106 → U.1 a = T.1 a) ∧ (∀ k, k ≠ 2 → U.1 105 k = T.1 105 k) ∧ U.2 = T.2) (Q := fun o => ∃ V, o = some V ∧ V.1 105 2 = nI (L + 4) ∧ (∀ k, k < L + 4 → ap b L x 4 k < 256 ∧ V.1 106 k &&& 255 = nI (ap b L x 4 k)) ∧ (∀ a, a ≠ 105 → a ≠ 106 → V.1 a = T.1 a) ∧ (∀ k, k ≠ 2 → V.1 105 k = T.1 105 k) ∧ V.2 = T.2) ?_ FU 4 T 24 (by rw [FU_eq]; omega) ⟨0, rfl, rfl, h2, by rw [ap_0]; exact hb, fun _ _ _ => rfl, fun _ _ => rfl, rfl⟩
  rintro m r U y ⟨i, hi, rfl, u2, ub, ua, uk, uu⟩ hq
  unfold pX12_four_3
  by_cases e : i < 4
  · obtain ⟨s1, s2⟩ := shf_n e
    rw [if_neg s1, u2, ix_nI (by omega) (by decide), nI_clamp (by omega), r1]
    simp only [lt]
    rw [wI_n (Or.inl (by decide)), u2, nI_1, s2]
    refine hq (m - 1) _ _ (by omega) ⟨i + 1, by omega, rfl, wI_s, fun k hk => ?_, fun a h1 h3 => by rw [wI_1, up2_row h1, wI_1, up2_row h3]; exact ua a h1 h3, fun k hk => by rw [wI_n (Or.inr hk), wI_n (Or.inl (by decide))]; exact uk k hk, uu⟩
    by_cases ek : k = L + i
    · subst ek
      rw [ap_n, wI_n (Or.inl (by decide)), wI_s]
      exact ⟨vy_lt _ _, vy_m x e⟩
    · rw [ap_s ek, wI_n (Or.inl (by decide)), wI_n (Or.inr ek)]
      exact ub k (by omega)
  · have : i = 4 := by omega
    subst this
    rw [if_pos (show shf 4 < 0 by decide)]
    exact ⟨U, rfl, u2, ub, ua, uk, uu⟩
theorem q_feed {R : Rf} {T : Mm} (h : IV R T) (x1 x2 x3 x4 x5 : Int32) : ∃ a V V', pX11_feed R T 0 x1 x2 x3 x4 x5 = some (a, V) ∧ pX12_feed R V 105 x1 x2 x3 x4 x5 = some (a, V') ∧ IV R V' := by
  obtain ⟨f, g, s, z, F, N, C, n, fs, H, b, L, c, ones, t, h⟩ := h
  have hD := h.2.2.2.2.1
  have hL := hD.1.1
  have hi : IV R (wI T 105 0 0) := ⟨f, g, s, z, F, N, C, n, fs, H, b, L, c, ones, t, h.s0 (k := 0) (v := 0) (by unfold Ker; omega)⟩
  have r1 : R 105 1 = 106 := h.1.c (by decide) (by decide)
  unfold pX11_feed pX12_feed
  simp only [lt]
  rw [show R 0 0 = 1 from h.1.c (by decide) (by decide), hD.1.2.1, add_lit]
  by_cases e : L + 20 ≤ 940
  · have e' : nI (L + 20) ≤ (940 : Int32) := (nI_leI (b := 940) (by omega) (by omega)).mpr e
    rw [if_pos e']
    obtain ⟨A1, a1, X1, o1, l1⟩ := c_putX h.1.rt hD.1 (by omega) x1
    obtain ⟨A2, a2, X2, o2, l2⟩ := c_putX h.1.rt X1 (by omega) x2
    obtain ⟨A3, a3, X3, o3, l3⟩ := c_putX h.1.rt X2 (by omega) x3
    obtain ⟨A4, a4, X4, o4, l4⟩ := c_putX h.1.rt X3 (by omega) x4
    obtain ⟨A5, a5, X5, o5, l5⟩ := c_putX h.1.rt X4 (by omega) x5
    rw [a1, bd1_some, a2, bd1_some, a3, bd1_some, a4, bd1_some, a5, bd1_some, X5.2.1]
    have oA : ∀ a, a ≠ 1 → a ≠ 2 → A5.1 a = T.1 a := fun a g1 g2 => by rw [o5 a g1 g2, o4 a g1 g2, o3 a g1 g2, o2 a g1 g2, o1 a g1 g2]
    have lA : A5.2 = T.2 := by rw [l5, l4, l3, l2, l1]
    obtain ⟨B1, b1, m1, n1, p1, q1, t1⟩ := m_fourX (T := wI A5 105 0 0) r1 (show L + 4 ≤ 940 by omega) (by rw [wI_n (Or.inr (by decide)), oA 105 (by decide) (by decide)]; exact hD.2.1) (fun k hk => by rw [wI_n (Or.inl (by decide)), oA 106 (by decide) (by decide)]; exact hD.2.2.1 k hk) x1
    obtain ⟨B2, b2, m2, n2, p2, q2, t2⟩ := m_fourX r1 (by omega) m1 n1 x2
    obtain ⟨B3, b3, m3, n3, p3, q3, t3⟩ := m_fourX r1 (by omega) m2 n2 x3
    obtain ⟨B4, b4, m4, n4, p4, q4, t4⟩ := m_fourX r1 (by omega) m3 n3 x4
    obtain ⟨B5, b5, m5, n5, p5, q5, t5⟩ := m_fourX r1 (by omega) m4 n4 x5
    have oB : ∀ a, a ≠ 105 → a ≠ 106 → B5.1 a = A5.1 a := fun a g1 g2 => by rw [p5 a g1 g2, p4 a g1 g2, p3 a g1 g2, p2 a g1 g2, p1 a g1 g2, wI_1, up2_row g1]
    have kB : ∀ k, k ≠ 2 → k ≠ 0 → B5.1 105 k = A5.1 105 k := fun k g1 g0 => by rw [q5 k g1, q4 k g1, q3 k g1, q2 k g1, q1 k g1, wI_n (Or.inr g0)]
    have lB : B5.2 = A5.2 := by rw [t5, t4, t3, t2, t1]; rfl
    refine ⟨_, A5, B5, rfl, ?_, f, g, s, z, F, N, C, n, fs, H, _, L + 4 + 4 + 4 + 4 + 4, c, ones, t, h.tx (fun a ha h2 h6 => ?_) (fun k hk h2 => ?_) (fun a _ _ _ _ => by rw [lB, lA]) ⟨⟨X5.1, ?_, fun k hk => ?_, fun k hk => ?_⟩, m5, n5, fun k hk => ?_⟩⟩
    · rw [wI_n (Or.inr (by decide)), oA 105 (by decide) (by decide), hD.2.1, add_lit, if_pos e', b1, bd1_some, b2, bd1_some, b3, bd1_some, b4, bd1_some, b5, bd1_some, m5]
    · unfold Scr at ha
      rw [oB a (by omega) h6, oA a (by omega) h2]
    · unfold Ker at hk
      rw [kB k h2 (by omega), oA 105 (by decide) (by decide)]
    · rw [oB 1 (by decide) (by decide)]; exact X5.2.1
    · rw [oB 2 (by decide) (by decide)]; exact X5.2.2.1 k hk
    · rw [lB]; exact X5.2.2.2 k hk
    · rw [lB, lA]; exact hD.2.2.2 k hk
  · have e' : ¬ nI (L + 20) ≤ (940 : Int32) := fun z => e ((nI_leI (b := 940) (by omega) (by omega)).mp z)
    rw [if_neg e']
    refine ⟨_, T, _, rfl, ?_, hi⟩
    rw [wI_n (Or.inr (by decide)), hD.2.1, add_lit, if_neg e']
