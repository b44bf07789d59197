/-! book, both whole -/
def FK (T V : Mm) : Prop := (∀ a, a ≠ 0 → a ≠ 1 → a ≠ 3 → a ≠ 4 → a ≠ 5 → a ≠ 31 → a ≠ 32 → ¬ SB a → V.1 a = T.1 a) ∧ (∀ k, k ≠ 15 → V.1 0 k = T.1 0 k) ∧ (∀ a, a ≠ 6 → V.2 a = T.2 a) ∧ V.1 1 1 = 0
def FL (T V : Mm) : Prop := (∀ a, a ≠ 105 → a ≠ 107 → a ≠ 109 → a ≠ 112 → a ≠ 113 → a ≠ 118 → V.1 a = T.1 a) ∧ (∀ a, a ≠ 105 → V.2 a = T.2 a) ∧ (∀ k, k ≠ 0 → k ≠ 2 → k ≠ 3 → k ≠ 4 → k ≠ 5 → ¬ (11 ≤ k ∧ k ≤ 16) → k ≠ 18 → k ≠ 23 → k ≠ 37 → k ≠ 39 → V.1 105 k = T.1 105 k) ∧ (∀ k, (k < 80 ∨ 89 ≤ k) → V.1 107 k = T.1 107 k) ∧ V.1 105 0 = 0 ∧ V.1 105 2 = 0
/-- the reference's start of reading: the text is taken, the first TOKEN read -/
theorem m_start {R : Rf} {T : Mm} {b : Nat → Nat} {L M : Nat} {y : Int32} (hr : RM R) (hL : L ≤ 940) (hM : M ≤ 940) (ey : y = nI M) (h2 : T.1 105 2 = nI L) (hb : ∀ k, k < L → b k < 256 ∧ T.1 106 k &&& 255 = nI (b k)) (hkw : ∀ k, k < 24 → T.2 111 k = w8 (kwk k)) (j : Nat) (hj : j = 37) : ∃ U V, pX12_taken R T 105 y = some U ∧ pX12_next R (wI (wI U 105 15 0) 105 j 0) 105 = some V ∧ CuM V b L M 0 ∧ V.1 105 15 = 0 ∧ V.1 105 j = 0 ∧ V.1 105 2 = 0 ∧ (∀ a, a ≠ 105 → V.1 a = T.1 a ∧ V.2 a = T.2 a) ∧ ∀ k, ¬ (2 ≤ k ∧ k ≤ 5) → ¬ (11 ≤ k ∧ k ≤ 15) → k ≠ j → V.1 105 k = T.1 105 k := by
  subst hj
  subst ey
  unfold pX12_taken
  simp only [lt]
  generalize hU : wI (wI (wI (wI T 105 3 (T.1 105 2)) 105 2 0) 105 4 0) 105 5 (nI M) = U
  refine ⟨U, ?_⟩
  generalize hW : wI (wI U 105 15 0) 105 37 0 = W
  have uo : ∀ a, a ≠ 105 → W.1 a = T.1 a := by
    intro a h1
    rw [← hW, ← hU]
    simp only [wI_1]
    rw [up2_row h1, up2_row h1, up2_row h1, up2_row h1, up2_row h1, up2_row h1]
  have u2 : W.2 = T.2 := by rw [← hW, ← hU]; rfl
  have uk : ∀ k, ¬ (2 ≤ k ∧ k ≤ 5) → k ≠ 15 → k ≠ 37 → W.1 105 k = T.1 105 k := by
    intro k h1 h2 h3
    rw [← hW, ← hU]
    simp (disch := omega) only [wI_n]
  have v2 : W.1 105 2 = 0 := by rw [← hW, ← hU]; simp (disch := omega) only [wI_n, wI_s]
  have v3 : W.1 105 3 = nI L := by rw [← hW, ← hU]; simp (disch := omega) only [wI_n, wI_s]; exact h2
  have v4 : W.1 105 4 = nI 0 := by rw [← hW, ← hU]; simp (disch := omega) only [wI_n, wI_s]; rfl
  have v5 : W.1 105 5 = nI M := by rw [← hW, ← hU]; simp (disch := omega) only [wI_n, wI_s]
  have v15 : W.1 105 15 = 0 := by rw [← hW, ← hU]; simp (disch := omega) only [wI_n, wI_s]
  have v37 : W.1 105 37 = 0 := by rw [← hW, wI_s]
  have hXM : XM W b L M := ⟨hL, hM, v3, v5, fun k hk => by rw [uo 106 (by decide)]; exact hb k hk⟩
  obtain ⟨V, w1, w2, w3⟩ := m_next (R := R) hr.1 hXM v4 (by omega)
  refine ⟨V, rfl, w1, ⟨hXM.fx w2, Nat.zero_le _, w3, fun k hk => by rw [(w2.1 111 (by decide)).2, u2]; exact hkw k hk⟩, w2.f15.trans v15, w2.f37.trans v37, (w2.2.1 2 (by decide) (by decide) (by decide) (by decide) (by decide)).trans v2, fun a ha => ⟨(w2.1 a ha).1.trans (uo a ha), by rw [(w2.1 a ha).2, u2]⟩, fun k h1 h2 h3 => ?_⟩
  rw [w2.2.1 k (by omega) (by omega) (by omega) (by omega) (by omega), uk k h1 (by omega) h3]
theorem k_book {R : Rf} {T T' : Mm} {b : Nat → Nat} {L f : Nat} {F : Nat → Nat} {N : Nat → List Nat} {C : Nat → Int32} {n fs : Nat} {H : Nat → Nat → Int32} (k : KQ R T f F C n fs H) (l : LQ R T' F C n H) (hR : RT R) (hr : RM R) (r00 : R 0 0 = 1) (r04 : R 0 4 = 30) (r010 : R 0 10 = 78) (r2 : R 30 2 = 31) (r3 : R 30 3 = 32) (hX : XC T b L) (hg : CG R T f F N) (hN : NW F N) (h2 : T'.1 105 2 = nI L) (hb : ∀ k, k < L → b k < 256 ∧ T'.1 106 k &&& 255 = nI (b k)) (hkw : ∀ k, k < 24 → T'.2 111 k = w8 (kwk k)) (hn : NM T' F N) {x1 : Int32} (hx : x1 = 0 ∨ x1 = 1) : (∃ k' p V V', gB L 400 k' p ∧ pX11_book R T 0 x1 = some (-2 - nI p, V) ∧ pX12_book R T' 105 x1 = some (-2 - nI p, V') ∧ V.1 0 15 = nI k' ∧ V'.1 105 15 = nI k' ∧ CC V 8 C ∧ PP V n fs H ∧ MC V' (F 2) C ∧ PM V' n (F 2) H ∧ V.1 78 = T.1 78 ∧ V'.1 118 = T'.1 118 ∧ V'.1 105 39 = T'.1 105 39 ∧ FK T V ∧ FL T' V') ∨ ∃ a C' n' fs' H' V V', pX11_book R T 0 x1 = some (a, V) ∧ pX12_book R T' 105 x1 = some (a, V') ∧ V.1 0 15 = 0 ∧ V'.1 105 15 = 0 ∧ CC V 8 C' ∧ PP V n' fs' H' ∧ MC V' (F 2) C' ∧ PM V' n' (F 2) H' ∧ VC F C' ∧ n' ≤ 8 ∧ (∀ k, k < n' → VC F (H' k)) ∧ (∀ j, j < 4 → V.1 78 j = V'.1 118 j) ∧ V'.1 105 39 = 1 ∧ FK T V ∧ FL T' V' := by
  obtain ⟨k1, k2, k3, k4, k5, k6, k7, k8, k9, k10⟩ := id k.1
  have h79 : 79 ≤ f := k6
  -- the class
  have hc : pX11_book R T 0 x1 = pX11_book_13 R 0 x1 T := by
    unfold pX11_book
    rcases hx with rfl | rfl
    · rw [if_pos rfl]
    · rw [if10, if_pos rfl]
  obtain ⟨T1, c1, c2, c3⟩ := c_bookRead hR r2 r3 hX hg k8 hN h79
  have kT1 : KQ R T1 f F C n fs H := k.of (fun a ha => c2.1 a (by omega) (by omega) (by omega) (by omega) (by omega) (by omega) (by omega))
  -- the reference
  have hm : ∃ V, CuM V b L 400 0 ∧ V.1 105 15 = 0 ∧ BKm V (fun _ => 0) (fun _ => 0) 0 ∧ V.1 105 2 = 0 ∧ V.1 105 0 = 0 ∧ (∀ a, a ≠ 105 → V.1 a = T'.1 a ∧ V.2 a = T'.2 a) ∧ (∀ k, k ≠ 0 → ¬ (2 ≤ k ∧ k ≤ 5) → ¬ (11 ≤ k ∧ k ≤ 15) → k ≠ 37 → V.1 105 k = T'.1 105 k) ∧ pX12_book R T' 105 x1 = zl1 (pX12_book_39 R 105 x1 (pX12_book_62 R 105 x1) (pX12_book_83 R 105 x1)) FU V := by
    obtain ⟨U, V, s1, s2, s3, s4, s5, s6, s7, s8⟩ := m_start (R := R) (T := wI T' 105 0 0) (b := b) (L := L) (M := 400) (y := 400) hr hX.1 (by omega) rfl ((wI_n (Or.inr (by decide))).trans h2) (fun k hk => by rw [wI_1, up2_row (by decide)]; exact hb k hk) hkw 37 rfl
    refine ⟨V, s3, s4, ⟨s5, fun k hk => absurd hk (Nat.not_lt_zero k)⟩, s6, (s8 0 (by decide) (by decide) (by decide)).trans wI_s, fun a ha => ⟨by rw [(s7 a ha).1, wI_1, up2_row ha], (s7 a ha).2⟩, fun k h0 h1 h2 h3 => by rw [s8 k h1 h2 h3, wI_n (Or.inr h0)], ?_⟩
    unfold pX12_book
    simp only [lt]
    rw [m_isInG, bd1_some, ifI, if_pos (by rcases hx with rfl | rfl <;> decide), s1, bd1_some, s2, bd1_some]
  obtain ⟨Vs, u1, u2, u3, u4, u5, u6, u7, u8⟩ := hm
  have hFs : MF Vs F := fun k hk => by rw [(u6 107 (by decide)).1]; exact l.1.2.1 k hk
  have hns : NM Vs F N := hn.of (u6 110 (by decide)).2
  have lof : ∀ W, FB9 Vs W → LQ R W F C n H := fun W hW => by
    obtain ⟨l1, l2, l3, l4, l5, l6⟩ := id l
    refine ⟨l1.fr (by rw [hW.1 107 (by decide) (by decide), (u6 107 (by decide)).1]), ⟨?_, fun k hk i hi => ?_⟩, l3, l4, l5, l6⟩
    · rw [hW.2.2 23 (by decide) (by decide) (by decide) (by decide), u7 23 (by decide) (by decide) (by decide) (by decide)]; exact l2.1
    · rw [hW.1 112 (by decide) (by decide), (u6 112 (by decide)).1]; exact l2.2 k hk i hi
  rw [hc, u8]
  rcases m_bLoop (b := b) (L := L) (M := 400) (N := N) x1 hr k8 hN 41 FU Vs (fun _ => 0) (fun _ => 0) 0 0 hFs hns u1 u3 (by omega) rfl (by decide) with ⟨k', p, V', y1, y2, y3, y4⟩ | ⟨W, X, m, V', y1, y2, y3, y4, y5⟩
  · left
    rcases c3 with ⟨k'', p'', z1, z2, z3, z4⟩ | ⟨W, X, m, z1, _⟩
    · rw [y1] at z1
      cases z1
      have hk : ¬ nI k' = 0 := fun z => by
        have := (nI_eq (b := 0) (by have := z2.2.1; omega) (by omega)).mp z
        have := z2.1
        omega
      have lV := lof V' y3
      have e3 : ∀ a, a ≠ 0 → a ≠ 1 → (wI (wI T1 0 15 (T1.1 1 2)) 1 1 0).1 a = T1.1 a := fun a h0 h1 => by rw [wI_1, up2_row h1, wI_1, up2_row h0]
      refine ⟨k', p, wI (wI T1 0 15 (T1.1 1 2)) 1 1 0, V', z2, ?_, y2, ?_, y4, ?_, ?_, lV.1.2.2.2.2, lV.2.1, ?_, ?_, ?_, ⟨fun a h0 h1 h3 h4 h5 h31 h32 hS => ?_, fun k hk => ?_, fun a ha => c2.2.1 a ha, wI_s⟩, ⟨fun a h1 h2 h3 h4 h5 h6 => ?_, fun a ha => ?_, fun k h0 h2 h3 h4 h5 h11 h18 h23 h37 h39 => ?_, fun k _ => ?_, ?_, ?_⟩⟩
      · unfold pX11_book_13
        rw [r00, r04, k3, c1, bd1_some]
        simp only [lt]
        rw [wI_n (Or.inl (by decide)), wI_s, z3, if_neg hk, wI_n (Or.inr (by decide)), wI_n (Or.inl (by decide)), z4]
      · rw [wI_n (Or.inl (by decide)), wI_s, z3]
      · have := kT1.1.2.2.2.2.2.2.2.2.1
        exact ⟨fun k hk => by rw [e3 8 (by decide) (by decide)]; exact this.1 k hk, fun k hk => by rw [e3 (8 + 1) (by decide) (by decide)]; exact this.2 k hk⟩
      · exact kT1.2.1.of (fun a ha => e3 a (by omega) (by omega))
      · rw [e3 78 (by decide) (by decide), c2.1 78 (by decide) (by decide) (by decide) (by decide) (by decide) (by decide) (by decide)]
      · rw [y3.1 118 (by decide) (by decide), (u6 118 (by decide)).1]
      · rw [y3.2.2 39 (by decide) (by decide) (by decide) (by decide), u7 39 (by decide) (by decide) (by decide) (by decide)]
      · rw [e3 a h0 h1, c2.1 a h1 h3 h4 h5 (fun z => hS (Or.inr (Or.inl z))) h31 h32]
      · rw [wI_n (Or.inl (by decide)), wI_n (Or.inr hk), c2.1 0 (by decide) (by decide) (by decide) (by decide) (by decide) (by decide) (by decide)]
      · rw [y3.1 a h1 h3, (u6 a h1).1]
      · rw [y3.2.1 a ha, (u6 a ha).2]
      · rw [y3.2.2 k h4 h11 h18 h37, u7 k h0 (by omega) (by omega) h37]
      · rw [y3.1 107 (by decide) (by decide), (u6 107 (by decide)).1]
      · rw [y3.2.2 0 (by decide) (by decide) (by decide) (by decide), u5]
      · rw [y3.2.2 2 (by decide) (by decide) (by decide) (by decide), u4]
    · rw [y1] at z1
      cases z1
  · right
    rcases c3 with ⟨k'', p'', z1, _⟩ | ⟨W', X', m', z1, z2, z3⟩
    · rw [y1] at z1
      cases z1
    · rw [y1] at z1
      cases z1
      obtain ⟨T9, d1, ⟨d20, d21, d22, d23⟩, d3, d4, d5⟩ := c_book13 kT1 r00 r04 r010 r2 r3 c1 z2 z3 hx
      obtain ⟨V9, e1, ⟨e20, e21, e22, e23⟩, e39, e3, e4, e5⟩ := m_book83 (lof V' y3) hr.2.2.2.1 hr.2.2.2.2.2.2.2.2.2.2.2.2.1 z3.1 (fun k hk => (z3.2.2 k hk).2.2) y4 hx
      have hok := bvS_ok k8 (W := W) (X := X) m 0 C (fun j _ h => (z3.2.2 j (by omega)).2.2) k10
      have fK : FK T T9 := by
        refine ⟨fun a h0 h1 h3 h4 h5 h31 h32 hS => ?_, fun k hk => ?_, fun a ha => ?_, ?_⟩
        · rw [(d5 a hS).1, wI_1, up2_row h1, wI_1, up2_row h0, c2.1 a h1 h3 h4 h5 (fun z => hS (Or.inr (Or.inl z))) h31 h32]
        · rw [(d5 0 (by unfold SB SA; omega)).1, wI_n (Or.inl (by decide)), wI_n (Or.inr hk), c2.1 0 (by decide) (by decide) (by decide) (by decide) (by decide) (by decide) (by decide)]
        · rw [(d5 0 (by unfold SB SA; omega)).2]
          exact c2.2.1 a ha
        · rw [(d5 1 (by unfold SB SA; omega)).1, wI_s]
      have fL : FL T' V9 := by
        refine ⟨fun a h1 h2 h3 h4 h5 h6 => ?_, fun a ha => ?_, fun k h0 h2 h3 h4 h5 h11 h18 h23 h37 h39 => ?_, fun k hk => ?_, ?_, ?_⟩
        · rw [e5.1 a h1 h2 h4 h5 h6, y3.1 a h1 h3, (u6 a h1).1]
        · rw [e5.2.2.2, y3.2.1 a ha, (u6 a ha).2]
        · rw [e5.2.1 k h23 h39, y3.2.2 k h4 h11 h18 h37, u7 k h0 (by omega) (by omega) h37]
        · rw [e5.2.2.1 k hk, y3.1 107 (by decide) (by decide), (u6 107 (by decide)).1]
        · rw [e5.2.1 0 (by decide) (by decide), y3.2.2 0 (by decide) (by decide) (by decide) (by decide), u5]
        · rw [e5.2.1 2 (by decide) (by decide), y3.2.2 2 (by decide) (by decide) (by decide) (by decide), u4]
      have h15c : T9.1 0 15 = 0 := by rw [(d5 0 (by unfold SB SA; omega)).1, wI_n (Or.inl (by decide)), wI_s]
      have h15m : V9.1 105 15 = 0 := by rw [e5.2.1 15 (by decide) (by decide), y5, u2]
      have htold : ∀ j, j < 4 → T9.1 78 j = V9.1 118 j := fun j hj => by
        have : j = 0 ∨ j = 1 ∨ j = 2 ∨ j = 3 := by omega
        rcases this with rfl | rfl | rfl | rfl
        · rw [d20, e20]
        · rw [d21, e21]
        · rw [d22, e22]
        · rw [d23, e23]
      rw [d1, y2, e1]
      by_cases e : x1 = 1 ∧ 0 < (bvS F W X m 0 C).1
      · obtain ⟨fs', d6, d7⟩ := d3 e
        obtain ⟨e6, e7⟩ := e3 e
        exact ⟨_, _, _, fs', _, T9, V9, rfl, rfl, h15c, h15m, d6, d7, e6, e7, hok.2.2.1, phN_le l.2.2.2.2.1, phH_vc l.2.2.2.2.1 l.2.2.2.2.2 l.1.2.2.2.1, htold, e39, fK, fL⟩
      · obtain ⟨d6, d7⟩ := d4 e
        obtain ⟨e6, e7⟩ := e4 e
        exact ⟨_, _, _, fs, _, T9, V9, rfl, rfl, h15c, h15m, d6, d7, e6, e7, l.1.2.2.2.1, l.2.2.2.2.1, l.2.2.2.2.2, htold, e39, fK, fL⟩
