/-! the calls, one by one: sentence, book -/
theorem c_sentW {R : Rf} {T : Mm} {b : Nat → Nat} {L f s z : Nat} {F : Nat → Nat} {N : Nat → List Nat} (hR : RT R) (r00 : R 0 0 = 1) (r011 : R 0 11 = f) (r013 : R 0 13 = s) (r014 : R 0 14 = z) (hS : RS R z) (h97 : 97 ≤ z) (h79 : 79 ≤ f) (hfz : f + 8 < z) (hv : VF F) (hN : NW F N) (hX : XC T b L) (hg : CG R T f F N) : (∃ k p V, ruS b L 200 F N 942 (false, [], [], 0, 1, 0) = paB k p ∧ pX11_sentence R T 0 = some (-1 - nI p, V, R) ∧ V.1 0 15 = nI k ∧ FZs z T V) ∨ ∃ c ones V, ruS b L 200 F N 942 (false, [], [], 0, 1, 0) = paO (c, ones) ∧ pX11_sentence R T 0 = some (nI ones, V, up2 (up2 R 0 13 z) 0 14 s) ∧ V.1 0 15 = 0 ∧ SC V z c ones ∧ c.length < 40 ∧ WD c 1 ∧ FZs z T V := by
  obtain ⟨V, v1, v2, v3⟩ := c_sentRead (b := b) (L := L) hR hS h97 hv hN h79 hfz hX hg
  have fz : ∀ x, FZs z T (wI (wI V 0 15 x) 1 1 0) := fun x => ⟨fun a k h1 h3 h4 h5 hz h0 => by rw [wI_n (Or.inl h1), wI_n (by omega), v2.1 a h1 h3 h4 h5 hz], fun a ha => v2.2.1 a ha, wI_s⟩
  unfold pX11_sentence
  rw [r00, r011, r014, r013, v1, bd1_some]
  simp only [lt]
  rw [wI_n (Or.inl (by decide)), wI_s]
  rcases v3 with ⟨k, p, z1, z2, z3, z4⟩ | ⟨c, ones, z1, z2, z3, z4, z5⟩
  · left
    have hk : ¬ nI k = 0 := fun z => by
      have := (nI_eq (b := 0) (by have := z2.2.1; omega) (by omega)).mp z
      have := z2.1
      omega
    rw [z3, if_neg hk]
    rw [wI_n (Or.inr (by decide)), wI_n (Or.inl (by decide)), z4]
    exact ⟨_, _, _, z1, rfl, by rw [wI_n (Or.inl (by decide)), wI_s], fz _⟩
  · right
    rw [z2, if_pos rfl, up2_n (Or.inr (by decide)), up2_s, wI_n (Or.inl (by omega)), wI_n (Or.inl (by omega)), z3.1]
    refine ⟨_, _, _, z1, rfl, by rw [wI_n (Or.inl (by decide)), wI_s], ⟨?_, ?_, z3.2.2.of (fun a k h1 h2 _ => ?_)⟩, z4, ruS_wd hv 942 false [] [] 0 1 0 c ones (show WD [] 0 from rfl) z1, fz _⟩
    · rw [wI_n (Or.inl (by omega)), wI_n (Or.inl (by omega))]; exact z3.1
    · rw [wI_n (Or.inl (by omega)), wI_n (Or.inl (by omega))]; exact z3.2.1
    · rw [wI_n (Or.inl (by omega)), wI_n (Or.inl (by omega))]
theorem q_sentence {R : Rf} {T : Mm} (h : IV R T) : ∃ a V R' V', pX11_sentence R T 0 = some (a, V, R') ∧ pX12_sentence R' V 105 = some (a, V') ∧ IV R' V' := by
  obtain ⟨f, g, s, z, F, N, C, n, fs, H, b, L, c, ones, t, h⟩ := h
  obtain ⟨hR, hA, hB, hC, hD, hE, hG, hT, hI⟩ := h
  have hf := hR.2.2.2.2.2.1
  have hs := hR.2.2.2.2.2.2
  obtain ⟨Vb, m, _, _, _, _, _, b6⟩ := c_begin (M := 200) hR.rt hD.1 (by omega)
  have hn0 : kkS b L 200 m = 0 := by
    unfold kkS
    exact if_neg (by have := b6.2.2.2.2.2.1; omega)
  have ms := fun (R' : Rf) (V : Mm) (hr : RM R') (e1 : ∀ a, 105 ≤ a → V.1 a = T.1 a) (e2 : ∀ a, 105 ≤ a → V.2 a = T.2 a) => m_sentW (R := R') (T := V) (b := b) (L := L) (n := m) hr hA.1.1 hA.1.2.1 (fun k hk => by rw [e1 107 (by omega)]; exact hC.1 k hk) (hC.2.2.2.of (e2 110 (by omega))) hD.1.1 (by rw [e1 105 (by omega)]; exact hD.2.1) (fun k hk => by rw [e1 106 (by omega)]; exact hD.2.2.1 k hk) (fun k hk => by rw [e2 111 (by omega)]; exact hD.2.2.2 k hk) hn0 b6.1
  have asm : ∀ (R' : Rf) (s' z' : Nat) (c' : Cod) (ones' : Nat) (v : Int32) (V V' : Mm), RR R' f g s' z' → FZs z T V → FSm V V' → V.1 0 15 = v → V'.1 105 15 = v → (c'.length < 40 ∧ (c' = [] ∨ WD c' 1)) → SC V s' c' ones' → LSn V' c' → IV R' V' := by
    intro R' s' z' c' ones' v V V' r' ⟨p1, p2, p3⟩ ⟨q1, q2, q3, q4, q5, q6⟩ e15 e15' hc hsc hls
    have hs' := r'.2.2.2.2.2.2
    have v1 : ∀ a, a ≠ 1 → a ≠ 3 → a ≠ 4 → a ≠ 5 → ¬ (z ≤ a ∧ a ≤ z + 3) → a ≠ 0 → V.1 a = T.1 a := fun a h1 h3 h4 h5 hz h0 => funext fun j => p1 a j h1 h3 h4 h5 hz (fun e => h0 e.1)
    have o1 : ∀ a, a ≠ 1 → a ≠ 3 → a ≠ 4 → a ≠ 5 → ¬ (z ≤ a ∧ a ≤ z + 3) → a ≠ 0 → a ≠ 105 → a ≠ 107 → a ≠ 109 → a ≠ 119 → V'.1 a = T.1 a := fun a h1 h3 h4 h5 hz h0 g1 g2 g3 g4 => by rw [q1 a g1 g2 g3 g4, v1 a h1 h3 h4 h5 hz h0]
    have o2 : ∀ a, a ≠ 6 → a ≠ 105 → V'.2 a = T.2 a := fun a h1 h2 => by rw [q2 a h2, p2 a h1]
    have o5 : ∀ j, j = 35 ∨ (23 ≤ j ∧ j ≤ 31) ∨ j = 39 → V'.1 105 j = T.1 105 j := fun j hj => by rw [q3 j (by omega) (by omega) (by omega) (by omega) (by omega), v1 105 (by omega) (by omega) (by omega) (by omega) (by omega) (by omega)]
    have o7 : ∀ j, j < 89 → V'.1 107 j = T.1 107 j := fun j hj => by rw [q6 j hj, v1 107 (by omega) (by omega) (by omega) (by omega) (by omega) (by omega)]
    refine ⟨f, g, s', z', F, N, C, n, fs, H, b, 0, c', ones', t, r', ⟨hA.1, hA.2.1, hA.2.2.1, hA.2.2.2.1, hc⟩, ?_, hC.of o7 (o5 23 (by omega)) (o1 112 (by omega) (by omega) (by omega) (by omega) (by omega) (by omega) (by omega) (by omega) (by omega) (by omega)) (o2 110 (by omega) (by omega)), hD.nil ?_ (o2 7 (by omega) (by omega)) q5 (o2 111 (by omega) (by omega)), ⟨hsc.of (fun a h1 h2 => q1 a (by omega) (by omega) (by omega) (by omega)), hls⟩, hG.f15 (v := v) (by rw [q1 0 (by omega) (by omega) (by omega) (by omega)]; exact e15) e15' (fun j h1 h2 => ?_) (fun j hj => o5 j (by omega)) (o1 78 (by omega) (by omega) (by omega) (by omega) (by omega) (by omega) (by omega) (by omega) (by omega) (by omega)) (o1 118 (by omega) (by omega) (by omega) (by omega) (by omega) (by omega) (by omega) (by omega) (by omega) (by omega)), hT.of (o1 43 (by omega) (by omega) (by omega) (by omega) (by omega) (by omega) (by omega) (by omega) (by omega) (by omega)) (o1 44 (by omega) (by omega) (by omega) (by omega) (by omega) (by omega) (by omega) (by omega) (by omega) (by omega)) (o5 35 (by omega)) (o1 117 (by omega) (by omega) (by omega) (by omega) (by omega) (by omega) (by omega) (by omega) (by omega) (by omega)), hI.of r'.rgI (fun a h1 h2 => o1 a (by omega) (by omega) (by omega) (by omega) (by omega) (by omega) (by omega) (by omega) (by omega) (by omega)) (fun a h1 h2 => o2 a (by omega) (by omega)) (o1 121 (by omega) (by omega) (by omega) (by omega) (by omega) (by omega) (by omega) (by omega) (by omega) (by omega)) (o2 122 (by omega) (by omega)) (o1 123 (by omega) (by omega) (by omega) (by omega) (by omega) (by omega) (by omega) (by omega) (by omega) (by omega))⟩
    · have hb := hB.of (V := V') (fun a ha => o1 a (by omega) (by omega) (by omega) (by omega) (by omega) (by omega) (by omega) (by omega) (by omega) (by omega)) (o2 _ (by omega) (by omega)) (o2 _ (by omega) (by omega))
      exact ⟨hb.1.rf (r'.rg (by omega)), hb.2⟩
    · rw [q1 1 (by omega) (by omega) (by omega) (by omega), p3]
    · rw [q1 0 (by omega) (by omega) (by omega) (by omega), p1 0 j (by omega) (by omega) (by omega) (by omega) (by omega) (by omega)]
  have e105 : ∀ V, FZs z T V → (∀ a, 105 ≤ a → V.1 a = T.1 a) ∧ ∀ a, 105 ≤ a → V.2 a = T.2 a := fun V hV => ⟨fun a ha => funext fun j => hV.1 a j (by omega) (by omega) (by omega) (by omega) (by omega) (by omega), fun a ha => hV.2.1 a (by omega)⟩
  rcases c_sentW (b := b) (L := L) hR.rt (hR.c (by decide) (by decide)) hR.2.1 hR.2.2.2.1 hR.2.2.2.2.1 (hR.rs (by omega)) (by omega) (by omega) (by omega) hA.1.1 hA.1.2.1 hD.1 hB.1 with ⟨k, p, V, z1, z2, z3, z4⟩ | ⟨c', ones', V, z1, z2, z3, z4, z5, z6, z7⟩
  · rcases ms R V hR.rm (e105 V z4).1 (e105 V z4).2 with ⟨k', p', V', y1, y2, y3, y4, y5⟩ | ⟨_, _, V', y1, _⟩
    · rw [z1] at y1
      cases y1
      have hsV : SC V s c ones := hE.1.of (fun a h1 h2 => funext fun j => z4.1 a j (by omega) (by omega) (by omega) (by omega) (by omega) (by omega))
      exact ⟨_, V, R, V', z2, y2, asm R s z c ones _ V V' hR z4 y3 z3 y4 hA.2.2.2.2 hsV (hE.2.of (fun j _ _ => by rw [y5, (e105 V z4).1 107 (by omega)]))⟩
    · rw [z1] at y1
      cases y1
  · rcases ms _ V hR.swS.rm (e105 V z7).1 (e105 V z7).2 with ⟨k', p', V', y1, _⟩ | ⟨c2, ones2, V', y1, y2, y3, y4, y5, y6⟩
    · rw [z1] at y1
      cases y1
    · rw [z1] at y1
      cases y1
      exact ⟨_, V, _, V', z2, y2, asm _ z s c' ones' 0 V V' hR.swS z7 y3 z3 y4 ⟨z5, Or.inr z6⟩ z4 ⟨y5, y6⟩⟩
theorem jG.bk {T V : Mm} (h : jG T) (e15 : V.1 0 15 = V.1 105 15) (e : ∀ k, 16 ≤ k → k ≤ 19 → V.1 0 k = T.1 0 k) (e' : ∀ k, 24 ≤ k ∧ k ≤ 31 → V.1 105 k = T.1 105 k) (e2 : ∀ j, j < 4 → V.1 78 j = (if V.1 105 39 = 0 then -1 else V.1 118 j)) : jG V := by
  obtain ⟨h1, h2, h3, h4, h5, h6⟩ := h
  unfold jG
  rw [e 16 (by omega) (by omega), e 17 (by omega) (by omega), e 18 (by omega) (by omega), e 19 (by omega) (by omega), e' 24 (by omega), e' 25 (by omega), e' 26 (by omega), e' 27 (by omega), e' 29 (by omega), e' 30 (by omega), e' 31 (by omega)]
  exact ⟨e15, h2, h3, h4, h5, e2⟩
theorem q_book {R : Rf} {T : Mm} (h : IV R T) (x : Int32) : ∃ a V V', pX11_book R T 0 x = some (a, V) ∧ pX12_book R V 105 x = some (a, V') ∧ IV R V' := by
  obtain ⟨f, g, s, z, F, N, C, n, fs, H, b, L, c, ones, t, h⟩ := h
  by_cases hx : x = 0 ∨ x = 1
  · have kq := h.kq
    have lq := h.lq
    obtain ⟨hR, hA, hB, hC, hD, hE, hG, hT, hI⟩ := h
    have hf := hR.2.2.2.2.2.1
    have hs := hR.2.2.2.2.2.2
    have kk := fun (T' : Mm) (e1 : ∀ a, 105 ≤ a → T'.1 a = T.1 a) (e2 : ∀ a, 105 ≤ a → T'.2 a = T.2 a) => k_book (T := T) (T' := T') (b := b) (L := L) (N := N) kq ⟨lq.1.fr (e1 107 (by omega)), lq.2.1.of (by rw [e1 105 (by omega)]) (e1 112 (by omega)), lq.2.2⟩ hR.rt hR.rm (hR.c (by decide) (by decide)) (hR.c (by decide) (by decide)) (hR.c (by decide) (by decide)) (hR.c (by decide) (by decide)) (hR.c (by decide) (by decide)) hD.1 hB.1 hA.1.2.1 (by rw [e1 105 (by omega)]; exact hD.2.1) (fun k hk => by rw [e1 106 (by omega)]; exact hD.2.2.1 k hk) (fun k hk => by rw [e2 111 (by omega)]; exact hD.2.2.2 k hk) (hC.2.2.2.of (e2 110 (by omega))) hx
    have fk : ∀ V, FK T V → (∀ a, 105 ≤ a → V.1 a = T.1 a) ∧ ∀ a, 105 ≤ a → V.2 a = T.2 a := fun V hV => ⟨fun a ha => hV.1 a (by omega) (by omega) (by omega) (by omega) (by omega) (by omega) (by omega) (by unfold SB SA; omega), fun a ha => hV.2.2.1 a (by omega)⟩
    obtain ⟨a0, V0, hc, f1, f2⟩ : ∃ a0 V0, pX11_book R T 0 x = some (a0, V0) ∧ (∀ a, 105 ≤ a → V0.1 a = T.1 a) ∧ ∀ a, 105 ≤ a → V0.2 a = T.2 a := by
      rcases kk T (fun _ _ => rfl) (fun _ _ => rfl) with ⟨k', p, V, V', _, h1, _, _, _, _, _, _, _, _, _, _, h2, _⟩ | ⟨a, C', n', fs', H', V, V', h1, _, _, _, _, _, _, _, _, _, _, _, _, h2, _⟩
      · exact ⟨_, V, h1, fk V h2⟩
      · exact ⟨_, V, h1, fk V h2⟩
    have asm : ∀ (C' : Nat → Int32) (n' fs' : Nat) (H' : Nat → Nat → Int32) (V' : Mm), FK T V0 → FL V0 V' → V0.1 0 15 = V'.1 105 15 → CC V0 8 C' → PP V0 n' fs' H' → MC V' (F 2) C' → PM V' n' (F 2) H' → VC F C' → n' ≤ 8 → (∀ k, k < n' → VC F (H' k)) → (∀ j, j < 4 → V0.1 78 j = (if V'.1 105 39 = 0 then -1 else V'.1 118 j)) → IV R V' := by
      intro C' n' fs' H' V' ⟨p1, p2, p3, p4⟩ ⟨q1, q2, q3, q4, q5, q6⟩ e15 e1 e2 e3 e4 e5 e6 e7 e8
      unfold SB SA at p1
      have o1 : ∀ a, a ≠ 0 → a ≠ 1 → a ≠ 3 → a ≠ 4 → a ≠ 5 → ¬ (8 ≤ a ∧ a ≤ 32) → a ≠ 34 → a ≠ 42 → a ≠ 78 → a ≠ 105 → a ≠ 107 → a ≠ 109 → a ≠ 112 → a ≠ 113 → a ≠ 118 → V'.1 a = T.1 a := fun a h0 h1 h3 h4 h5 h8 h34 h42 h78 g1 g2 g3 g4 g5 g6 => by rw [q1 a g1 g2 g3 g4 g5 g6, p1 a h0 h1 h3 h4 h5 (by omega) (by omega) (by omega)]
      have oc : ∀ a, a < 105 → V'.1 a = V0.1 a := fun a ha => q1 a (by omega) (by omega) (by omega) (by omega) (by omega) (by omega)
      have o2 : ∀ a, a ≠ 6 → a ≠ 105 → V'.2 a = T.2 a := fun a h1 h2 => by rw [q2 a h2, p3 a h1]
      have o5 : ∀ j, j = 35 ∨ (24 ≤ j ∧ j ≤ 31) → V'.1 105 j = T.1 105 j := fun j hj => by rw [q3 j (by omega) (by omega) (by omega) (by omega) (by omega) (by omega) (by omega) (by omega) (by omega) (by omega), f1 105 (by omega)]
      have o7 : ∀ j, (j < 80 ∨ 89 ≤ j) → V'.1 107 j = T.1 107 j := fun j hj => by rw [q4 j hj, f1 107 (by omega)]
      refine ⟨f, g, s, z, F, N, C', n', fs', H', b, 0, c, ones, t, hR, ⟨hA.1, e5, e6, e7, hA.2.2.2.2⟩, ⟨hB.1.at (fun a h1 h2 => o1 a (by omega) (by omega) (by omega) (by omega) (by omega) (by omega) (by omega) (by omega) (by omega) (by omega) (by omega) (by omega) (by omega) (by omega) (by omega)) (fun p _ => by rw [o2 _ (by omega) (by omega)]) (fun p _ => by rw [o2 _ (by omega) (by omega)]), e1.of (oc _ (by omega)) (oc _ (by omega)), e2.of (fun a ha => oc a (by omega))⟩, ⟨fun i hi => by rw [o7 i (by omega)]; exact hC.1 i hi, e3, e4, hC.2.2.2.of (o2 110 (by omega) (by omega))⟩, hD.nil ?_ (o2 7 (by omega) (by omega)) q6 (o2 111 (by omega) (by omega)), hE.of (fun a h1 h2 => o1 a (by omega) (by omega) (by omega) (by omega) (by omega) (by omega) (by omega) (by omega) (by omega) (by omega) (by omega) (by omega) (by omega) (by omega) (by omega)) (fun j hj => o7 j (by omega)), hG.bk (by rw [oc 0 (by omega)]; exact e15) (fun j h1 h2 => ?_) (fun j hj => o5 j (by omega)) (fun j hj => by rw [oc 78 (by omega)]; exact e8 j hj), hT.of (o1 43 (by omega) (by omega) (by omega) (by omega) (by omega) (by omega) (by omega) (by omega) (by omega) (by omega) (by omega) (by omega) (by omega) (by omega) (by omega)) (o1 44 (by omega) (by omega) (by omega) (by omega) (by omega) (by omega) (by omega) (by omega) (by omega) (by omega) (by omega) (by omega) (by omega) (by omega) (by omega)) (o5 35 (by omega)) (o1 117 (by omega) (by omega) (by omega) (by omega) (by omega) (by omega) (by omega) (by omega) (by omega) (by omega) (by omega) (by omega) (by omega) (by omega) (by omega)), hI.of hR.rgI (fun a h1 h2 => o1 a (by omega) (by omega) (by omega) (by omega) (by omega) (by omega) (by omega) (by omega) (by omega) (by omega) (by omega) (by omega) (by omega) (by omega) (by omega)) (fun a h1 h2 => o2 a (by omega) (by omega)) (o1 121 (by omega) (by omega) (by omega) (by omega) (by omega) (by omega) (by omega) (by omega) (by omega) (by omega) (by omega) (by omega) (by omega) (by omega) (by omega)) (o2 122 (by omega) (by omega)) (o1 123 (by omega) (by omega) (by omega) (by omega) (by omega) (by omega) (by omega) (by omega) (by omega) (by omega) (by omega) (by omega) (by omega) (by omega) (by omega))⟩
      · rw [oc 1 (by omega), p4]
      · rw [oc 0 (by omega), p2 j (by omega)]
    rcases kk V0 f1 f2 with ⟨k', p, V, V', h0, h1, h2, h3, h4, h5, h6, h7, h8, h9, h10, h11, h12, h13⟩ | ⟨a, C', n', fs', H', V, V', h1, h2, h3, h4, h5, h6, h7, h8, h9, h10, h11, h12, h13, h14, h15⟩
    · obtain ⟨rfl, rfl⟩ := some2 hc h1
      refine ⟨_, _, V', hc, h2, asm C n fs H V' h12 h13 (by rw [h3, h4]) h5 h6 h7 h8 hA.2.1 hA.2.2.1 hA.2.2.2.1 (fun j hj => ?_)⟩
      rw [h9, h11, h10, f1 105 (by omega), f1 118 (by omega)]
      exact hG.2.2.2.2.2 j hj
    · obtain ⟨rfl, rfl⟩ := some2 hc h1
      refine ⟨_, _, V', hc, h2, asm C' n' fs' H' V' h14 h15 (by rw [h3, h4]) h5 h6 h7 h8 h9 h10 h11 (fun j hj => ?_)⟩
      rw [h13, if10, h12 j hj]
  · refine ⟨-1000, T, wI T 105 0 0, ?_, ?_, f, g, s, z, F, N, C, n, fs, H, b, L, c, ones, t, h.s0 (k := 0) (v := 0) (by unfold Ker; omega)⟩
    · unfold pX11_book
      rw [if_neg (fun e => hx (Or.inl e)), if_neg (fun e => hx (Or.inr e))]
    · unfold pX12_book
      simp only [lt]
      rw [m_isInG, bd1_some, ifI, if_neg (fun e => hx (by
        obtain ⟨k, hk, rfl⟩ := nI_01 (Int32.not_lt.mpr e.1) e.2
        have : k = 0 ∨ k = 1 := by omega
        rcases this with rfl | rfl
        · exact Or.inl rfl
        · exact Or.inr rfl))]
