/-! the calls, one by one: heights, tag, said, count, end -/
theorem q_heights {R : Rf} {T : Mm} (h : IV R T) : ∃ a V V', pX11_heights R T 0 = some (a, V) ∧ pX12_heights R V 105 = some (a, V') ∧ IV R V' := by
  obtain ⟨f, g, s, z, F, N, C, n, fs, H, b, L, c, ones, t, h⟩ := h
  have hD := h.2.2.2.2.1
  have r := h.1
  have hG := h.2.2.2.2.2.2.1
  have r36 : ∀ p, p < 5 → R 36 p = 37 + p := by
    have : ∀ p, p < 5 → R0 36 p = 37 + p := by decide +kernel
    exact fun p hp => r.c (by omega) (this p hp)
  have kk := fun (T' : Mm) (l : LV R T' F C) (e2 : T'.1 105 2 = nI L) (e6 : T'.1 106 = T.1 106) => k_heights h.kv l (r.c (by decide) (by decide)) (r.c (by decide) (by decide)) (r.c (by decide) (by decide)) (r.c (by decide) (by decide)) r36 (r.c (by decide) (by decide)) (r.c (by decide) (by decide)) (r.c (by decide) (by decide)) hD.1.2.1 e2 (hD.tb e6)
  have h34 : ∀ U, Fr S34 (wI T 1 1 0) U → (∀ a, ¬ S34 a → a ≠ 1 → U.1 a = T.1 a) ∧ U.2 = T.2 ∧ U.1 1 1 = 0 := fun U hU => ⟨fun a h1 h2 => by rw [(hU a h1).1, wI_1, up2_row h2], (hU 0 (by unfold S34; omega)).2, by rw [(hU 1 (by unfold S34; omega)).1, wI_s]⟩
  obtain ⟨a0, V0, hc, fr0⟩ : ∃ a0 V0, pX11_heights R T 0 = some (a0, V0) ∧ ∀ a, 100 ≤ a → V0.1 a = T.1 a := by
    rcases kk T h.lv hD.2.1 rfl with ⟨h1, _⟩ | ⟨U, V, h1, h2, _⟩ | ⟨U, V, a, lo, w, h1, h2, _⟩
    · exact ⟨_, _, h1, fun a ha => by rw [wI_1, up2_row (by omega)]⟩
    · exact ⟨_, _, h1, fun a ha => (h34 U h2).1 a (by unfold S34; omega) (by omega)⟩
    · exact ⟨_, _, h1, fun a ha => by rw [wI_1, up2_row (by omega), wI_1, up2_row (by omega)]; exact (h34 U h2).1 a (by unfold S34; omega) (by omega)⟩
  have b5 : ∀ k, V0.1 105 k = T.1 105 k := fun k => by rw [fr0 105 (by omega)]
  rcases kk V0 (h.lv.fr (fr0 107 (by omega))) (by rw [b5]; exact hD.2.1) (fr0 106 (by omega)) with ⟨h1, h2⟩ | ⟨U, V, h1, h2, h3, h4⟩ | ⟨U, V, a, lo, w, h1, h2, h3, h4⟩
  · obtain ⟨rfl, rfl⟩ := some2 hc h1
    have w1 : ∀ a, a ≠ 1 → a ≠ 105 → (tkS (wI T 1 1 0) (nI L) 940).1 a = T.1 a := fun a e1 e2 => by rw [kS_o e2, wI_1, up2_row e1]
    have w5 : ∀ k, k ≠ 0 → ¬ (2 ≤ k ∧ k ≤ 5) → (tkS (wI T 1 1 0) (nI L) 940).1 105 k = T.1 105 k := fun k e1 e2 => by rw [kS_k e1 e2, b5]
    refine ⟨_, _, _, hc, h2, f, g, s, z, F, N, C, n, fs, H, b, 0, c, ones, t, h.nil (fun a ha _ _ _ => w1 a (fun e => ha (by unfold Scr; omega)) (fun e => ha (by unfold Scr; omega))) (by rw [kS_o (by decide), wI_s]) ⟨kS_l, w5 23 (by decide) (by decide), w5 35 (by decide) (by decide)⟩ (fun a _ _ _ _ => rfl) (hG.of (fun k _ _ => by rw [w1 0 (by decide) (by decide)]) (fun k hk => w5 k (by omega) (by omega)) (w1 78 (by decide) (by decide)) (w1 118 (by decide) (by decide)))⟩
  · obtain ⟨rfl, rfl⟩ := some2 hc h1
    obtain ⟨u1, u2, u3⟩ := h34 _ h2
    have w1 : ∀ a, ¬ S34 a → a ≠ 1 → a ≠ 105 → a ≠ 115 → V.1 a = T.1 a := fun a e1 e2 e3 e4 => by rw [(h4 a e4).1, kS_o e3, u1 a e1 e2]
    have w5 : ∀ k, k ≠ 0 → ¬ (2 ≤ k ∧ k ≤ 5) → V.1 105 k = T.1 105 k := fun k e1 e2 => by rw [(h4 105 (by decide)).1, kS_k e1 e2, b5]
    unfold S34 at w1
    refine ⟨_, _, _, hc, h3, f, g, s, z, F, N, C, n, fs, H, b, 0, c, ones, t, h.nil (fun a ha _ _ _ => by unfold Scr at ha; exact w1 a (by omega) (by omega) (by omega) (by omega)) (by rw [(h4 1 (by decide)).1, kS_o (by decide), u3]) ⟨by rw [(h4 105 (by decide)).1, kS_l], w5 23 (by decide) (by decide), w5 35 (by decide) (by decide)⟩ (fun a _ _ _ _ => by rw [(h4 0 (by decide)).2, ← u2]; rfl) (hG.of (fun k _ _ => by rw [w1 0 (by decide) (by decide) (by decide) (by decide)]) (fun k hk => w5 k (by omega) (by omega)) (w1 78 (by decide) (by decide) (by decide) (by decide)) (w1 118 (by decide) (by decide) (by decide) (by decide)))⟩
  · obtain ⟨rfl, rfl⟩ := some2 hc h1
    obtain ⟨u1, u2, u3⟩ := h34 _ h2
    obtain ⟨g1, g2, g3, g4, g5, g6⟩ := h4
    have w1 : ∀ a, ¬ S34 a → a ≠ 0 → a ≠ 1 → a ≠ 105 → a ≠ 115 → a ≠ 116 → V.1 a = T.1 a := fun a e1 e0 e2 e3 e4 e5 => by rw [g1 a e3 e4 e5, kS_o e3, wI_1, up2_row e0, wI_1, up2_row e0, u1 a e1 e2]
    have w0 : ∀ k, V.1 0 k = (wI (wI U 0 18 lo) 0 19 w).1 0 k := fun k => by rw [g1 0 (by decide) (by decide) (by decide), kS_o (by decide)]
    have w5 : ∀ k, k ≠ 0 → ¬ (2 ≤ k ∧ k ≤ 5) → k ≠ 29 → k ≠ 30 → k ≠ 31 → V.1 105 k = T.1 105 k := fun k e1 e2 e3 e4 e5 => by rw [g3 k e3 e4 e5, kS_k e1 e2, b5]
    unfold S34 at w1
    refine ⟨_, _, _, hc, h3, f, g, s, z, F, N, C, n, fs, H, b, 0, c, ones, t, h.nil (fun a ha h0 _ _ => by unfold Scr at ha; exact w1 a (by omega) h0 (by omega) (by omega) (by omega) (by omega)) (by rw [g1 1 (by decide) (by decide) (by decide), kS_o (by decide), wI_n (Or.inl (by decide)), wI_n (Or.inl (by decide)), u3]) ⟨by rw [g3 2 (by decide) (by decide) (by decide), kS_l], w5 23 (by decide) (by decide) (by decide) (by decide) (by decide), w5 35 (by decide) (by decide) (by decide) (by decide) (by decide)⟩ (fun a _ _ _ _ => by rw [g2, ← u2]; rfl) (hG.l18 (v := lo) (w := w) (fun k e1 e2 => ?_) ?_ ?_ (fun k hk => w5 k (by omega) (by omega) (by omega) (by omega) (by omega)) g4 g5 g6 (w1 78 (by decide) (by decide) (by decide) (by decide) (by decide) (by decide)) (w1 118 (by decide) (by decide) (by decide) (by decide) (by decide) (by decide)))⟩
    · rw [w0, wI_n (by omega), wI_n (by omega), u1 0 (by unfold S34; omega) (by decide)]
    · rw [w0, wI_n (by omega), wI_s]
    · rw [w0, wI_s]
theorem q_tag {R : Rf} {T : Mm} (h : IV R T) (x : Int32) : ∃ a V V', pX11_tag R T 0 x = some (a, V) ∧ pX12_tag R V 105 x = some (a, V') ∧ IV R V' := by
  obtain ⟨f, g, s, z, F, N, C, n, fs, H, b, L, c, ones, t, h⟩ := h
  have r := h.1
  have kk := fun (T' : Mm) (l : LV R T' F C) (e2 : T'.2 = T.2) => k_tag h.kv l (r.c (by decide) (by decide)) (r.c (by decide) (by decide)) (r.c (by decide) (by decide)) (r.c (by decide) (by decide)) (fun p hp => ⟨N p, h.2.1.1.2.1.1 p hp, h.2.2.1.1.2.2.1 p hp, by rw [e2]; exact h.2.2.2.1.2.2.2.1 p hp⟩) x
  obtain ⟨a0, V0, hc, fr0, fr2⟩ : ∃ a0 V0, pX11_tag R T 0 x = some (a0, V0) ∧ (∀ a, 100 ≤ a → V0.1 a = T.1 a) ∧ V0.2 = T.2 := by
    rcases kk T h.lv rfl with ⟨h1, _⟩ | ⟨a, U, V, t', h1, _, _, _, _, h6, _⟩
    · exact ⟨_, _, h1, fun _ _ => rfl, rfl⟩
    · exact ⟨_, _, h1, fun a ha => (h6 a (by unfold S3; omega)).1, (h6 0 (by unfold S3; omega)).2⟩
  rcases kk V0 (h.lv.fr (fr0 107 (by omega))) fr2 with ⟨h1, h2⟩ | ⟨a, U, V, t', h1, h2, h3, h4, h5, h6, h7⟩
  · obtain ⟨rfl, rfl⟩ := some2 hc h1
    exact ⟨_, _, _, hc, h2, f, g, s, z, F, N, C, n, fs, H, b, L, c, ones, t, h.s0 (k := 0) (v := 0) (by unfold Ker; omega)⟩
  · obtain ⟨rfl, rfl⟩ := some2 hc h1
    obtain ⟨hR, hA, hB, hC, hD, hE, hG, hT, hI⟩ := h
    have hf := hR.2.2.2.2.2.1
    have hs := hR.2.2.2.2.2.2
    have w2 : V.2 = T.2 := h7.2.2.trans fr2
    have w1 : ∀ a, ¬ S3 a → a ≠ 105 → a ≠ 117 → V.1 a = T.1 a := fun a e1 e2 e3 => by rw [h7.1 a e2 e3, wI_1, up2_row e2, (h6 a e1).1]
    have w5 : ∀ k, k ≠ 0 → k ≠ 35 → V.1 105 k = T.1 105 k := fun k e1 e2 => by rw [h7.2.1 k e2, wI_n (Or.inr e1), (h6 105 (by unfold S3; omega)).1]
    unfold S3 at w1
    refine ⟨_, _, _, hc, h2, f, g, s, z, F, N, C, n, fs, H, b, L, c, ones, t', hR, hA, hB.of (fun a ha => w1 a (by omega) (by omega) (by omega)) (by rw [w2]) (by rw [w2]), hC.of (fun k _ => by rw [w1 107 (by omega) (by omega) (by omega)]) (w5 23 (by decide) (by decide)) (w1 112 (by decide) (by decide) (by decide)) (by rw [w2]), hD.of (by rw [w1 1 (by decide) (by decide) (by decide)]) (w1 2 (by decide) (by decide) (by decide)) (by rw [w2]) (w5 2 (by decide) (by decide)) (w1 106 (by decide) (by decide) (by decide)) (by rw [w2]), hE.of (fun a h1 h2 => w1 a (by omega) (by omega) (by omega)) (fun k _ => by rw [w1 107 (by decide) (by decide) (by decide)]), hG.of (fun k _ _ => by rw [w1 0 (by decide) (by decide) (by decide)]) (fun k hk => w5 k (by omega) (by omega)) (w1 78 (by decide) (by decide) (by decide)) (w1 118 (by decide) (by decide) (by decide)), ⟨⟨?_, fun k hk => ?_⟩, h4, h5⟩, hI.of hR.rgI (fun a h1 h2 => w1 a (by omega) (by omega) (by omega)) (fun a _ _ => by rw [w2]) (w1 121 (by decide) (by decide) (by decide)) (by rw [w2]) (w1 123 (by decide) (by decide) (by decide))⟩
    · rw [h7.1 43 (by decide) (by decide), wI_n (Or.inl (by decide))]; exact h3.1
    · rw [h7.1 44 (by decide) (by decide), wI_n (Or.inl (by decide))]; exact h3.2 k hk
theorem q_said {R : Rf} {T : Mm} (h : IV R T) (x : Int32) : ∃ a V V', pX11_said R T 0 x = some (a, V) ∧ pX12_said R V 105 x = some (a, V') ∧ IV R V' := by
  obtain ⟨f, g, s, z, F, N, C, n, fs, H, b, L, c, ones, t, h⟩ := h
  have hE := h.2.2.2.2.2.1
  obtain ⟨a, q, V, h1, _⟩ := k_said h.kv h.lv h.1.rm h.ks hE.2 x
  have hq := h.sN (q := q)
  obtain ⟨a', q', V', h1', h2', h3', h4', h5'⟩ := k_said h.kv hq.lv h.1.rm h.ks hq.2.2.2.2.2.1.2 x
  obtain ⟨rfl, _⟩ := some2 h1 h1'
  refine ⟨a, _, V', h1, h2', f, g, s, z, F, N, C, n, fs, H, b, L, c, ones, t, hq.fr (fun a ha => h3' a (fun e => ha (by unfold Scr; omega)) (fun e => ha (by unfold Scr; omega))) (by rw [h3' 1 (by decide) (by decide)]) (fun k hk => ?_) (fun a _ _ _ _ => by rw [h4'])⟩
  rw [h5', wI_n (Or.inr (fun e => by unfold Ker at hk; omega))]
theorem q_count {R : Rf} {T : Mm} (h : IV R T) (x : Int32) : ∃ a V', pX11_count R T 0 x = some a ∧ pX12_count R T 105 x = some (a, V') ∧ IV R V' := by
  obtain ⟨f, g, s, z, F, N, C, n, fs, H, b, L, c, ones, t, h⟩ := h
  have hi : IV R (wI T 105 0 0) := ⟨f, g, s, z, F, N, C, n, fs, H, b, L, c, ones, t, h.s0 (k := 0) (v := 0) (by unfold Ker; omega)⟩
  obtain ⟨c1, c0, c1', c2, c3, c4, _⟩ := h.2.2.1.1.1
  have hM := h.2.2.2.1.1
  have hD := h.2.2.2.2.1
  unfold pX11_count pX12_count
  simp only [lt]
  rw [m_isInG, bd1_some, ifI, h.1.2.1, show R 0 0 = 1 from h.1.c (by decide) (by decide), show R 105 6 = 107 from h.1.c (by decide) (by decide), c0, c1', c2, c3, c4, hD.1.2.1, wI_n (Or.inr (by decide)), hD.2.1]
  by_cases e5 : x = 5
  · subst e5
    exact ⟨_, _, by rw [if_neg (by decide), if_neg (by decide), if_neg (by decide), if_neg (by decide), if_neg (by decide), if_pos rfl], by rw [if_pos rfl], hi⟩
  rw [if_neg e5, if_neg e5]
  by_cases e0 : x < 0
  · have hn : ∀ j : Nat, j < 100 → ¬ x = nI j := fun j hj e => by
      subst e
      exact Int32.not_lt.mpr ((nI_leI (a := 0) (by omega) (by omega)).mpr (Nat.zero_le _)) e0
    rw [if_neg (show ¬ x = 0 from hn 0 (by omega)), if_neg (show ¬ x = 1 from hn 1 (by omega)), if_neg (show ¬ x = 2 from hn 2 (by omega)), if_neg (show ¬ x = 3 from hn 3 (by omega)), if_neg (show ¬ x = 4 from hn 4 (by omega)), if_neg (show ¬ ((0 : Int32) ≤ x ∧ x ≤ 4) from fun z => Int32.not_lt.mpr z.1 e0)]
    exact ⟨_, _, rfl, rfl, hi⟩
  obtain ⟨j, hj, rfl⟩ := nI_all e0
  simp (disch := omega) only [eq_lit]
  by_cases e4 : j ≤ 4
  · rw [if_pos (show (0 : Int32) ≤ nI j ∧ nI j ≤ 4 from ⟨(nI_leI (a := 0) (by omega) hj).mpr (by omega), (nI_leI (b := 4) hj (by omega)).mpr e4⟩), ix_nI (by omega) (by decide), nI_clamp hj, wI_n (Or.inl (by decide)), hM j (by omega)]
    refine ⟨nI (F j), _, ?_, rfl, hi⟩
    have : j = 0 ∨ j = 1 ∨ j = 2 ∨ j = 3 ∨ j = 4 := by omega
    rcases this with rfl | rfl | rfl | rfl | rfl <;> rfl
  · rw [if_neg (show ¬ ((0 : Int32) ≤ nI j ∧ nI j ≤ 4) from fun z => e4 ((nI_leI (b := 4) hj (by omega)).mp z.2)), if_neg (by omega), if_neg (by omega), if_neg (by omega), if_neg (by omega), if_neg (by omega)]
    exact ⟨_, _, rfl, rfl, hi⟩
theorem jD.len {T V : Mm} {b : Nat → Nat} {L j : Nat} (h : jD T b L) (hj : j ≤ L) (e1 : V.1 1 1 = nI j) (e2 : V.1 2 = T.1 2) (e3 : V.2 7 = T.2 7) (e4 : V.1 105 2 = nI j) (e5 : V.1 106 = T.1 106) (e6 : V.2 111 = T.2 111) : jD V b j := ⟨⟨by have := h.1.1; omega, e1, fun k hk => by rw [e2]; exact h.1.2.2.1 k (by omega), fun k hk => by rw [e3]; exact h.1.2.2.2 k hk⟩, e4, fun k hk => by rw [e5]; exact h.2.2.1 k (by omega), fun k hk => by rw [e6]; exact h.2.2.2 k hk⟩
/-- another text -/
theorem IVp.tx {R : Rf} {T V : Mm} {f g s z : Nat} {F : Nat → Nat} {N : Nat → List Nat} {C : Nat → Int32} {n fs : Nat} {H : Nat → Nat → Int32} {b b' : Nat → Nat} {L L' : Nat} {c : Cod} {ones : Nat} {t : List Nat} (h : IVp R T f g s z F N C n fs H b L c ones t) (e1 : ∀ a, ¬ Scr g z a → a ≠ 2 → a ≠ 106 → V.1 a = T.1 a) (e5 : ∀ k, Ker k → k ≠ 2 → V.1 105 k = T.1 105 k) (e2 : ∀ a, a ≠ 6 → a ≠ g + 2 → a ≠ g + 3 → a ≠ 105 → V.2 a = T.2 a) (hD : jD V b' L') : IVp R V f g s z F N C n fs H b' L' c ones t := by
  obtain ⟨hR, hA, hB, hC, _, hE, hG, hT, hI⟩ := h
  have hf := hR.2.2.2.2.2.1
  have hs := hR.2.2.2.2.2.2
  unfold Scr at e1
  unfold Ker at e5
  refine ⟨hR, hA, hB.of (fun a ha => e1 a (by omega) (by omega) (by omega)) (e2 _ (by omega) (by omega) (by omega) (by omega)) (e2 _ (by omega) (by omega) (by omega) (by omega)), hC.of (fun k _ => by rw [e1 107 (by omega) (by omega) (by omega)]) (e5 23 (by omega) (by omega)) (e1 112 (by omega) (by omega) (by omega)) (e2 110 (by omega) (by omega) (by omega) (by omega)), hD, hE.of (fun a h1 h2 => e1 a (by omega) (by omega) (by omega)) (fun k _ => by rw [e1 107 (by omega) (by omega) (by omega)]), hG.of (fun k _ _ => by rw [e1 0 (by omega) (by omega) (by omega)]) (fun k hk => e5 k (by omega) (by omega)) (e1 78 (by omega) (by omega) (by omega)) (e1 118 (by omega) (by omega) (by omega)), hT.of (e1 43 (by omega) (by omega) (by omega)) (e1 44 (by omega) (by omega) (by omega)) (e5 35 (by omega) (by omega)) (e1 117 (by omega) (by omega) (by omega)), hI.of hR.rgI (fun a h1 h2 => e1 a (by omega) (by omega) (by omega)) (fun a h1 h2 => e2 a (by omega) (by omega) (by omega) (by omega)) (e1 121 (by omega) (by omega) (by omega)) (e2 122 (by omega) (by omega) (by omega) (by omega)) (e1 123 (by omega) (by omega) (by omega))⟩
theorem q_end {R : Rf} {T : Mm} (h : IV R T) (x : Int32) : ∃ a V V', pX11_end R T 0 x = some (a, V) ∧ pX12_end R V 105 x = some (a, V') ∧ IV R V' := by
  obtain ⟨f, g, s, z, F, N, C, n, fs, H, b, L, c, ones, t, h⟩ := h
  have hD := h.2.2.2.2.1
  have hi : IV R (wI T 105 0 0) := ⟨f, g, s, z, F, N, C, n, fs, H, b, L, c, ones, t, h.s0 (k := 0) (v := 0) (by unfold Ker; omega)⟩
  unfold pX11_end pX12_end
  simp only [lt]
  rw [show R 0 0 = 1 from h.1.c (by decide) (by decide), hD.1.2.1]
  by_cases e0 : x < 0
  · rw [if_pos e0]
    refine ⟨_, T, _, rfl, ?_, hi⟩
    rw [if_pos e0]
  rw [if_neg e0]
  by_cases e1 : x ≤ nI L
  · rw [if_pos e1]
    obtain ⟨j, hj, rfl⟩ := nI_all e0
    have hL := hD.1.1
    have hjL : j ≤ L := (nI_leI hj (by omega)).mp e1
    refine ⟨_, _, wI (wI (wI T 1 1 (nI j)) 105 0 0) 105 2 (nI j), rfl, ?_, f, g, s, z, F, N, C, n, fs, H, b, j, c, ones, t, h.tx (fun a ha _ _ => ?_) (fun k hk h2 => ?_) (fun _ _ _ _ _ => rfl) (hD.len hjL ?_ ?_ rfl wI_s ?_ rfl)⟩
    · rw [if_neg e0, wI_n (Or.inr (by decide)), wI_n (Or.inl (by decide)), hD.2.1, if_pos e1]
    · unfold Scr at ha
      simp (disch := omega) only [wI_1, up2_row]
    · unfold Ker at hk
      simp (disch := omega) only [wI_n]
    · simp (disch := omega) only [wI_n, wI_s]
    · simp (disch := omega) only [wI_1, up2_row]
    · simp (disch := omega) only [wI_1, up2_row]
  · rw [if_neg e1]
    refine ⟨_, T, _, rfl, ?_, hi⟩
    rw [if_neg e0, wI_n (Or.inr (by decide)), hD.2.1, if_neg e1]
