/-! the calls, one by one: lighten, keep, who, heights, tag, said, sentence -/
theorem jG.l16 {T V : Mm} {v : Int32} (h : jG T) (e : ∀ k, 15 ≤ k → k ≤ 19 → k ≠ 16 → V.1 0 k = T.1 0 k) (e0 : V.1 0 16 = v) (e' : ∀ k, k = 15 ∨ (24 ≤ k ∧ k ≤ 31) ∨ k = 39 → k ≠ 24 → k ≠ 26 → V.1 105 k = T.1 105 k) (e1 : V.1 105 26 = 1) (e24 : V.1 105 24 = v) (e2 : V.1 78 = T.1 78) (e3 : V.1 118 = T.1 118) : jG V := by
  obtain ⟨h1, h2, h3, h4, h5, h6⟩ := h
  unfold jG
  rw [e 15 (by omega) (by omega) (by omega), e0, e 17 (by omega) (by omega) (by omega), e 18 (by omega) (by omega) (by omega), e 19 (by omega) (by omega) (by omega), e' 15 (by omega) (by omega) (by omega), e24, e' 25 (by omega) (by omega) (by omega), e1, e' 27 (by omega) (by omega) (by omega), e' 29 (by omega) (by omega) (by omega), e' 30 (by omega) (by omega) (by omega), e' 31 (by omega) (by omega) (by omega), e' 39 (by omega) (by omega) (by omega), e2, e3]
  exact ⟨h1, by rw [if10], h3, h4, h5, h6⟩
theorem jG.l17 {T V : Mm} {v : Int32} (h : jG T) (e : ∀ k, 15 ≤ k → k ≤ 19 → k ≠ 17 → V.1 0 k = T.1 0 k) (e0 : V.1 0 17 = v) (e' : ∀ k, k = 15 ∨ (24 ≤ k ∧ k ≤ 31) ∨ k = 39 → k ≠ 25 → k ≠ 27 → V.1 105 k = T.1 105 k) (e1 : V.1 105 27 = 1) (e24 : V.1 105 25 = v) (e2 : V.1 78 = T.1 78) (e3 : V.1 118 = T.1 118) : jG V := by
  obtain ⟨h1, h2, h3, h4, h5, h6⟩ := h
  unfold jG
  rw [e 15 (by omega) (by omega) (by omega), e0, e 16 (by omega) (by omega) (by omega), e 18 (by omega) (by omega) (by omega), e 19 (by omega) (by omega) (by omega), e' 15 (by omega) (by omega) (by omega), e24, e' 24 (by omega) (by omega) (by omega), e1, e' 26 (by omega) (by omega) (by omega), e' 29 (by omega) (by omega) (by omega), e' 30 (by omega) (by omega) (by omega), e' 31 (by omega) (by omega) (by omega), e' 39 (by omega) (by omega) (by omega), e2, e3]
  exact ⟨h1, h2, by rw [if10], h4, h5, h6⟩
theorem jG.l18 {T V : Mm} {v w : Int32} (h : jG T) (e : ∀ k, 15 ≤ k → k ≤ 17 → V.1 0 k = T.1 0 k) (e0 : V.1 0 18 = v) (e0' : V.1 0 19 = w) (e' : ∀ k, k = 15 ∨ (24 ≤ k ∧ k ≤ 28) ∨ k = 39 → V.1 105 k = T.1 105 k) (e1 : V.1 105 31 = 1) (e29 : V.1 105 29 = v) (e30 : V.1 105 30 = w) (e2 : V.1 78 = T.1 78) (e3 : V.1 118 = T.1 118) : jG V := by
  obtain ⟨h1, h2, h3, h4, h5, h6⟩ := h
  unfold jG
  rw [e 15 (by omega) (by omega), e0, e 16 (by omega) (by omega), e 17 (by omega) (by omega), e0', e' 15 (by omega), e29, e30, e1, e' 24 (by omega), e' 25 (by omega), e' 26 (by omega), e' 27 (by omega), e' 39 (by omega), e2, e3]
  exact ⟨h1, h2, h3, by rw [if10], by rw [if10], h6⟩
/-- all but the numbers of jG -/
theorem IVp.fg {R : Rf} {T V : Mm} {f g s z : Nat} {F : Nat → Nat} {N : Nat → List Nat} {C : Nat → Int32} {n fs : Nat} {H : Nat → Nat → Int32} {b : Nat → Nat} {L : Nat} {c : Cod} {ones : Nat} {t : List Nat} (h : IVp R T f g s z F N C n fs H b L c ones t) (e1 : ∀ a, ¬ Scr g z a → a ≠ 0 → V.1 a = T.1 a) (e11 : V.1 1 1 = T.1 1 1) (e5 : V.1 105 2 = T.1 105 2 ∧ V.1 105 23 = T.1 105 23 ∧ V.1 105 35 = T.1 105 35) (e2 : ∀ a, a ≠ 6 → a ≠ g + 2 → a ≠ g + 3 → a ≠ 105 → V.2 a = T.2 a) (hG : jG V) : IVp R V f g s z F N C n fs H b L c ones t := by
  obtain ⟨hR, hA, hB, hC, hD, hE, _, hT, hI⟩ := h
  have hf := hR.2.2.2.2.2.1
  have hs := hR.2.2.2.2.2.2
  unfold Scr at e1
  refine ⟨hR, hA, hB.of (fun a ha => e1 a (by omega) (by omega)) (e2 _ (by omega) (by omega) (by omega) (by omega)) (e2 _ (by omega) (by omega) (by omega) (by omega)), hC.of (fun k _ => by rw [e1 107 (by omega) (by omega)]) e5.2.1 (e1 112 (by omega) (by omega)) (e2 110 (by omega) (by omega) (by omega) (by omega)), hD.of e11 (e1 2 (by omega) (by omega)) (e2 7 (by omega) (by omega) (by omega) (by omega)) e5.1 (e1 106 (by omega) (by omega)) (e2 111 (by omega) (by omega) (by omega) (by omega)), hE.of (fun a h1 h2 => e1 a (by omega) (by omega)) (fun k _ => by rw [e1 107 (by omega) (by omega)]), hG, hT.of (e1 43 (by omega) (by omega)) (e1 44 (by omega) (by omega)) e5.2.2 (e1 117 (by omega) (by omega)), hI.of hR.rgI (fun a h1 h2 => e1 a (by omega) (by omega)) (fun a h1 h2 => e2 a (by omega) (by omega) (by omega) (by omega)) (e1 121 (by omega) (by omega)) (e2 122 (by omega) (by omega) (by omega) (by omega)) (e1 123 (by omega) (by omega))⟩
theorem q_lighten {R : Rf} {T : Mm} (h : IV R T) (x : Int32) : ∃ a V V', pX11_lighten R T 0 x = some (a, V) ∧ pX12_lighten R V 105 x = some (a, V') ∧ IV R V' := by
  obtain ⟨f, g, s, z, F, N, C, n, fs, H, b, L, c, ones, t, h⟩ := h
  have lo : ∀ v, LV R (wI T 0 16 v) F C := fun v => h.lv.sw (by decide)
  rcases k_lighten h.kv h.lv x with ⟨a, v, h1, _⟩ | ⟨h1, h2⟩
  · rcases k_lighten h.kv (lo v) x with ⟨a', v', h1', h2'⟩ | ⟨h1', h2'⟩
    · obtain ⟨rfl, e⟩ := some2 h1 h1'
      have hv : v = v' := by
        have := congrArg (fun M : Mm => M.1 0 16) e
        simpa only [wI_s] using this
      subst hv
      refine ⟨a, _, _, h1, h2', f, g, s, z, F, N, C, n, fs, H, b, L, c, ones, t, h.fg (fun a ha h0 => ?_) ?_ ⟨?_, ?_, ?_⟩ (fun _ _ _ _ _ => rfl) (h.2.2.2.2.2.2.1.l16 (v := v) (fun k _ _ hk => ?_) ?_ (fun k _ h24 h26 => ?_) ?_ ?_ ?_ ?_)⟩
      · have : a ≠ 105 := fun e => ha (by unfold Scr; omega)
        simp (disch := omega) only [wI_1, up2_row]
      · simp (disch := omega) only [wI_n]
      · simp (disch := omega) only [wI_n]
      · simp (disch := omega) only [wI_n]
      · simp (disch := omega) only [wI_n]
      · simp (disch := omega) only [wI_n]
      · simp (disch := omega) only [wI_n, wI_s]
      · have : k ≠ 0 := by omega
        simp (disch := omega) only [wI_n]
      · simp (disch := omega) only [wI_n, wI_s]
      · simp (disch := omega) only [wI_s]
      · simp (disch := omega) only [wI_1, up2_row]
      · simp (disch := omega) only [wI_1, up2_row]
    · have e : wI T 0 16 v = T := (some2 h1 h1').2
      rw [e] at h2'
      exact ⟨-1, T, _, h1', h2', f, g, s, z, F, N, C, n, fs, H, b, L, c, ones, t, h.s0 (k := 0) (v := 0) (by unfold Ker; omega)⟩
  · exact ⟨-1, T, _, h1, h2, f, g, s, z, F, N, C, n, fs, H, b, L, c, ones, t, h.s0 (k := 0) (v := 0) (by unfold Ker; omega)⟩
theorem q_keep {R : Rf} {T : Mm} (h : IV R T) (x : Int32) : ∃ a V V', pX11_keep R T 0 x = some (a, V) ∧ pX12_keep R V 105 x = some (a, V') ∧ IV R V' := by
  obtain ⟨f, g, s, z, F, N, C, n, fs, H, b, L, c, ones, t, h⟩ := h
  have lo : ∀ q v, LV R (wI (setN T q) 0 17 v) F C := fun q v => (h.sN (q := q)).lv.sw (by decide)
  rcases k_keep h.kv h.lv x with ⟨a, v, q, h1, _⟩ | ⟨h1, h2⟩
  · rcases k_keep h.kv (lo q v) x with ⟨a', v', q', h1', h2'⟩ | ⟨h1', h2'⟩
    · obtain ⟨rfl, e⟩ := some2 h1 h1'
      have hv : v = v' := by
        have := congrArg (fun M : Mm => M.1 0 17) e
        simpa only [wI_s] using this
      subst hv
      have hN : ∀ a, a ≠ 34 → (setN T q).1 a = T.1 a := fun a ha => setN_o ha
      refine ⟨a, _, _, h1, h2', f, g, s, z, F, N, C, n, fs, H, b, L, c, ones, t, h.fg (fun a ha h0 => ?_) ?_ ⟨?_, ?_, ?_⟩ (fun _ _ _ _ _ => rfl) (h.2.2.2.2.2.2.1.l17 (v := v) (fun k _ _ hk => ?_) ?_ (fun k _ h24 h26 => ?_) ?_ ?_ ?_ ?_)⟩
      · have : a ≠ 105 := fun e => ha (by unfold Scr; omega)
        have : a ≠ 34 := fun e => ha (by unfold Scr; omega)
        simp (disch := omega) only [wI_1, up2_row]
        exact hN a (by omega)
      · simp (disch := omega) only [wI_n]
        rw [hN 1 (by omega)]
      · simp (disch := omega) only [wI_n]
        rw [hN 105 (by omega)]
      · simp (disch := omega) only [wI_n]
        rw [hN 105 (by omega)]
      · simp (disch := omega) only [wI_n]
        rw [hN 105 (by omega)]
      · simp (disch := omega) only [wI_n]
        rw [hN 0 (by omega)]
      · simp (disch := omega) only [wI_n, wI_s]
      · have : k ≠ 0 := by omega
        simp (disch := omega) only [wI_n]
        rw [hN 105 (by omega)]
      · simp (disch := omega) only [wI_n, wI_s]
      · simp (disch := omega) only [wI_s]
      · simp (disch := omega) only [wI_1, up2_row]
        exact hN 78 (by omega)
      · simp (disch := omega) only [wI_1, up2_row]
        exact hN 118 (by omega)
    · have e : wI (setN T q) 0 17 v = T := (some2 h1 h1').2
      rw [e] at h2'
      exact ⟨-1, T, _, h1', h2', f, g, s, z, F, N, C, n, fs, H, b, L, c, ones, t, h.s0 (k := 0) (v := 0) (by unfold Ker; omega)⟩
  · exact ⟨-1, T, _, h1, h2, f, g, s, z, F, N, C, n, fs, H, b, L, c, ones, t, h.s0 (k := 0) (v := 0) (by unfold Ker; omega)⟩
/-- the text is taken: nothing is left of it -/
theorem IVp.nil {R : Rf} {T V : Mm} {f g s z : Nat} {F : Nat → Nat} {N : Nat → List Nat} {C : Nat → Int32} {n fs : Nat} {H : Nat → Nat → Int32} {b : Nat → Nat} {L : Nat} {c : Cod} {ones : Nat} {t : List Nat} (h : IVp R T f g s z F N C n fs H b L c ones t) (e1 : ∀ a, ¬ Scr g z a → a ≠ 0 → a ≠ 78 → a ≠ 118 → V.1 a = T.1 a) (e11 : V.1 1 1 = 0) (e5 : V.1 105 2 = 0 ∧ V.1 105 23 = T.1 105 23 ∧ V.1 105 35 = T.1 105 35) (e2 : ∀ a, a ≠ 6 → a ≠ g + 2 → a ≠ g + 3 → a ≠ 105 → V.2 a = T.2 a) (hG : jG V) : IVp R V f g s z F N C n fs H b 0 c ones t := by
  obtain ⟨hR, hA, hB, hC, hD, hE, _, hT, hI⟩ := h
  have hf := hR.2.2.2.2.2.1
  have hs := hR.2.2.2.2.2.2
  unfold Scr at e1
  refine ⟨hR, hA, hB.of (fun a ha => e1 a (by omega) (by omega) (by omega) (by omega)) (e2 _ (by omega) (by omega) (by omega) (by omega)) (e2 _ (by omega) (by omega) (by omega) (by omega)), hC.of (fun k _ => by rw [e1 107 (by omega) (by omega) (by omega) (by omega)]) e5.2.1 (e1 112 (by omega) (by omega) (by omega) (by omega)) (e2 110 (by omega) (by omega) (by omega) (by omega)), hD.nil e11 (e2 7 (by omega) (by omega) (by omega) (by omega)) e5.1 (e2 111 (by omega) (by omega) (by omega) (by omega)), hE.of (fun a h1 h2 => e1 a (by omega) (by omega) (by omega) (by omega)) (fun k _ => by rw [e1 107 (by omega) (by omega) (by omega) (by omega)]), hG, hT.of (e1 43 (by omega) (by omega) (by omega) (by omega)) (e1 44 (by omega) (by omega) (by omega) (by omega)) e5.2.2 (e1 117 (by omega) (by omega) (by omega) (by omega)), hI.of hR.rgI (fun a h1 h2 => e1 a (by omega) (by omega) (by omega) (by omega)) (fun a h1 h2 => e2 a (by omega) (by omega) (by omega) (by omega)) (e1 121 (by omega) (by omega) (by omega) (by omega)) (e2 122 (by omega) (by omega) (by omega) (by omega)) (e1 123 (by omega) (by omega) (by omega) (by omega))⟩
theorem jD.tb {T T' : Mm} {b : Nat → Nat} {L : Nat} (h : jD T b L) (e : T'.1 106 = T.1 106) : TB T T' b L := ⟨h.1.1, fun k hk => ⟨(h.1.2.2.1 k hk).1, (h.1.2.2.1 k hk).2, by rw [e]; exact (h.2.2.1 k hk).2⟩⟩
theorem kS_o {T : Mm} {x y : Int32} {a : Nat} (h : a ≠ 105) : (tkS T x y).1 a = T.1 a := by
  unfold tkS
  simp (disch := omega) only [wI_1, up2_row]
theorem kS_k {T : Mm} {x y : Int32} {k : Nat} (h0 : k ≠ 0) (h : ¬ (2 ≤ k ∧ k ≤ 5)) : (tkS T x y).1 105 k = T.1 105 k := by
  unfold tkS
  simp (disch := omega) only [wI_n]
theorem kS_l {T : Mm} {x y : Int32} : (tkS T x y).1 105 2 = 0 := by
  unfold tkS
  simp (disch := omega) only [wI_n, wI_s]
theorem q_who {R : Rf} {T : Mm} (h : IV R T) : ∃ a V V', pX11_who R T 0 = some (a, V) ∧ pX12_who R V 105 = some (a, V') ∧ IV R V' := by
  obtain ⟨f, g, s, z, F, N, C, n, fs, H, b, L, c, ones, t, h⟩ := h
  have hD := h.2.2.2.2.1
  have r := h.1
  obtain ⟨a, q, U, h1, _⟩ := k_who h.kv h.lv (r.c (by decide) (by decide)) (r.c (by decide) (by decide)) (r.c (by decide) (by decide)) (r.c (by decide) (by decide)) hD.1.2.1 hD.2.1 (hD.tb rfl)
  have eo : ∀ a, a ≠ 34 → a ≠ 1 → (setN (wI T 1 1 0) q).1 a = T.1 a := fun a h1 h2 => by rw [setN_o h1, wI_1, up2_row h2]
  obtain ⟨a', q', U', h1', h2', h3'⟩ := k_who (T' := setN (wI T 1 1 0) q) h.kv (h.lv.fr (eo 107 (by decide) (by decide))) (r.c (by decide) (by decide)) (r.c (by decide) (by decide)) (r.c (by decide) (by decide)) (r.c (by decide) (by decide)) hD.1.2.1 (by rw [eo 105 (by decide) (by decide)]; exact hD.2.1) (hD.tb (eo 106 (by decide) (by decide)))
  obtain ⟨rfl, _⟩ := some2 h1 h1'
  have w1 : ∀ a, a ≠ 114 → a ≠ 105 → a ≠ 34 → a ≠ 1 → U'.1 a = T.1 a := fun a e1 e2 e3 e4 => by rw [(h3' a e1).1, kS_o e2, eo a e3 e4]
  have w5 : ∀ k, k ≠ 0 → ¬ (2 ≤ k ∧ k ≤ 5) → U'.1 105 k = T.1 105 k := fun k e1 e2 => by rw [(h3' 105 (by decide)).1, kS_k e1 e2, eo 105 (by decide) (by decide)]
  refine ⟨a, _, U', h1, h2', f, g, s, z, F, N, C, n, fs, H, b, 0, c, ones, t, h.nil (fun a ha _ _ _ => w1 a (fun e => ha (by unfold Scr; omega)) (fun e => ha (by unfold Scr; omega)) (fun e => ha (by unfold Scr; omega)) (fun e => ha (by unfold Scr; omega))) ?_ ⟨?_, w5 23 (by decide) (by decide), w5 35 (by decide) (by decide)⟩ (fun a _ _ _ _ => by rw [(h3' 0 (by decide)).2]; rfl) (h.2.2.2.2.2.2.1.of (fun k _ _ => by rw [w1 0 (by decide) (by decide) (by decide) (by decide)]) (fun k hk => w5 k (by omega) (by omega)) (w1 78 (by decide) (by decide) (by decide) (by decide)) (w1 118 (by decide) (by decide) (by decide) (by decide)))⟩
  · rw [(h3' 1 (by decide)).1, kS_o (by decide), setN_o (by decide), wI_s]
  · rw [(h3' 105 (by decide)).1, kS_l]
