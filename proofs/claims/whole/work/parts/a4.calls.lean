/-! the calls, one by one, under what holds between two calls (written by gen_q.py) -/
theorem IVp.sN {R : Rf} {T : Mm} {f g s z : Nat} {F : Nat → Nat} {N : Nat → List Nat} {C : Nat → Int32} {n fs : Nat} {H : Nat → Nat → Int32} {b : Nat → Nat} {L : Nat} {c : Cod} {ones : Nat} {t : List Nat} {q : Nat → Int32} (h : IVp R T f g s z F N C n fs H b L c ones t) : IVp R (setN T q) f g s z F N C n fs H b L c ones t := h.fr (fun a ha => setN_o (fun e => ha (by unfold Scr; omega))) (by rw [setN_o (by decide)]) (fun k _ => by rw [setN_o (by decide)]) (fun _ _ _ _ _ => rfl)
theorem IVp.s0 {R : Rf} {T : Mm} {f g s z : Nat} {F : Nat → Nat} {N : Nat → List Nat} {C : Nat → Int32} {n fs : Nat} {H : Nat → Nat → Int32} {b : Nat → Nat} {L : Nat} {c : Cod} {ones : Nat} {t : List Nat} {k : Nat} {v : Int32} (h : IVp R T f g s z F N C n fs H b L c ones t) (hk : ¬ Ker k) : IVp R (wI T 105 k v) f g s z F N C n fs H b L c ones t := h.fr (fun a ha => by rw [wI_1, up2_row (fun e => ha (by unfold Scr; omega))]) (wI_n (Or.inl (by decide))) (fun j hj => wI_n (Or.inr (fun e => hk (e ▸ hj)))) (fun _ _ _ _ _ => rfl)
theorem some2 {α β : Type} {o : Option (α × β)} {a a' : α} {b b' : β} (h : o = some (a, b)) (h' : o = some (a', b')) : a = a' ∧ b = b' := by
  rw [h] at h'
  cases h'
  exact ⟨rfl, rfl⟩
theorem q_fate {R : Rf} {T : Mm} (h : IV R T) (x : Int32) : ∃ a V V', pX11_fate R T 0 x = some (a, V) ∧ pX12_fate R V 105 x = some (a, V') ∧ IV R V' := by
  obtain ⟨f, g, s, z, F, N, C, n, fs, H, b, L, c, ones, t, h⟩ := h
  obtain ⟨a, q, h1, _⟩ := k_fate h.kv h.lv x
  obtain ⟨a', q', h1', h2'⟩ := k_fate h.kv (h.sN (q := q)).lv x
  obtain ⟨rfl, _⟩ := some2 h1 h1'
  exact ⟨a, _, _, h1, h2', ⟨f, g, s, z, F, N, C, n, fs, H, b, L, c, ones, t, h.sN.s0 (by unfold Ker; omega)⟩⟩
theorem q_straw {R : Rf} {T : Mm} (h : IV R T) (x : Int32) : ∃ a V V', pX11_straw R T 0 x = some (a, V) ∧ pX12_straw R V 105 x = some (a, V') ∧ IV R V' := by
  obtain ⟨f, g, s, z, F, N, C, n, fs, H, b, L, c, ones, t, h⟩ := h
  obtain ⟨a, q, h1, _⟩ := k_straw h.kv h.lv x
  obtain ⟨a', q', h1', h2'⟩ := k_straw h.kv (h.sN (q := q)).lv x
  obtain ⟨rfl, _⟩ := some2 h1 h1'
  exact ⟨a, _, _, h1, h2', ⟨f, g, s, z, F, N, C, n, fs, H, b, L, c, ones, t, h.sN.s0 (by unfold Ker; omega)⟩⟩
theorem q_apart {R : Rf} {T : Mm} (h : IV R T) (x y : Int32) : ∃ a V V', pX11_apart R T 0 x y = some (a, V) ∧ pX12_apart R V 105 x y = some (a, V') ∧ IV R V' := by
  obtain ⟨f, g, s, z, F, N, C, n, fs, H, b, L, c, ones, t, h⟩ := h
  obtain ⟨a, q, h1, _⟩ := k_apart h.kv h.lv x y
  obtain ⟨a', q', h1', h2'⟩ := k_apart h.kv (h.sN (q := q)).lv x y
  obtain ⟨rfl, _⟩ := some2 h1 h1'
  exact ⟨a, _, _, h1, h2', ⟨f, g, s, z, F, N, C, n, fs, H, b, L, c, ones, t, h.sN.s0 (by unfold Ker; omega)⟩⟩
theorem q_item {R : Rf} {T : Mm} (h : IV R T) (x y : Int32) : ∃ a V V', pX11_item R T 0 x y = some (a, V) ∧ pX12_item R V 105 x y = some (a, V') ∧ IV R V' := by
  obtain ⟨f, g, s, z, F, N, C, n, fs, H, b, L, c, ones, t, h⟩ := h
  obtain ⟨a, q, h1, _⟩ := k_item h.kv h.lv x y
  obtain ⟨a', q', h1', h2'⟩ := k_item h.kv (h.sN (q := q)).lv x y
  obtain ⟨rfl, _⟩ := some2 h1 h1'
  exact ⟨a, _, _, h1, h2', ⟨f, g, s, z, F, N, C, n, fs, H, b, L, c, ones, t, h.sN.s0 (by unfold Ker; omega)⟩⟩
theorem q_crack {R : Rf} {T : Mm} (h : IV R T) (x : Int32) : ∃ a V', pX11_crack R T 0 x = some a ∧ pX12_crack R T 105 x = some (a, V') ∧ IV R V' := by
  obtain ⟨f, g, s, z, F, N, C, n, fs, H, b, L, c, ones, t, h⟩ := h
  obtain ⟨a, h1, h2⟩ := k_crack h.kv h.lv x
  exact ⟨a, _, h1, h2, ⟨f, g, s, z, F, N, C, n, fs, H, b, L, c, ones, t, h.s0 (by unfold Ker; omega)⟩⟩
theorem q_drops {R : Rf} {T : Mm} (h : IV R T) (x : Int32) : ∃ a V', pX11_drops R T 0 x = some a ∧ pX12_drops R T 105 x = some (a, V') ∧ IV R V' := by
  obtain ⟨f, g, s, z, F, N, C, n, fs, H, b, L, c, ones, t, h⟩ := h
  obtain ⟨a, h1, h2⟩ := k_drops h.kv h.lv x
  exact ⟨a, _, h1, h2, ⟨f, g, s, z, F, N, C, n, fs, H, b, L, c, ones, t, h.s0 (by unfold Ker; omega)⟩⟩
theorem q_join {R : Rf} {T : Mm} (h : IV R T) (x y : Int32) : ∃ a V', pX11_join R T 0 x y = some a ∧ pX12_join R T 105 x y = some (a, V') ∧ IV R V' := by
  obtain ⟨f, g, s, z, F, N, C, n, fs, H, b, L, c, ones, t, h⟩ := h
  obtain ⟨a, h1, h2⟩ := k_join h.kv h.lv x y
  exact ⟨a, _, h1, h2, ⟨f, g, s, z, F, N, C, n, fs, H, b, L, c, ones, t, h.s0 (by unfold Ker; omega)⟩⟩
theorem q_now {R : Rf} {T : Mm} (h : IV R T) (x : Int32) : ∃ a V', pX11_now R T 0 x = some a ∧ pX12_now R T 105 x = some (a, V') ∧ IV R V' := by
  obtain ⟨f, g, s, z, F, N, C, n, fs, H, b, L, c, ones, t, h⟩ := h
  obtain ⟨a, h1, h2⟩ := k_now h.kv h.lv x
  exact ⟨a, _, h1, h2, ⟨f, g, s, z, F, N, C, n, fs, H, b, L, c, ones, t, h.s0 (by unfold Ker; omega)⟩⟩
theorem q_heaviest {R : Rf} {T : Mm} (h : IV R T) : ∃ a V', pX11_heaviest R T 0 = some a ∧ pX12_heaviest R T 105 = some (a, V') ∧ IV R V' := by
  obtain ⟨f, g, s, z, F, N, C, n, fs, H, b, L, c, ones, t, h⟩ := h
  exact ⟨_, _, c_heaviest h.kv, m_heaviest h.lv, ⟨f, g, s, z, F, N, C, n, fs, H, b, L, c, ones, t, h.s0 (by unfold Ker; omega)⟩⟩
theorem q_byteAt {R : Rf} {T : Mm} (h : IV R T) (x : Int32) : ∃ a V', pX11_byteAt R T 0 x = some a ∧ pX12_byteAt R T 105 x = some (a, V') ∧ IV R V' := by
  obtain ⟨f, g, s, z, F, N, C, n, fs, H, b, L, c, ones, t, h⟩ := h
  have hT := h.2.2.2.2.2.2.2.1
  obtain ⟨a, h1, h2⟩ := k_byteAt (h.1.c (by decide) (by decide)) (h.1.c (by decide) (by decide)) (h.1.c (by decide) (by decide)) hT.2.2 hT.1 hT.2.1 x
  exact ⟨a, _, h1, h2, ⟨f, g, s, z, F, N, C, n, fs, H, b, L, c, ones, t, h.s0 (by unfold Ker; omega)⟩⟩
theorem IVp.lq1 {R : Rf} {T : Mm} {f g s z : Nat} {F : Nat → Nat} {N : Nat → List Nat} {C : Nat → Int32} {n fs : Nat} {H : Nat → Nat → Int32} {b : Nat → Nat} {L : Nat} {c : Cod} {ones : Nat} {t : List Nat} {T1 : Mm} (h : IVp R T f g s z F N C n fs H b L c ones t) (e : Fr SA T T1) : LQ R T1 F C n H := by
  obtain ⟨l1, l2, l3, l4, l5, l6⟩ := h.lq
  exact ⟨l1.fr (e 107 (by unfold SA; omega)).1, l2.of (by rw [(e 105 (by unfold SA; omega)).1]) (e 112 (by unfold SA; omega)).1, l3, l4, l5, l6⟩
theorem IVp.act {R : Rf} {T : Mm} {f g s z : Nat} {F : Nat → Nat} {N : Nat → List Nat} {C : Nat → Int32} {n fs : Nat} {H : Nat → Nat → Int32} {b : Nat → Nat} {L : Nat} {c : Cod} {ones : Nat} {t : List Nat} {T1 V : Mm} {C' : Nat → Int32} {n' : Nat} {H' : Nat → Nat → Int32} (h : IVp R T f g s z F N C n fs H b L c ones t) (o : OUT F T T1 T1 V C' n' H') : IV R V := by
  obtain ⟨⟨fs', o1, o2, o3⟩, o4, o5, ⟨a1, a2, a3, a4⟩, o7, o8, o9⟩ := o
  obtain ⟨hR, hA, hB, hC, hD, hE, hG, hT, hI⟩ := h
  have hf := hR.2.2.2.2.2.1
  have hs := hR.2.2.2.2.2.2
  have w2 : V.2 = T.2 := a4.trans (o3 0 (by unfold SA; omega)).2
  have w1 : ∀ a, ¬ SA a → a ≠ 105 → a ≠ 107 → a ≠ 112 → a ≠ 113 → V.1 a = T.1 a := fun a h1 h2 h3 h4 h5 => (a1 a h2 h3 h4 h5).trans (o3 a h1).1
  have w5 : ∀ k, k ≠ 0 → k ≠ 23 → k ≠ 36 → V.1 105 k = T.1 105 k := fun k h1 h2 h3 => by rw [a2 k h1 h2 h3, (o3 105 (by unfold SA; omega)).1]
  have w7 : ∀ k, (k < 80 ∨ 89 ≤ k) → V.1 107 k = T.1 107 k := fun k hk => by rw [a3 k hk, (o3 107 (by unfold SA; omega)).1]
  unfold SA at w1
  refine ⟨f, g, s, z, F, N, C', n', fs', H', b, L, c, ones, t, hR, ⟨hA.1, o7, o8, o9, hA.2.2.2.2⟩, ⟨hB.1.at (fun a h1 h2 => w1 a (by omega) (by omega) (by omega) (by omega) (by omega)) (fun p _ => by rw [w2]) (fun p _ => by rw [w2]), o1.of (a1 8 (by omega) (by omega) (by omega) (by omega)) (a1 9 (by omega) (by omega) (by omega) (by omega)), o2.of (fun a ha => a1 a (by omega) (by omega) (by omega) (by omega))⟩, ⟨fun k hk => (w7 k (Or.inl hk)).trans (hC.1 k hk), o4, o5, hC.2.2.2.of (by rw [w2])⟩, hD.of (by rw [w1 1 (by omega) (by omega) (by omega) (by omega) (by omega)]) (w1 2 (by omega) (by omega) (by omega) (by omega) (by omega)) (by rw [w2]) (w5 2 (by omega) (by omega) (by omega)) (w1 106 (by omega) (by omega) (by omega) (by omega) (by omega)) (by rw [w2]), hE.of (fun a h1 h2 => w1 a (by omega) (by omega) (by omega) (by omega) (by omega)) (fun k hk => w7 k (Or.inr hk)), hG.of (fun k _ _ => by rw [w1 0 (by omega) (by omega) (by omega) (by omega) (by omega)]) (fun k hk => w5 k (by omega) (by omega) (by omega)) (w1 78 (by omega) (by omega) (by omega) (by omega) (by omega)) (w1 118 (by omega) (by omega) (by omega) (by omega) (by omega)), hT.of (w1 43 (by omega) (by omega) (by omega) (by omega) (by omega)) (w1 44 (by omega) (by omega) (by omega) (by omega) (by omega)) (w5 35 (by omega) (by omega) (by omega)) (w1 117 (by omega) (by omega) (by omega) (by omega) (by omega)), hI.of hR.rgI (fun a h1 h2 => w1 a (by omega) (by omega) (by omega) (by omega) (by omega)) (fun a _ _ => by rw [w2]) (w1 121 (by omega) (by omega) (by omega) (by omega) (by omega)) (by rw [w2]) (w1 123 (by omega) (by omega) (by omega) (by omega) (by omega))⟩
theorem q_go {R : Rf} {T : Mm} (h : IV R T) (x : Int32) : ∃ a V V', pX11_go R T 0 x = some (a, V) ∧ pX12_go R V 105 x = some (a, V') ∧ IV R V' := by
  obtain ⟨f, g, s, z, F, N, C, n, fs, H, b, L, c, ones, t, h⟩ := h
  obtain ⟨a, T1, V, C', n', H', h1, h2, h3⟩ := k_go h.kq h.lq x
  obtain ⟨a2, T2, V2, C2, n2, H2, g1, g2, g3⟩ := k_go h.kq (h.lq1 h3.1.choose_spec.2.2) x
  obtain ⟨rfl, rfl⟩ := some2 h1 g1
  exact ⟨a, _, _, h1, g2, h.act g3⟩
theorem q_free {R : Rf} {T : Mm} (h : IV R T) (x : Int32) : ∃ a V V', pX11_free R T 0 x = some (a, V) ∧ pX12_free R V 105 x = some (a, V') ∧ IV R V' := by
  obtain ⟨f, g, s, z, F, N, C, n, fs, H, b, L, c, ones, t, h⟩ := h
  obtain ⟨a, T1, V, C', n', H', h1, h2, h3⟩ := k_free h.kq h.lq x
  obtain ⟨a2, T2, V2, C2, n2, H2, g1, g2, g3⟩ := k_free h.kq (h.lq1 h3.1.choose_spec.2.2) x
  obtain ⟨rfl, rfl⟩ := some2 h1 g1
  exact ⟨a, _, _, h1, g2, h.act g3⟩
theorem q_unload {R : Rf} {T : Mm} (h : IV R T) (x : Int32) : ∃ a V V', pX11_unload R T 0 x = some (a, V) ∧ pX12_unload R V 105 x = some (a, V') ∧ IV R V' := by
  obtain ⟨f, g, s, z, F, N, C, n, fs, H, b, L, c, ones, t, h⟩ := h
  obtain ⟨a, T1, V, C', n', H', h1, h2, h3⟩ := k_unload h.kq h.lq x
  obtain ⟨a2, T2, V2, C2, n2, H2, g1, g2, g3⟩ := k_unload h.kq (h.lq1 h3.1.choose_spec.2.2) x
  obtain ⟨rfl, rfl⟩ := some2 h1 g1
  exact ⟨a, _, _, h1, g2, h.act g3⟩
theorem q_load {R : Rf} {T : Mm} (h : IV R T) (x : Int32) : ∃ a V V', pX11_load R T 0 x = some (a, V) ∧ pX12_load R V 105 x = some (a, V') ∧ IV R V' := by
  obtain ⟨f, g, s, z, F, N, C, n, fs, H, b, L, c, ones, t, h⟩ := h
  obtain ⟨a, T1, V, C', n', H', h1, h2, h3⟩ := k_load h.kq h.lq x
  obtain ⟨a2, T2, V2, C2, n2, H2, g1, g2, g3⟩ := k_load h.kq (h.lq1 h3.1.choose_spec.2.2) x
  obtain ⟨rfl, rfl⟩ := some2 h1 g1
  exact ⟨a, _, _, h1, g2, h.act g3⟩
theorem q_bind {R : Rf} {T : Mm} (h : IV R T) (x : Int32) : ∃ a V V', pX11_bind R T 0 x = some (a, V) ∧ pX12_bind R V 105 x = some (a, V') ∧ IV R V' := by
  obtain ⟨f, g, s, z, F, N, C, n, fs, H, b, L, c, ones, t, h⟩ := h
  obtain ⟨a, T1, V, C', n', H', h1, h2, h3⟩ := k_bind h.kq h.lq x
  obtain ⟨a2, T2, V2, C2, n2, H2, g1, g2, g3⟩ := k_bind h.kq (h.lq1 h3.1.choose_spec.2.2) x
  obtain ⟨rfl, rfl⟩ := some2 h1 g1
  exact ⟨a, _, _, h1, g2, h.act g3⟩
theorem q_undo {R : Rf} {T : Mm} (h : IV R T)  : ∃ a V V', pX11_undo R T 0 = some (a, V) ∧ pX12_undo R V 105 = some (a, V') ∧ IV R V' := by
  obtain ⟨f, g, s, z, F, N, C, n, fs, H, b, L, c, ones, t, h⟩ := h
  obtain ⟨a, T1, V, C', n', H', h1, h2, h3⟩ := k_undo h.kq h.lq
  obtain ⟨a2, T2, V2, C2, n2, H2, g1, g2, g3⟩ := k_undo h.kq (h.lq1 h3.1.choose_spec.2.2)
  obtain ⟨rfl, rfl⟩ := some2 h1 g1
  exact ⟨a, _, _, h1, g2, h.act g3⟩
theorem q_days {R : Rf} {T : Mm} (h : IV R T) (x : Int32) : ∃ a V V', pX11_days R T 0 x = some (a, V) ∧ pX12_days R V 105 x = some (a, V') ∧ IV R V' := by
  obtain ⟨f, g, s, z, F, N, C, n, fs, H, b, L, c, ones, t, h⟩ := h
  obtain ⟨a, T1, V, C', n', H', h1, h2, h3⟩ := k_days h.kq h.lq x
  obtain ⟨a2, T2, V2, C2, n2, H2, g1, g2, g3⟩ := k_days h.kq (h.lq1 h3.1.choose_spec.2.2) x
  obtain ⟨rfl, rfl⟩ := some2 h1 g1
  exact ⟨a, _, _, h1, g2, h.act g3⟩
theorem q_drawn {R : Rf} {T : Mm} (h : IV R T) (x y : Int32) : ∃ a V V', pX11_drawn R T 0 x y = some (a, V) ∧ pX12_drawn R V 105 x y = some (a, V') ∧ IV R V' := by
  obtain ⟨f, g, s, z, F, N, C, n, fs, H, b, L, c, ones, t, h⟩ := h
  obtain ⟨a, T1, V, C', n', H', h1, h2, h3⟩ := k_drawn h.kq h.lq x y
  obtain ⟨a2, T2, V2, C2, n2, H2, g1, g2, g3⟩ := k_drawn h.kq (h.lq1 h3.1.choose_spec.2.2) x y
  obtain ⟨rfl, rfl⟩ := some2 h1 g1
  exact ⟨a, _, _, h1, g2, h.act g3⟩
theorem q_odds {R : Rf} {T : Mm} (h : IV R T) (x y w : Int32) : ∃ a V V', pX11_odds R T 0 x y w = some (a, V) ∧ pX12_odds R V 105 x y w = some (a, V') ∧ IV R V' := by
  obtain ⟨f, g, s, z, F, N, C, n, fs, H, b, L, c, ones, t, h⟩ := h
  obtain ⟨a, T1, V, h1, h2, h3⟩ := k_odds h.kq h.lq x y w
  obtain ⟨a2, T2, V2, g1, g2, g3⟩ := k_odds h.kq (h.lq1 h3.1.choose_spec.2.2) x y w
  obtain ⟨rfl, rfl⟩ := some2 h1 g1
  exact ⟨a, _, _, h1, g2, h.act g3⟩
theorem q_fault {R : Rf} {T : Mm} (h : IV R T) : ∃ a V', pX11_fault R T 0 = some a ∧ pX12_fault R T 105 = some (a, V') ∧ IV R V' := by
  obtain ⟨f, g, s, z, F, N, C, n, fs, H, b, L, c, ones, t, h⟩ := h
  refine ⟨_, _, rfl, ?_, ⟨f, g, s, z, F, N, C, n, fs, H, b, L, c, ones, t, h.s0 (k := 0) (v := 0) (by unfold Ker; omega)⟩⟩
  unfold pX12_fault
  simp only [lt]
  rw [wI_n (Or.inr (by decide)), ← h.2.2.2.2.2.2.1.1]
theorem q_lightened {R : Rf} {T : Mm} (h : IV R T) : ∃ a V', pX11_lightened R T 0 = some a ∧ pX12_lightened R T 105 = some (a, V') ∧ IV R V' := by
  obtain ⟨f, g, s, z, F, N, C, n, fs, H, b, L, c, ones, t, h⟩ := h
  refine ⟨_, _, rfl, ?_, ⟨f, g, s, z, F, N, C, n, fs, H, b, L, c, ones, t, h.s0 (k := 0) (v := 0) (by unfold Ker; omega)⟩⟩
  unfold pX12_lightened
  simp only [lt]
  rw [wI_n (Or.inr (by decide)), wI_n (Or.inr (by decide)), h.2.2.2.2.2.2.1.2.1]
  by_cases e : T.1 105 26 = 0
  · rw [if_pos e, if_pos e]
  · rw [if_neg e, if_neg e]
theorem q_keeps {R : Rf} {T : Mm} (h : IV R T) : ∃ a V', pX11_keeps R T 0 = some a ∧ pX12_keeps R T 105 = some (a, V') ∧ IV R V' := by
  obtain ⟨f, g, s, z, F, N, C, n, fs, H, b, L, c, ones, t, h⟩ := h
  refine ⟨_, _, rfl, ?_, ⟨f, g, s, z, F, N, C, n, fs, H, b, L, c, ones, t, h.s0 (k := 0) (v := 0) (by unfold Ker; omega)⟩⟩
  unfold pX12_keeps
  simp only [lt]
  rw [wI_n (Or.inr (by decide)), wI_n (Or.inr (by decide)), h.2.2.2.2.2.2.1.2.2.1]
  by_cases e : T.1 105 27 = 0
  · rw [if_pos e, if_pos e]
  · rw [if_neg e, if_neg e]
theorem q_lowest {R : Rf} {T : Mm} (h : IV R T) : ∃ a V', pX11_lowest R T 0 = some a ∧ pX12_lowest R T 105 = some (a, V') ∧ IV R V' := by
  obtain ⟨f, g, s, z, F, N, C, n, fs, H, b, L, c, ones, t, h⟩ := h
  refine ⟨_, _, rfl, ?_, ⟨f, g, s, z, F, N, C, n, fs, H, b, L, c, ones, t, h.s0 (k := 0) (v := 0) (by unfold Ker; omega)⟩⟩
  unfold pX12_lowest
  simp only [lt]
  rw [wI_n (Or.inr (by decide)), wI_n (Or.inr (by decide)), h.2.2.2.2.2.2.1.2.2.2.1]
  by_cases e : T.1 105 31 = 0
  · rw [if_pos e, if_pos e]
  · rw [if_neg e, if_neg e]
theorem q_watch {R : Rf} {T : Mm} (h : IV R T) : ∃ a V', pX11_watch R T 0 = some a ∧ pX12_watch R T 105 = some (a, V') ∧ IV R V' := by
  obtain ⟨f, g, s, z, F, N, C, n, fs, H, b, L, c, ones, t, h⟩ := h
  refine ⟨_, _, rfl, ?_, ⟨f, g, s, z, F, N, C, n, fs, H, b, L, c, ones, t, h.s0 (k := 0) (v := 0) (by unfold Ker; omega)⟩⟩
  unfold pX12_watch
  simp only [lt]
  rw [wI_n (Or.inr (by decide)), wI_n (Or.inr (by decide)), h.2.2.2.2.2.2.1.2.2.2.2.1]
  by_cases e : T.1 105 31 = 0
  · rw [if_pos e, if_pos e]
  · rw [if_neg e, if_neg e]
theorem q_told {R : Rf} {T : Mm} (h : IV R T) (x : Int32) : ∃ a V', pX11_told R T 0 x = some a ∧ pX12_told R T 105 x = some (a, V') ∧ IV R V' := by
  obtain ⟨f, g, s, z, F, N, C, n, fs, H, b, L, c, ones, t, h⟩ := h
  have hi : IV R (wI T 105 0 0) := ⟨f, g, s, z, F, N, C, n, fs, H, b, L, c, ones, t, h.s0 (k := 0) (v := 0) (by unfold Ker; omega)⟩
  have hj := h.2.2.2.2.2.2.1.2.2.2.2.2
  unfold pX11_told pX12_told
  simp only [lt]
  rw [m_isInG, bd1_some, ifI, wI_n (Or.inr (by decide)), show R 0 10 = 78 from h.1.c (by decide) (by decide), show R 105 38 = 118 from h.1.c (by decide) (by decide)]
  by_cases e0 : x < 0
  · rw [if_pos e0, if_neg (show ¬ ((0 : Int32) ≤ x ∧ x ≤ 3) from fun z => Int32.not_lt.mpr z.1 e0)]
    refine ⟨_, _, rfl, ?_, hi⟩
    split <;> rfl
  obtain ⟨j, hj1, rfl⟩ := nI_all e0
  rw [if_neg e0]
  by_cases e4 : 4 ≤ j
  · rw [if_pos (show (4 : Int32) ≤ nI j from (nI_leI (a := 4) (by omega) hj1).mpr e4), if_neg (show ¬ ((0 : Int32) ≤ nI j ∧ nI j ≤ 3) from fun z => by have := (nI_leI (b := 3) hj1 (by omega)).mp z.2; omega)]
    refine ⟨_, _, rfl, ?_, hi⟩
    split <;> rfl
  · rw [if_neg (show ¬ (4 : Int32) ≤ nI j from fun z => e4 ((nI_leI (a := 4) (by omega) hj1).mp z)), if_pos (show (0 : Int32) ≤ nI j ∧ nI j ≤ 3 from ⟨(nI_leI (a := 0) (by omega) hj1).mpr (by omega), (nI_leI (b := 3) hj1 (by omega)).mpr (by omega)⟩), ix_nI (by omega) (by decide), ix_nI (by omega) (by decide), nI_clamp hj1, hj j (by omega)]
    refine ⟨_, _, rfl, ?_, hi⟩
    by_cases e : T.1 105 39 = 0
    · rw [if_pos e, if_pos e]
    · rw [if_neg e, if_neg e, wI_n (Or.inl (by decide))]
