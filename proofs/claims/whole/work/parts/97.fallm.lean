/-! the reference reads FALLS -/
theorem wI_row {T : Mm} {a k : Nat} {v : Int32} : (wI T a k v).1 a = uT (T.1 a) k v := by
  funext j
  by_cases e : j = k
  · subst e; rw [wI_s, uT_s]
  · rw [wI_n (Or.inr e), uT_n e]
theorem wJ_row {T : Mm} {a k : Nat} {v : Int64} : (wJ T a k v).2 a = uT (T.2 a) k v := by
  funext j
  by_cases e : j = k
  · subst e; rw [wJ_s, uT_s]
  · rw [wJ_n (Or.inr e), uT_n e]
theorem uT_nI {H : Nat → Int32} {F : Nat → Nat} (h : ∀ k, k < 80 → H k = nI (F k)) (x v : Nat) : ∀ k, k < 80 → uT H x (nI v) k = nI (uT F x v k) := by
  intro k hk
  by_cases e : k = x
  · subst e; rw [uT_s, uT_s]
  · rw [uT_n e, uT_n e, h k hk]
theorem FX.f15 {T V : Mm} (h : FX T V) : V.1 105 15 = T.1 105 15 := h.2.1 15 (by decide) (by decide) (by decide) (by decide) (by decide)
def FQ (T V : Mm) : Prop := (∀ a, a ≠ 105 → a ≠ 108 → V.1 a = T.1 a) ∧ (∀ a, a ≠ 105 → a ≠ 110 → V.2 a = T.2 a) ∧ (∀ k, k ≠ 4 → ¬ (11 ≤ k ∧ k ≤ 16) → k ≠ 18 → k ≠ 20 → V.1 105 k = T.1 105 k) ∧ (∀ k, k ≠ 17 → V.2 105 k = T.2 105 k) ∧ ∀ k, k < 15 → V.2 110 k = T.2 110 k
theorem FQ.refl {T : Mm} : FQ T T := ⟨fun _ _ _ => rfl, fun _ _ _ => rfl, fun _ _ _ _ _ => rfl, fun _ _ => rfl, fun _ _ => rfl⟩
theorem FQ.trans {T U V : Mm} (h : FQ T U) (h' : FQ U V) : FQ T V := ⟨fun a h1 h2 => (h'.1 a h1 h2).trans (h.1 a h1 h2), fun a h1 h2 => (h'.2.1 a h1 h2).trans (h.2.1 a h1 h2), fun k h1 h2 h3 h4 => (h'.2.2.1 k h1 h2 h3 h4).trans (h.2.2.1 k h1 h2 h3 h4), fun k hk => (h'.2.2.2.1 k hk).trans (h.2.2.2.1 k hk), fun k hk => (h'.2.2.2.2 k hk).trans (h.2.2.2.2 k hk)⟩
theorem FQ.x {T U V : Mm} (h : FQ T U) (f : FX U V) : FQ T V := h.trans ⟨fun a h1 _ => (f.1 a h1).1, fun a h1 _ => (f.1 a h1).2, fun k h1 h2 h3 h4 => f.2.1 k h1 (by omega) (by omega) (by omega) (by omega), f.2.2, fun k _ => by rw [(f.1 110 (by decide)).2]⟩
theorem FQ.w {T U : Mm} {k : Nat} {v : Int32} (h : FQ T U) (hk : k = 15 ∨ k = 16 ∨ k = 18 ∨ k = 20) : FQ T (wI U 105 k v) := h.trans ⟨fun a h1 _ => by rw [wI_1, up2_row h1], fun _ _ _ => rfl, fun j h1 h2 h3 h4 => wI_n (Or.inr (by omega)), fun _ _ => rfl, fun _ _ => rfl⟩
theorem FQ.h8 {T U : Mm} {k : Nat} {v : Int32} (h : FQ T U) : FQ T (wI U 108 k v) := h.trans ⟨fun a _ h2 => by rw [wI_1, up2_row h2], fun _ _ _ => rfl, fun j _ _ _ _ => wI_n (Or.inl (by decide)), fun _ _ => rfl, fun _ _ => rfl⟩
theorem FQ.n {T U : Mm} {k : Nat} {v : Int64} (h : FQ T U) (hk : 15 ≤ k) : FQ T (wJ U 110 k v) := h.trans ⟨fun _ _ _ => rfl, fun a _ h2 => by rw [wJ_2, up2_row h2], fun _ _ _ _ _ => rfl, fun j _ => wJ_n (Or.inl (by decide)), fun j hj => wJ_n (Or.inr (by omega))⟩
theorem FQ.fl {T U : Mm} {k p : Nat} (h : FQ T U) : FQ T (flm U k p) := (h.w (by omega)).w (by omega)
theorem flm_15 {T : Mm} {k p : Nat} : (flm T k p).1 105 15 = nI k := (wI_n (Or.inr (by decide))).trans wI_s
theorem flm_16 {T : Mm} {k p : Nat} : (flm T k p).1 105 16 = nI p := wI_s
def MG (T : Mm) (F : Nat → Nat) (N : Nat → List Nat) : Prop := (∀ k, k < 80 → T.1 108 k = nI (F k)) ∧ bt (T.1 105 20) 0 = decide (F 80 ≠ 0) ∧ bt (T.1 105 20) 1 = decide (F 5 ≠ 0) ∧ (∀ p, p < F 0 → T.2 110 (15 + p) = w8 (N p)) ∧ ∀ i, i < F 1 → T.2 110 (20 + i) = w8 (N (5 + i))
theorem MG.of {T V : Mm} {F : Nat → Nat} {N : Nat → List Nat} (h : MG T F N) (e1 : V.1 108 = T.1 108) (e2 : V.1 105 20 = T.1 105 20) (e3 : ∀ p, p < F 0 → V.2 110 (15 + p) = T.2 110 (15 + p)) (e4 : ∀ i, i < F 1 → V.2 110 (20 + i) = T.2 110 (20 + i)) : MG V F N := ⟨fun k hk => by rw [e1]; exact h.1 k hk, by rw [e2]; exact h.2.1, by rw [e2]; exact h.2.2.1, fun p hp => (e3 p hp).trans (h.2.2.2.1 p hp), fun p hp => (e4 p hp).trans (h.2.2.2.2 p hp)⟩
theorem MG.fx {T V : Mm} {F : Nat → Nat} {N : Nat → List Nat} (h : MG T F N) (f : FX T V) : MG V F N := h.of (f.1 108 (by decide)).1 (f.2.1 20 (by decide) (by decide) (by decide) (by decide) (by decide)) (fun p _ => by rw [(f.1 110 (by decide)).2]) (fun p _ => by rw [(f.1 110 (by decide)).2])
theorem CuM.w5 {T : Mm} {b : Nat → Nat} {L M t k : Nat} {v : Int32} (h : CuM T b L M t) (hk : k = 15 ∨ k = 16 ∨ k = 18 ∨ k = 19 ∨ k = 20) : CuM (wI T 105 k v) b L M t := h.of (by rw [wI_1, up2_row (by decide)]) rfl (fun j hj => wI_n (Or.inr (by omega))) rfl
theorem CuM.wa {T : Mm} {b : Nat → Nat} {L M t a k : Nat} {v : Int32} (h : CuM T b L M t) (ha : a ≠ 105) (ha' : a ≠ 106) : CuM (wI T a k v) b L M t := h.of (by rw [wI_1, up2_row (fun z => ha' z.symm)]) rfl (fun j hj => wI_n (Or.inl (fun z => ha z.symm))) rfl
theorem CuM.wj {T : Mm} {b : Nat → Nat} {L M t k : Nat} {v : Int64} (h : CuM T b L M t) : CuM (wJ T 110 k v) b L M t := h.of rfl (by rw [wJ_2, up2_row (by decide)]) (fun j hj => rfl) (wJ_n (Or.inl (by decide)))
theorem m_bad1 {R : Rf} {T : Mm} {b : Nat → Nat} {L M t : Nat} (h : CuM T b L M t) : pX12_bad R T 105 1 = some (0, flm T 1 (psS b L M t)) := m_bad h 1
theorem m_bad3 {R : Rf} {T : Mm} {b : Nat → Nat} {L M t : Nat} (h : CuM T b L M t) : pX12_bad R T 105 3 = some (0, flm T 3 (psS b L M t)) := m_bad h 3
theorem m_bad4 {R : Rf} {T : Mm} {b : Nat → Nat} {L M t : Nat} (h : CuM T b L M t) : pX12_bad R T 105 4 = some (0, flm T 4 (psS b L M t)) := m_bad h 4
theorem m_numL {R : Rf} {T : Mm} {b : Nat → Nat} {L M t lo hi : Nat} {x y : Int32} (r1 : R 105 1 = 106) (h : CuM T b L M t) (ex : x = nI lo) (ey : y = nI hi) (hlo : lo ≤ 999) (hhi : hi ≤ 999) : (∃ v V, nuP b L M t lo hi = paO v ∧ pX12_takes R T 105 x y = some (1, V) ∧ FX (wI T 105 18 (nI v)) V ∧ CuM V b L M (t + 1) ∧ lo ≤ v ∧ v ≤ hi) ∨ ∃ k p, nuP b L M t lo hi = paB k p ∧ pX12_takes R T 105 x y = some (0, flm T k p) := by
  subst ex
  subst ey
  obtain ⟨h1, h2, h3⟩ := m_takes (R := R) r1 h hlo hhi
  unfold nuP
  by_cases e : kkS b L M t = 2
  · rw [if_pos e]
    by_cases e2 : lo ≤ vvS b L t ∧ vvS b L t ≤ hi
    · rw [if_pos e2]
      obtain ⟨V, v1, v2, v3⟩ := h1 ⟨e, e2⟩
      exact Or.inl ⟨_, V, rfl, v1, v2, v3, e2⟩
    · rw [if_neg e2]
      exact Or.inr ⟨_, _, rfl, h2 ⟨e, e2⟩⟩
  · rw [if_neg e]
    exact Or.inr ⟨_, _, rfl, h3 e⟩
/-- a number is put into place x of what is read -/
theorem m_puts {R : Rf} {T : Mm} {b : Nat → Nat} {L M t lo hi x : Nat} {y z w : Int32} (hr : RM R) (h : CuM T b L M t) (ew : w = nI x) (hx : x < 80) (ey : y = nI lo) (ez : z = nI hi) (hlo : lo ≤ 999) (hhi : hi ≤ 999) : (∃ v V, nuP b L M t lo hi = paO v ∧ pX12_puts R T 105 w y z = some (1, V) ∧ FQ T V ∧ CuM V b L M (t + 1) ∧ V.1 108 = uT (T.1 108) x (nI v) ∧ V.2 110 = T.2 110 ∧ V.1 105 20 = T.1 105 20 ∧ V.1 105 15 = T.1 105 15 ∧ lo ≤ v ∧ v ≤ hi) ∨ ∃ k p, nuP b L M t lo hi = paB k p ∧ pX12_puts R T 105 w y z = some (0, flm T k p) := by
  obtain ⟨r1, r6, r7, r8, r9, r10, r21, r22, r28, r32, r33, r34, r38, r40, r46, r47, r48, r49⟩ := hr
  subst ew
  unfold pX12_puts
  obtain ⟨v, V, n1, n2, n3, n4, n5, n6⟩ | ⟨k, p, n1, n2⟩ := m_numL (R := R) r1 h ey ez hlo hhi
  · rw [n1, n2, bd2_some, if10, ix_nI hx (by decide), nI_clamp (by omega), r7]
    simp only [lt]
    have e18 : V.1 105 18 = nI v := (n3.2.1 18 (by decide) (by decide) (by decide) (by decide) (by decide)).trans wI_s
    rw [e18]
    refine Or.inl ⟨v, _, rfl, rfl, ((FQ.refl.w (by omega)).x n3).h8, n4.wa (by decide) (by decide), ?_, ?_, ?_, ?_, n5, n6⟩
    · rw [wI_row, (n3.1 108 (by decide)).1, wI_1, up2_row (by decide)]
    · show V.2 110 = _
      rw [(n3.1 110 (by decide)).2]
      rfl
    · rw [wI_n (Or.inl (by decide)), n3.2.1 20 (by decide) (by decide) (by decide) (by decide) (by decide), wI_n (Or.inr (by decide))]
    · rw [wI_n (Or.inl (by decide)), n3.f15, wI_n (Or.inr (by decide))]
  · rw [n1, n2, bd2_some, if_pos rfl]
    exact Or.inr ⟨k, p, rfl, rfl⟩
theorem m_seekG {R : Rf} {T : Mm} {base cnt : Nat} {N : Nat → List Nat} {w : List Nat} (r9 : R 105 9 = 110) (hb : base + cnt ≤ 30) (hN : ∀ i, i < cnt → IW (N i)) (hT : ∀ i, i < cnt → T.2 110 (base + i) = w8 (N i)) (hw : IW w) (h17 : T.2 105 17 = w8 w) : pX12_seek R T 105 (nI base) (nI cnt) = some (oI (fst (fun i => decide (N i = w)) 0 cnt)) := by
  unfold pX12_seek
  rw [show (0 : Int32) = nI 0 from rfl, zl1_seek (fun p => decide (N p = w)) (fun p => some (nI p)) (some (-1)) (n := cnt) 0 (by omega) (by omega) ?_ ?_]
  · show (fst _ 0 cnt).elim _ _ = _
    cases fst (fun i => decide (N i = w)) 0 cnt <;> rfl
  · intro r i _ hi
    unfold pX12_seek_2 pX12_seek_23
    rw [if_neg (nI_ge hi (by omega)), nI_add, ix_nI (by omega) (by decide), nI_clamp (by omega), r9, hT i hi, h17]
    simp only [lt, nI_1]
    by_cases e : N i = w
    · rw [if_pos (cmp_eq.mpr (by rw [e])), if_pos (decide_eq_true e)]
    · rw [if_neg (fun z => e ((w8_inj (hN i hi) hw).mp (cmp_eq.mp z))), if_neg (by simp [e])]
  · intro r
    unfold pX12_seek_2 pX12_seek_31
    rw [if_pos (nI_le (by omega) (by omega))]
theorem m_look {R : Rf} {T : Mm} {b : Nat → Nat} {L M t base cnt : Nat} {x y : Int32} {N : Nat → List Nat} (hr : RM R) (h : CuM T b L M t) (ex : x = nI base) (ey : y = nI cnt) (hb : base + cnt ≤ 30) (hN : ∀ i, i < cnt → IW (N i)) (hT : ∀ i, i < cnt → T.2 110 (base + i) = w8 (N i)) : (∃ v, naP b L M t (fst (fun i => decide (N i = wwS b L t)) 0 cnt) = paO v ∧ fst (fun i => decide (N i = wwS b L t)) 0 cnt = some v ∧ kkS b L M t = 3 ∧ pX12_looksAt R T 105 x y = some (1, wI T 105 18 (nI v))) ∨ ∃ k p U, naP b L M t (fst (fun i => decide (N i = wwS b L t)) 0 cnt) = paB k p ∧ pX12_looksAt R T 105 x y = some (0, flm U k p) ∧ (U = T ∨ U = wI T 105 18 (-1)) := by
  obtain ⟨r1, r6, r7, r8, r9, r10, r21, r22, r28, r32, r33, r34, r38, r40, r46, r47, r48, r49⟩ := hr
  subst ex
  subst ey
  unfold pX12_looksAt naP
  rw [m_isNameK r10 h, bd1_some, m_bad1 h, bd2_some, bz_0]
  by_cases e : kkS b L M t = 3
  · rw [if_pos e, if_pos e, if10, m_seekG r9 hb hN hT (kk_word (Or.inl e)).1 (h.tok.2.2.2.2.1 (Or.inl e)).2, bd1_some]
    simp only [lt]
    rw [wI_s]
    cases e2 : fst (fun i => decide (N i = wwS b L t)) 0 cnt with
    | some v =>
      have := (fst_some _ _ _ e2).2.1
      rw [if_pos (show (0 : Int32) ≤ oI (some v) from nI_le (a := 0) (by omega) (by omega))]
      exact Or.inl ⟨v, rfl, rfl, e, rfl⟩
    | none =>
      rw [if_neg (show ¬ (0 : Int32) ≤ oI none by decide), show oI none = -1 from rfl, m_bad3 (h.w5 (by omega)), bd2_some, if_pos rfl]
      exact Or.inr ⟨3, _, _, rfl, rfl, Or.inr rfl⟩
  · rw [if_neg e, if_neg e, if00]
    exact Or.inr ⟨1, _, T, rfl, rfl, Or.inl rfl⟩
theorem m_takesNameG {R : Rf} {T : Mm} {b : Nat → Nat} {L M t base cnt : Nat} {x y : Int32} {N : Nat → List Nat} (hr : RM R) (h : CuM T b L M t) (ex : x = nI base) (ey : y = nI cnt) (hb : base + cnt ≤ 30) (hN : ∀ i, i < cnt → IW (N i)) (hT : ∀ i, i < cnt → T.2 110 (base + i) = w8 (N i)) : (∃ v V, naP b L M t (fst (fun i => decide (N i = wwS b L t)) 0 cnt) = paO v ∧ fst (fun i => decide (N i = wwS b L t)) 0 cnt = some v ∧ kkS b L M t = 3 ∧ pX12_takesName R T 105 x y = some (1, V) ∧ FX (wI T 105 18 (nI v)) V ∧ CuM V b L M (t + 1)) ∨ ∃ k p U, naP b L M t (fst (fun i => decide (N i = wwS b L t)) 0 cnt) = paB k p ∧ pX12_takesName R T 105 x y = some (0, flm U k p) ∧ (U = T ∨ U = wI T 105 18 (-1)) := by
  unfold pX12_takesName
  obtain ⟨v, n1, n2, n3, n4⟩ | ⟨k, p, U, n1, n2, n3⟩ := m_look hr h ex ey hb hN hT
  · obtain ⟨V, v1, v2, v3⟩ := m_nextS (R := R) hr.1 (h.w5 (k := 18) (v := nI v) (by omega)) (by omega)
    rw [n4, bd2_some, if10, v1, bd1_some]
    exact Or.inl ⟨v, V, n1, n2, n3, rfl, v2, v3⟩
  · rw [n2, bd2_some, if_pos rfl]
    exact Or.inr ⟨k, p, U, n1, rfl, n3⟩
