/-! reading a BOOK: the reference -/
def FB9 (T V : Mm) : Prop := (∀ a, a ≠ 105 → a ≠ 109 → V.1 a = T.1 a) ∧ (∀ a, a ≠ 105 → V.2 a = T.2 a) ∧ ∀ k, k ≠ 4 → ¬ (11 ≤ k ∧ k ≤ 16) → k ≠ 18 → k ≠ 37 → V.1 105 k = T.1 105 k
theorem FB9.refl {T : Mm} : FB9 T T := ⟨fun _ _ _ => rfl, fun _ _ => rfl, fun _ _ _ _ _ => rfl⟩
theorem FB9.trans {T U V : Mm} (h : FB9 T U) (h' : FB9 U V) : FB9 T V := ⟨fun a h1 h2 => (h'.1 a h1 h2).trans (h.1 a h1 h2), fun a h1 => (h'.2.1 a h1).trans (h.2.1 a h1), fun k h1 h2 h3 h4 => (h'.2.2 k h1 h2 h3 h4).trans (h.2.2 k h1 h2 h3 h4)⟩
theorem FB9.x {T U V : Mm} (h : FB9 T U) (f : FX U V) : FB9 T V := h.trans ⟨fun a h1 _ => (f.1 a h1).1, fun a h1 => (f.1 a h1).2, fun k h1 h2 h3 h4 => f.2.1 k h1 (by omega) (by omega) (by omega) (by omega)⟩
theorem FB9.w {T U : Mm} {k : Nat} {v : Int32} (h : FB9 T U) (hk : k = 15 ∨ k = 16 ∨ k = 18 ∨ k = 37) : FB9 T (wI U 105 k v) := h.trans ⟨fun a h1 _ => by rw [wI_1, up2_row h1], fun _ _ => rfl, fun j h1 h2 h3 h4 => wI_n (Or.inr (by omega))⟩
theorem FB9.w9 {T U : Mm} {k : Nat} {v : Int32} (h : FB9 T U) : FB9 T (wI U 109 k v) := h.trans ⟨fun a _ h2 => by rw [wI_1, up2_row h2], fun _ _ => rfl, fun j _ _ _ _ => wI_n (Or.inl (by decide))⟩
theorem FB9.fl {T U : Mm} {k p : Nat} (h : FB9 T U) : FB9 T (flm U k p) := (h.w (by omega)).w (by omega)
def NM (T : Mm) (F : Nat → Nat) (N : Nat → List Nat) : Prop := (∀ p, p < F 0 → T.2 110 p = w8 (N p)) ∧ ∀ i, i < F 1 → T.2 110 (5 + i) = w8 (N (5 + i))
def MB (b : Nat → Nat) (L M : Nat) (T : Mm) (m t : Nat) (o : Option (Int32 × Mm)) (r : Pa (Nat × Nat)) : Prop := ∃ u V, o = some (u, V) ∧ FB9 T V ∧ V.1 105 37 = T.1 105 37 ∧ ((∃ k p, r = paB k p ∧ u = 0 ∧ V.1 105 15 = nI k ∧ V.1 105 16 = nI p) ∨ ∃ w x, r = paO (w, x) ∧ u = 1 ∧ V.1 105 15 = T.1 105 15 ∧ V.1 109 (3 * m) = nI w ∧ V.1 109 (3 * m + 1) = nI x ∧ (∀ k, k < 3 * m → V.1 109 k = T.1 109 k) ∧ CuM V b L M t)
theorem MB.fl {b : Nat → Nat} {L M : Nat} {T U : Mm} {m t k p : Nat} (h : FB9 T U) (e : U.1 105 37 = T.1 105 37) : MB b L M T m t (some (0, flm U k p)) (paB k p) := ⟨0, _, rfl, h.fl, by unfold flm; rw [wI_n (Or.inr (by decide)), wI_n (Or.inr (by decide)), e], Or.inl ⟨k, p, rfl, rfl, flm_15, flm_16⟩⟩
theorem MB.flw {b : Nat → Nat} {L M : Nat} {T U : Mm} {m t k p j : Nat} {v : Int32} (h : FB9 T U) (e : U.1 105 37 = T.1 105 37) : MB b L M T m t (some (0, wI (flm U k p) 109 j v)) (paB k p) := ⟨0, _, rfl, h.fl.w9, by unfold flm; rw [wI_n (Or.inl (by decide)), wI_n (Or.inr (by decide)), wI_n (Or.inr (by decide)), e], Or.inl ⟨k, p, rfl, rfl, (wI_n (Or.inl (by decide))).trans flm_15, (wI_n (Or.inl (by decide))).trans flm_16⟩⟩
theorem FX.f37 {T V : Mm} (h : FX T V) : V.1 105 37 = T.1 105 37 := h.2.1 37 (by decide) (by decide) (by decide) (by decide) (by decide)
theorem FX.f18 {T V : Mm} (h : FX T V) : V.1 105 18 = T.1 105 18 := h.2.1 18 (by decide) (by decide) (by decide) (by decide) (by decide)
theorem FX.r9 {T V : Mm} (h : FX T V) : V.1 109 = T.1 109 := (h.1 109 (by decide)).1
/-- the object of a line by its word -/
theorem m_object {R : Rf} {T : Mm} {b : Nat → Nat} {L M t w : Nat} {F : Nat → Nat} {N : Nat → List Nat} (hr : RM R) (h : CuM T b L M t) (hF : MF T F) (hv : VF F) (hN : NW F N) (hn : NM T F N) (k1 k2 k3 : Int32 → Mm → Option (Int32 × Mm)) (hk : k1 = k2 ∧ k2 = k3) (hw : 2 ≤ w ∧ w ≤ 5) : (∃ v V, (if w + 5 = 9 then nuP b L M t 0 15 else if w + 5 = 10 then nuP b L M t 1 60 else naP b L M t (fnI F N (wwS b L t))) = paO v ∧ (if 4 ≤ nI w then if nI w = 4 then bd2 (pX12_takes R T 105 0 15) k1 else bd2 (pX12_takes R T 105 1 60) k2 else ix 1 270 (bd2 (pX12_takesName R T 105 5 (T.1 (R 105 6) (1 : Int32).toNatClampNeg)) k3)) = k1 1 V ∧ FX (wI T 105 18 (nI v)) V ∧ CuM V b L M (t + 1)) ∨ ∃ k p U, (if w + 5 = 9 then nuP b L M t 0 15 else if w + 5 = 10 then nuP b L M t 1 60 else naP b L M t (fnI F N (wwS b L t))) = paB k p ∧ (if 4 ≤ nI w then if nI w = 4 then bd2 (pX12_takes R T 105 0 15) k1 else bd2 (pX12_takes R T 105 1 60) k2 else ix 1 270 (bd2 (pX12_takesName R T 105 5 (T.1 (R 105 6) (1 : Int32).toNatClampNeg)) k3)) = k1 0 (flm U k p) ∧ (U = T ∨ U = wI T 105 18 (-1)) := by
  obtain ⟨v0, v1, v2, v3, v4, v5, v6, vs, vo, vj⟩ := id hv
  obtain ⟨rfl, rfl⟩ := hk
  simp (disch := omega) only [lit_le, eq_lit, ix_lit, lit_clamp]
  rw [hr.2.1, hF 1 (by omega)]
  by_cases e9 : w = 4
  · rw [if_pos (by omega), if_pos (by omega), if_pos e9]
    obtain ⟨v, V, n1, n2, n3, n4, n5, n6⟩ | ⟨k, p, n1, n2⟩ := m_numL (R := R) (x := 0) (y := 15) (lo := 0) (hi := 15) hr.1 h rfl rfl (by omega) (by omega)
    · exact Or.inl ⟨v, V, n1, by rw [n2, bd2_some], n3, n4⟩
    · exact Or.inr ⟨k, p, T, n1, by rw [n2, bd2_some], Or.inl rfl⟩
  · rw [if_neg (by omega)]
    by_cases e10 : w = 5
    · rw [if_pos (by omega), if_pos (by omega), if_neg e9]
      obtain ⟨v, V, n1, n2, n3, n4, n5, n6⟩ | ⟨k, p, n1, n2⟩ := m_numL (R := R) (x := 1) (y := 60) (lo := 1) (hi := 60) hr.1 h rfl rfl (by omega) (by omega)
      · exact Or.inl ⟨v, V, n1, by rw [n2, bd2_some], n3, n4⟩
      · exact Or.inr ⟨k, p, T, n1, by rw [n2, bd2_some], Or.inl rfl⟩
    · rw [if_neg (by omega), if_neg (by omega)]
      obtain ⟨v, V, o1, o2, o3, o4, o5, o6⟩ | ⟨k, p, U, o1, o2, o3⟩ := m_takesNameG (x := 5) (y := nI (F 1)) (base := 5) (cnt := F 1) (N := fun i => N (5 + i)) hr h rfl rfl (by omega) hN.2 hn.2
      · exact Or.inl ⟨v, V, o1, by rw [o4, bd2_some], o5, o6⟩
      · exact Or.inr ⟨k, p, U, o1, by rw [o2, bd2_some], o3⟩
theorem NM.of {T V : Mm} {F : Nat → Nat} {N : Nat → List Nat} (h : NM T F N) (e : V.2 110 = T.2 110) : NM V F N := ⟨fun p hp => by rw [e]; exact h.1 p hp, fun p hp => by rw [e]; exact h.2 p hp⟩
theorem m_book85w {R : Rf} {T : Mm} {b : Nat → Nat} {L M t m w : Nat} {F : Nat → Nat} {N : Nat → List Nat} (hr : RM R) (h : CuM T b L M t) (hF : MF T F) (hv : VF F) (hN : NW F N) (hn : NM T F N) (hm : T.1 105 37 = nI m) (hm40 : m ≤ 40) (e : kkS b L M t = 4 ∧ vvS b L t = w + 5) (hw : 2 ≤ w ∧ w ≤ 5) : MB b L M T m (t + 2) (pX12_bookLine_85 R 105 T (nI (3 * m)) (nI w)) (rB b L M F N m t) := by
  obtain ⟨V, v1, v2, v3⟩ := m_nextS (R := R) hr.1 h (by omega)
  unfold pX12_bookLine_85 rB
  simp only [lt]
  rw [hm, m_bad4 h, bd2_some, bz_0, v1, bd1_some, if_pos (show kkS b L M t = 4 ∧ 7 ≤ vvS b L t ∧ vvS b L t ≤ 10 from ⟨e.1, by omega, by omega⟩)]
  simp (disch := omega) only [eq_lit]
  by_cases em : m < 40
  · rw [if_pos em, if_neg (by omega), nI_1, ix_nI (by omega) (by decide), ix_nI (by omega) (by decide), nI_clamp (by omega), nI_clamp (by omega), hr.2.2.2.1, if_neg (by omega), e.2]
    generalize hU : wI (wI V 109 (3 * m) (nI w)) 109 (3 * m + 1) (T.1 105 18) = U
    have fr : FB9 T U := by rw [← hU]; exact (FB9.refl.x v2).w9.w9
    have u37 : U.1 105 37 = T.1 105 37 := by rw [← hU, wI_n (Or.inl (by decide)), wI_n (Or.inl (by decide)), v2.f37]
    have u15 : U.1 105 15 = T.1 105 15 := by rw [← hU, wI_n (Or.inl (by decide)), wI_n (Or.inl (by decide)), v2.f15]
    have uC : CuM U b L M (t + 1) := by rw [← hU]; exact (v3.wa (by decide) (by decide)).wa (by decide) (by decide)
    have uF : MF U F := fun k hk => by rw [fr.1 107 (by decide) (by decide)]; exact hF k hk
    have uN : NM U F N := hn.of (fr.2.1 110 (by decide))
    rcases m_object (R := R) (w := w) hr uC uF hv hN uN (fun u T' => pX12_bookLine_222 R 105 T' (nI (3 * m)) u) (fun u T' => pX12_bookLine_222 R 105 T' (nI (3 * m)) u) (fun u T' => pX12_bookLine_222 R 105 T' (nI (3 * m)) u) ⟨rfl, rfl⟩ hw with ⟨v, X, n1, n2, n3, n4⟩ | ⟨k, p, Y, n1, n2, n3⟩
    · simp (disch := omega) only [lit_le, eq_lit, ix_lit, lit_clamp] at n2 ⊢
      rw [n1, paD_o, n2]
      unfold pX12_bookLine_222
      rw [nI_1, ix_nI (by omega) (by decide), nI_clamp (by omega), hr.2.2.2.1, n3.f18, wI_s]
      simp only [lt]
      refine ⟨1, _, rfl, ((fr.w (k := 18) (v := nI v) (by omega)).x n3).w9, ?_, Or.inr ⟨_, _, rfl, rfl, ?_, ?_, wI_s, fun k hk => ?_, n4.wa (by decide) (by decide)⟩⟩
      · rw [wI_n (Or.inl (by decide)), n3.f37, wI_n (Or.inr (by decide)), u37]
      · rw [wI_n (Or.inl (by decide)), n3.f15, wI_n (Or.inr (by decide)), u15]
      · rw [wI_n (Or.inr (by omega)), n3.r9, wI_n (Or.inl (by decide)), ← hU, wI_n (Or.inr (by omega)), wI_s]
        congr 1
      · rw [wI_n (Or.inr (by omega)), n3.r9, wI_n (Or.inl (by decide)), ← hU, wI_n (Or.inr (by omega)), wI_n (Or.inr (by omega)), v2.r9]
    · simp (disch := omega) only [lit_le, eq_lit, ix_lit, lit_clamp] at n2 ⊢
      rw [n1, paD_b, n2]
      unfold pX12_bookLine_222
      rw [nI_1, ix_nI (by omega) (by decide), nI_clamp (by omega), hr.2.2.2.1]
      simp only [lt]
      rw [bz_0]
      rcases n3 with rfl | rfl
      · exact MB.flw fr u37
      · exact MB.flw (fr.w (by omega)) ((wI_n (Or.inr (by decide))).trans u37)
  · rw [if_neg em, if_pos (by omega)]
    exact MB.fl FB9.refl rfl
