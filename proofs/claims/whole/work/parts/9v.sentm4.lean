/-! a SENTENCE: the reference's behind, and its loop -/
theorem joS_top {m x : Nat} {l : List Nat} : ∀ {o : List Nat} {c : Cod}, (joS m o c).1 = x :: l → x ≠ 21 ∧ ¬ (x = 22 ∧ m = 22)
  | [], c, h => by cases h
  | y :: o, c, h => by
    by_cases e : y = 21 ∨ (y = 22 ∧ m = 22)
    · rw [joS_y e] at h
      exact joS_top h
    · rw [joS_n e] at h
      cases h
      omega
def MS (b : Nat → Nat) (L M : Nat) (T : Mm) (t : Nat) (out : Option (Int32 × Mm)) (r : Pa (Sum SSt (Cod × Nat))) : Prop := ∃ u V, out = some (u, V) ∧ FG T V ∧ ((∃ k p, r = paB k p ∧ u = 0 ∧ V.1 105 15 = nI k ∧ V.1 105 16 = nI p) ∨ ∃ w o c ones d t', r = paO (Sum.inl (w, o, c, ones, d, t')) ∧ u = 1 ∧ V.1 105 15 = T.1 105 15 ∧ V.1 105 45 = (if w = true then 1 else 0) ∧ SM V o c ones d ∧ CuM V b L M t' ∧ AV b L M t t')
theorem m_bh70 {R : Rf} {T V : Mm} {b : Nat → Nat} {L M t ones d x : Nat} {o : List Nat} {c : Cod} (hr : RM R) (f : FG T V) (h15 : V.1 105 15 = T.1 105 15) (hc : CuM V b L M t) (h : SM V o c ones d) (hl : o.length < 45) (hk : kkS b L M t ≠ 0) (hx : 20 ≤ x ∧ x < 24) : MS b L M T t (pX12_behind_70 R 105 V (R 105 40) (V.1 105 43) (nI x)) (paO (Sum.inl (false, x :: o, c, ones, d, t + 1))) := by
  unfold pX12_behind_70
  rw [hr.2.2.2.2.2.2.2.2.2.2.2.2.2.1, h.1, ix_nI hl (by decide), nI_clamp (by omega)]
  simp only [lt]
  rw [wI_n (Or.inl (by decide)), h.1, nI_1]
  have hS := (h.push hx).o5 (k := 45) (v := 0) (by omega)
  obtain ⟨Y, y1, y2, y3⟩ := m_nextS (R := R) hr.1 (((hc.wa (a := 119) (k := o.length) (v := nI x) (by decide) (by decide)).w6 (k := 43) (v := nI (o.length + 1)) (by omega)).w6 (k := 45) (v := 0) (by omega)) hk
  rw [y1, bd1_some]
  refine ⟨1, Y, rfl, (((f.wa (by omega)).w (by omega)).w (by omega)).x y2, Or.inr ⟨_, _, _, _, _, _, rfl, rfl, ?_, ?_, hS.fx y2, y3, AV.s hk⟩⟩
  · rw [y2.f15, wI_n (Or.inr (by decide)), wI_n (Or.inr (by decide)), wI_n (Or.inl (by decide)), h15]
  · rw [y2.f45, wI_s]; rfl
theorem m_behindS {R : Rf} {T : Mm} {b : Nat → Nat} {L M t ones d : Nat} {o : List Nat} {c : Cod} (hr : RM R) (hc : CuM T b L M t) (h : SM T o c ones d) (h45 : T.1 105 45 = 1) (hl : o.length + c.length ≤ 40) (hd : d = 1 + cnS o) (h0 : ¬ (kkS b L M t = 0 ∧ ¬ M < L)) : MS b L M T t (pX12_behind R T 105) (beS b L M o c ones d t) := by
  obtain ⟨V, v1, v2, v3, v4, v5, v6⟩ := m_notsS hr hc h hl hd
  obtain ⟨n1, n2⟩ := ntS_len o c d hd
  unfold pX12_behind beS
  rw [if_neg h0]
  generalize ho : (ntS o c d).1 = o1 at *
  generalize hc1 : (ntS o c d).2.1 = c1 at *
  generalize hd1 : (ntS o c d).2.2 = d1 at *
  rw [v1, bd1_some, m_isWordK (k := 12) v3 (by omega) (by decide), bd1_some, m_isWordK (k := 11) v3 (by omega) (by decide), bd1_some, ifI, ifI]
  have h24 : ∀ m x, ((kkS b L M t = 4 ∧ vvS b L t = 12) ∧ m = 21 ∧ x = 21) ∨ ((kkS b L M t = 4 ∧ vvS b L t = 11) ∧ m = 22 ∧ x = 22) → MS b L M T t (pX12_behind_24 R 105 V) (paO (Sum.inl (false, x :: (joS m o1 c1).1, (joS m o1 c1).2, ones, d1, t + 1))) := by
    intro m x hm
    obtain ⟨W, w1, w2, w3, w4, w5, w6⟩ := m_joinsS (R := R) (m := m) hr v3 v2 (by omega) (by omega) rfl
    obtain ⟨n3, _⟩ := joS_len (m := m) o1 c1
    unfold pX12_behind_24
    rw [m_isWordK (k := 12) v3 (by omega) (by decide), bd1_some, ifI]
    have e42 : (if kkS b L M t = 4 ∧ vvS b L t = 12 then pX12_behind_42 R 105 V 105 21 else pX12_behind_42 R 105 V 105 22) = pX12_behind_70 R 105 W (R 105 40) (W.1 105 43) (nI x) := by
      unfold pX12_behind_42
      rcases hm with ⟨g1, rfl, rfl⟩ | ⟨g1, rfl, rfl⟩
      · rw [if_pos g1, show (21 : Int32) = nI 21 from rfl, w1, bd1_some, m_isWordK (k := 12) w3 (by omega) (by decide), bd1_some, ifI, if_pos g1]
      · rw [if_neg (by omega), show (22 : Int32) = nI 22 from rfl, w1, bd1_some, m_isWordK (k := 12) w3 (by omega) (by decide), bd1_some, ifI, if_neg (by omega)]
    rw [e42]
    exact m_bh70 hr (v4.trans w4) (by rw [w5, v5]) w3 w2 (by omega) (by omega) (by omega)
  by_cases e12 : kkS b L M t = 4 ∧ vvS b L t = 12
  · rw [if_pos e12, if_pos e12]
    exact h24 21 21 (Or.inl ⟨e12, rfl, rfl⟩)
  rw [if_neg e12, if_neg e12]
  by_cases e11 : kkS b L M t = 4 ∧ vvS b L t = 11
  · rw [if_pos e11, if_pos e11]
    exact h24 22 22 (Or.inr ⟨e11, rfl, rfl⟩)
  rw [if_neg e11, if_neg e11]
  obtain ⟨W, w1, w2, w3, w4, w5, w6⟩ := m_joinsS (R := R) (x := 22) (m := 22) hr v3 v2 (by omega) (by omega) rfl
  obtain ⟨n3, n4⟩ := joS_len (m := 22) o1 c1
  rw [w1, bd1_some, show (41 : Int32) = nI 41 from rfl, m_isSignC w3 (by omega), bd1_some, ifI]
  have e114 : pX12_behind_114 R 105 W = some (0, flm W 1 (psS b L M t)) := by
    unfold pX12_behind_114
    rw [m_bad1 w3, bd2_some, bz_0]
  rw [e114]
  have bad : MS b L M T t (some (0, flm W 1 (psS b L M t))) (paB 1 (psS b L M t)) := ⟨0, _, rfl, (v4.trans w4).fl, Or.inl ⟨1, _, rfl, rfl, flm_15, flm_16⟩⟩
  generalize ho2 : (joS 22 o1 c1).1 = o2 at *
  generalize hc2 : (joS 22 o1 c1).2 = c2 at *
  by_cases e41 : kkS b L M t = 5 ∧ vvS b L t = 41
  · rw [if_pos e41, w2.1]
    cases o2 with
    | nil =>
      rw [if_pos (show nI ([] : List Nat).length = 0 from rfl), if_neg (fun z => z.2 rfl)]
      exact bad
    | cons x l =>
      simp only [List.length_cons] at n3
      rw [if_neg (show ¬ nI (x :: l).length = 0 from fun z => by have := (nI_eq (b := 0) (by simp only [List.length_cons]; omega) (by omega)).mp z; simp only [List.length_cons] at this; omega), if_pos ⟨e41, fun z => by cases z⟩]
      simp only [lt]
      rw [wI_n (Or.inr (by decide)), w2.2.2.2.2.2, show nI (x :: l).length - 1 = nI l.length from nI_m1 (by simp only [List.length_cons]; omega), nI_m1 (by omega)]
      have hS : SM (wI (wI W 105 43 (nI l.length)) 105 44 (nI (d1 - 1))) l c2 ones (d1 - 1) := w2.pop.deep
      obtain ⟨Y, y1, y2, y3⟩ := m_nextS (R := R) hr.1 ((w3.w6 (k := 43) (v := nI l.length) (by omega)).w6 (k := 44) (v := nI (d1 - 1)) (by omega)) (by omega)
      rw [y1, bd1_some]
      refine ⟨1, Y, rfl, (((v4.trans w4).w (by omega)).w (by omega)).x y2, Or.inr ⟨_, _, _, _, _, _, rfl, rfl, ?_, ?_, hS.fx y2, y3, AV.s (by omega)⟩⟩
      · rw [y2.f15, wI_n (Or.inr (by decide)), wI_n (Or.inr (by decide)), w5, v5]
      · rw [y2.f45, wI_n (Or.inr (by decide)), wI_n (Or.inr (by decide)), w6, v6, h45]; rfl
  · rw [if_neg e41, if_neg (fun z => e41 z.1)]
    exact bad
/-- what every state of the machine keeps -/
def SK (w : Bool) (o : List Nat) (c : Cod) (ones d : Nat) : Prop := o.length + c.length + (if w = true then 1 else 0) ≤ 2 * ones ∧ ones ≤ 20 ∧ d = 1 + cnS o ∧ d ≤ 9
theorem opS_ok {b : Nat → Nat} {L M t ones d : Nat} {F : Nat → Nat} {N : Nat → List Nat} {o : List Nat} {c : Cod} {w' : Bool} {o' : List Nat} {c' : Cod} {ones' d' t' : Nat} (h : opS b L M F N o c ones d t = paO (w', o', c', ones', d', t')) (k : SK false o c ones d) : SK w' o' c' ones' d' := by
  obtain ⟨k1, k2, k3, k4⟩ := k
  rw [if_neg Bool.false_ne_true] at k1
  unfold opS at h
  by_cases e1 : (kkS b L M t = 4 ∧ 13 ≤ vvS b L t) ∨ (kkS b L M t = 5 ∧ vvS b L t = 40)
  · rw [if_pos e1] at h
    by_cases e2 : ones = 20 ∨ 8 < d
    · rw [if_pos e2] at h; cases h
    rw [if_neg e2] at h
    by_cases e3 : kkS b L M t = 5
    · rw [if_pos e3] at h
      cases h
      exact ⟨by rw [if_neg Bool.false_ne_true]; simp only [List.length_cons]; omega, by omega, by rw [cnS_y (Or.inr rfl)]; omega, by omega⟩
    rw [if_neg e3] at h
    by_cases e4 : vvS b L t = 13
    · rw [if_pos e4] at h
      cases h
      exact ⟨by rw [if_neg Bool.false_ne_true]; simp only [List.length_cons]; omega, by omega, by rw [cnS_y (Or.inl rfl)]; omega, by omega⟩
    rw [if_neg e4] at h
    by_cases e5 : vvS b L t < 19
    · rw [if_pos e5] at h
      cases h
      exact ⟨by rw [if_pos rfl]; simp only [List.length_cons]; omega, by omega, k3, k4⟩
    rw [if_neg e5] at h
    by_cases e6 : vvS b L t = 19
    · rw [if_pos e6] at h
      obtain ⟨i, _, h2⟩ := paD_okI h
      cases h2
      exact ⟨by rw [if_pos rfl]; simp only [List.length_cons]; omega, by omega, k3, k4⟩
    rw [if_neg e6] at h
    by_cases e7 : kkS b L M (t + 1) = 5 ∧ 60 ≤ vvS b L (t + 1) ∧ vvS b L (t + 1) ≤ 62
    · rw [if_pos e7] at h
      obtain ⟨i, _, h2⟩ := paD_okI h
      cases h2
      exact ⟨by rw [if_pos rfl]; simp only [List.length_cons]; omega, by omega, k3, k4⟩
    · rw [if_neg e7] at h; cases h
  · rw [if_neg e1] at h; cases h
