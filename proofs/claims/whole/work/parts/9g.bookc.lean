/-! reading a BOOK: the class -/
def FB3 (T V : Mm) : Prop := (∀ a, a ≠ 1 → a ≠ 30 → a ≠ 31 → a ≠ 32 → V.1 a = T.1 a) ∧ V.2 = T.2 ∧ (∀ k, k ≠ 2 → k ≠ 3 → k ≠ 6 → V.1 1 k = T.1 1 k) ∧ ∀ k, k ≠ 1 → V.1 30 k = T.1 30 k
theorem FB3.refl {T : Mm} : FB3 T T := ⟨fun _ _ _ _ _ => rfl, rfl, fun _ _ _ _ => rfl, fun _ _ => rfl⟩
theorem FB3.trans {T U V : Mm} (h : FB3 T U) (h' : FB3 U V) : FB3 T V := ⟨fun a h1 h2 h3 h4 => (h'.1 a h1 h2 h3 h4).trans (h.1 a h1 h2 h3 h4), h'.2.1.trans h.2.1, fun k h1 h2 h3 => (h'.2.2.1 k h1 h2 h3).trans (h.2.2.1 k h1 h2 h3), fun k h1 => (h'.2.2.2 k h1).trans (h.2.2.2 k h1)⟩
theorem FB3.w1 {T U : Mm} {k : Nat} {v : Int32} (h : FB3 T U) (hk : k = 2 ∨ k = 3 ∨ k = 6) : FB3 T (wI U 1 k v) := h.trans ⟨fun a h1 _ _ _ => by rw [wI_1, up2_row h1], rfl, fun j h1 h2 h3 => wI_n (Or.inr (by omega)), fun j _ => wI_n (Or.inl (by decide))⟩
theorem FB3.wa {T U : Mm} {a k : Nat} {v : Int32} (h : FB3 T U) (ha : a = 31 ∨ a = 32) : FB3 T (wI U a k v) := h.trans ⟨fun c _ _ h3 h4 => by rw [wI_1, up2_row (by omega)], rfl, fun j _ _ _ => wI_n (Or.inl (by omega)), fun j _ => wI_n (Or.inl (by omega))⟩
theorem FB3.w0 {T U : Mm} {v : Int32} (h : FB3 T U) : FB3 T (wI U 30 1 v) := h.trans ⟨fun c _ h2 _ _ => by rw [wI_1, up2_row h2], rfl, fun j _ _ _ => wI_n (Or.inl (by decide)), fun j hj => wI_n (Or.inr hj)⟩
theorem FB3.fl {T U : Mm} {k p : Nat} (h : FB3 T U) : FB3 T (flc U k p) := (h.w1 (Or.inl rfl)).w1 (Or.inr (Or.inl rfl))
theorem CG.fb {R : Rf} {T V : Mm} {g : Nat} {F : Nat → Nat} {N : Nat → List Nat} (h : CG R T g F N) (f : FB3 T V) (h79 : 79 ≤ g) : CG R V g F N := h.at (fun a h1 h2 => f.1 a (by omega) (by omega) (by omega) (by omega)) (fun p _ => by rw [f.2.1]) (fun p _ => by rw [f.2.1])
def CB (b : Nat → Nat) (L M n : Nat) (T : Mm) (m t : Nat) (o : Option (Int32 × Mm)) (r : Pa (Nat × Nat)) : Prop := ∃ u V, o = some (u, V) ∧ FB3 T V ∧ V.1 30 1 = T.1 30 1 ∧ ((∃ k p, r = paB k p ∧ u = 0 ∧ V.1 1 2 = nI k ∧ V.1 1 3 = nI p) ∨ ∃ w x, r = paO (w, x) ∧ u = 1 ∧ V.1 1 2 = T.1 1 2 ∧ V.1 31 = uT (T.1 31) m (nI (w + 5)) ∧ V.1 32 = uT (T.1 32) m (nI x) ∧ CuC V b L M n t)
theorem CB.fl {b : Nat → Nat} {L M n : Nat} {T U : Mm} {m t k p : Nat} (h : FB3 T U) (e : U.1 30 1 = T.1 30 1) : CB b L M n T m t (some (0, flc U k p)) (paB k p) := ⟨0, _, rfl, h.fl, by unfold flc; rw [wI_n (Or.inl (by decide)), wI_n (Or.inl (by decide)), e], Or.inl ⟨k, p, rfl, rfl, flc_2, flc_3⟩⟩
theorem CB.flw {b : Nat → Nat} {L M n : Nat} {T U : Mm} {m t k p a j : Nat} {v : Int32} (h : FB3 T U) (e : U.1 30 1 = T.1 30 1) (ha : a = 31 ∨ a = 32) : CB b L M n T m t (some (0, wI (flc U k p) a j v)) (paB k p) := ⟨0, _, rfl, h.fl.wa ha, by unfold flc; rw [wI_n (Or.inl (by omega)), wI_n (Or.inl (by decide)), wI_n (Or.inl (by decide)), e], Or.inl ⟨k, p, rfl, rfl, (wI_n (Or.inl (by omega))).trans flc_2, (wI_n (Or.inl (by omega))).trans flc_3⟩⟩
theorem CB.semi {R : Rf} {b : Nat → Nat} {L M n : Nat} {T : Mm} {m t : Nat} {o : Option (Int32 × Mm)} {r : Pa (Nat × Nat)} (hR : RT R) (h : CB b L M n T m t o r) : CB b L M n T m (t + 1) (bd2 o (fun (u7 : Int32) (T7 : Mm) => if u7 = 0 then some (0, T7) else bd2 (pX10_takeMark R T7 1 59) (fun (u8 : Int32) (T8 : Mm) => if u8 = 0 then some (0, T8) else some (1, T8)))) (paD r fun y => paD (maP b L M t 59) fun _ => paO y) := by
  obtain ⟨u, V, h1, h2, h0, h3⟩ := h
  rw [h1, bd2_some]
  rcases h3 with ⟨k, p, z1, z2, z3, z4⟩ | ⟨w, x, z1, z2, z3, z4, z5, z6⟩
  · rw [z1, z2, if_pos rfl, paD_b]
    exact ⟨0, V, rfl, h2, h0, Or.inl ⟨k, p, rfl, rfl, z3, z4⟩⟩
  · rw [z1, z2, if10, paD_o, show (59 : Int32) = nI 59 from rfl, c_takeMark hR z6 (by omega), bd2_some']
    unfold maP
    by_cases e : kkS b L M t = 5 ∧ vvS b L t = 59
    · rw [if_pos e, if_pos e, paD_o, if10]
      obtain ⟨_, c2⟩ := c_advance (R := R) z6 (z6.lt (by omega))
      exact ⟨1, _, rfl, h2.w1 (by omega), (wI_n (Or.inl (by decide))).trans h0, Or.inr ⟨_, _, rfl, rfl, (wI_n (Or.inr (by decide))).trans z3, by rw [wI_1, up2_row (by decide), z4], by rw [wI_1, up2_row (by decide), z5], c2⟩⟩
    · rw [if_neg e, if_neg e, paD_b, if_pos rfl]
      exact CB.fl h2 h0
theorem bd2_id {o : Option (Int32 × Mm)} : bd2 o (fun u2 T2 => some (u2, T2)) = o := by cases o <;> rfl
/-- the object of a line by its word -/
theorem c_object {R : Rf} {T : Mm} {b : Nat → Nat} {L M n t f w : Nat} {F : Nat → Nat} {N : Nat → List Nat} (hR : RT R) (h : CuC T b L M n t) (hg : CG R T f F N) (hv : VF F) (hN : NW F N) (hw : w < 24) : (∃ v, (if w = 9 then nuP b L M t 0 15 else if w = 10 then nuP b L M t 1 60 else naP b L M t (fnI F N (wwS b L t))) = paO v ∧ v < 100 ∧ pX0_takeObject R T 1 f (nI w) = some (nI v, wI T 1 6 (nI (t + 1))) ∧ CuC (wI T 1 6 (nI (t + 1))) b L M n (t + 1)) ∨ ∃ k p, (if w = 9 then nuP b L M t 0 15 else if w = 10 then nuP b L M t 1 60 else naP b L M t (fnI F N (wwS b L t))) = paB k p ∧ pX0_takeObject R T 1 f (nI w) = some (-1, flc T k p) := by
  obtain ⟨v0, v1, v2, v3, v4, v5, v6, vs, vo, vj⟩ := id hv
  unfold pX0_takeObject
  simp (disch := omega) only [eq_lit, bd2_id]
  by_cases e9 : w = 9
  · rw [if_pos e9, if_pos e9]
    obtain ⟨v, n1, n2, n3, n4, n5⟩ | ⟨k, p, n1, n2⟩ := c_numL (x := 0) (y := 15) (lo := 0) (hi := 15) hR h rfl rfl (by omega) (by omega)
    · exact Or.inl ⟨v, n1, by omega, n2, n3⟩
    · exact Or.inr ⟨k, p, n1, n2⟩
  · rw [if_neg e9, if_neg e9]
    by_cases e10 : w = 10
    · rw [if_pos e10, if_pos e10]
      obtain ⟨v, n1, n2, n3, n4, n5⟩ | ⟨k, p, n1, n2⟩ := c_numL (x := 1) (y := 60) (lo := 1) (hi := 60) hR h rfl rfl (by omega) (by omega)
      · exact Or.inl ⟨v, n1, by omega, n2, n3⟩
      · exact Or.inr ⟨k, p, n1, n2⟩
    · rw [if_neg e10, if_neg e10, c_takeItem hR h hg hv hN]
      obtain ⟨x, p1, p2, p3, p4, p5⟩ | ⟨k, p, p1, p2⟩ := c_taken3 (R := R) hR h (o := fnI F N (wwS b L t)) (fun i hi => by have := fnI_lt hi; omega)
      · have := fnI_lt p2
        exact Or.inl ⟨x, p1, by omega, p4, p5⟩
      · exact Or.inr ⟨k, p, p1, p2⟩
theorem c_book65w {R : Rf} {T : Mm} {b : Nat → Nat} {L M n t f m : Nat} {F : Nat → Nat} {N : Nat → List Nat} (hR : RT R) (r2 : R 30 2 = 31) (r3 : R 30 3 = 32) (h : CuC T b L M n t) (hg : CG R T f F N) (hv : VF F) (hN : NW F N) (h79 : 79 ≤ f) (hm : T.1 30 1 = nI m) (hm40 : m ≤ 40) (e : kkS b L M t = 4 ∧ 7 ≤ vvS b L t ∧ vvS b L t ≤ 10) : CB b L M n T m (t + 3) (pX0_readLine_65 R 30 1 f T (nI (vvS b L t)) 1) (rBL b L M F N m t) := by
  obtain ⟨a1, a2⟩ := c_advance (R := R) h (h.lt (by omega))
  unfold pX0_readLine_65 rBL rB
  rw [hm, if_pos e, c_fail4 hR h, bd2_some, bz_0, if10, a1, bd1_some]
  by_cases em : m < 40
  · rw [if_pos em, if_pos (show nI m < 40 from (nI_ltI (b := 40) (by omega) (by omega)).mpr em), wI_n (Or.inl (by decide)), hm, ix_nI (by omega) (by decide), nI_clamp (by omega), r2, r3]
    simp only [lt]
    have fr : FB3 T (wI (wI T 1 6 (nI (t + 1))) 31 m (nI (vvS b L t))) := (FB3.refl.w1 (by omega)).wa (by omega)
    simp (disch := omega) only [wI_n]
    rw [hm]
    obtain ⟨v, n1, n0, n2, n3⟩ | ⟨k, p, n1, n2⟩ := c_object (w := vvS b L t) hR (a2.wg (a := 31) (k := m) (v := nI (vvS b L t)) (by omega)) (hg.fb fr h79) hv hN (by omega)
    · rw [n1, paD_o, n2, bd2_some, ix_nI (by omega) (by decide)]
      simp (disch := omega) only [wI_n, nI_clamp]
      rw [hm, ix_nI (by omega) (by decide), nI_clamp (by omega), wI_s, if_neg (ne_m1 (by omega))]
      have hbase : CB b L M n T m (t + 2) (some (1, wI (wI (wI (wI T 1 6 (nI (t + 1))) 31 m (nI (vvS b L t))) 1 6 (nI (t + 1 + 1))) 32 m (nI v))) (paO (vvS b L t - 5, v)) := by
        refine ⟨1, _, rfl, (fr.w1 (by omega)).wa (by omega), ?_, Or.inr ⟨_, _, rfl, rfl, ?_, ?_, ?_, n3.wg (by omega)⟩⟩
        · simp (disch := omega) only [wI_n]
        · simp (disch := omega) only [wI_n]
        · rw [wI_1, up2_row (by decide), wI_1, up2_row (by decide), wI_row, wI_1, up2_row (by decide), show vvS b L t - 5 + 5 = vvS b L t by omega]
        · rw [wI_row, wI_1, up2_row (by decide), wI_1, up2_row (by decide), wI_1, up2_row (by decide)]
      exact hbase.semi hR
    · rw [n1, paD_b, paD_b, n2, bd2_some, ix_nI (by omega) (by decide)]
      unfold flc
      simp (disch := omega) only [wI_n, nI_clamp]
      rw [hm, ix_nI (by omega) (by decide), nI_clamp (by omega), wI_s, if_pos rfl]
      exact CB.flw fr (by simp (disch := omega) only [wI_n]) (by omega)
  · rw [if_neg em, if_neg (show ¬ nI m < 40 from fun z => em ((nI_ltI (b := 40) (by omega) (by omega)).mp z)), paD_b]
    exact CB.fl FB3.refl rfl
