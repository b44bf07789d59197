/-! undo, days -/
theorem PP.of {T T' : Mm} {n fs : Nat} {H : Nat → Nat → Int32} (h : PP T n fs H) (e : ∀ a, a = 12 ∨ (14 ≤ a ∧ a ≤ 29) → T'.1 a = T.1 a) : PP T' n fs H := by
  obtain ⟨h1, h2, h3, h4, h5⟩ := h
  exact ⟨h1, h2, by rw [e 12 (by omega), h3], by rw [e 12 (by omega), h4], fun k hk => (h5 k hk).of (e _ (by omega)) (e _ (by omega))⟩
theorem k_undo {R : Rf} {T T' : Mm} {f : Nat} {F : Nat → Nat} {C : Nat → Int32} {n fs : Nat} {H : Nat → Nat → Int32} (k : KQ R T f F C n fs H) (l : LQ R T' F C n H) : ∃ a T1 V C' n' H', pX11_undo R T 0 = some (a, T1) ∧ pX12_undo R T' 105 = some (a, V) ∧ OUT F T T1 T' V C' n' H' := by
  obtain ⟨hk, hp, q2, q3, q10, q7, hR⟩ := id k
  obtain ⟨k1, k2, k3, k4, k5, k6, k7, k8, k9, k10⟩ := id hk
  obtain ⟨l1, l2, l3, l4, l5, l6⟩ := id l
  unfold pX11_undo
  rw [q3, k1]
  by_cases e : n = 0
  · subst e
    rw [c_pop0 hp, bd2_some, m_undo0 l2]
    exact ⟨-1, T, wI T' 105 0 0, C, 0, H, rfl, rfl, k.nothing l rfl⟩
  · rw [c_pop hR k5 hp (by omega), bd2_some, m_undo1 l1.1 l3 (by omega) l5 l2]
    refine ⟨_, _, _, H (n - 1), n - 1, H, rfl, rfl, ⟨fs, CC.sC, ?_, ?_⟩, MC.sM, ?_, ?_, l6 (n - 1) (by omega), by omega, fun k hk => l6 k (by omega)⟩
    · obtain ⟨h1, h2, h3, h4, h5⟩ := hp
      have e2 : ∀ a, 10 ≤ a → (setC (wI T 12 0 (nI (n - 1))) 8 (H (n - 1))).1 a = (wI T 12 0 (nI (n - 1))).1 a := fun a ha => setC_o (by omega) (by omega)
      refine ⟨by omega, h2, by rw [e2 12 (by omega), wI_s], by rw [e2 12 (by omega), wI_n (Or.inr (by decide)), h4], fun k hk => (h5 k (by omega)).of ?_ ?_⟩
      · rw [e2 _ (by omega), wI_1, up2_row (by omega)]
      · rw [e2 _ (by omega), wI_1, up2_row (by omega)]
    · exact (Fr.refl.sw (by unfold SA; omega)).sC (by unfold SA; omega) (by unfold SA; omega)
    · refine PM.sM ⟨wI_s, fun k hk i hi => ?_⟩
      rw [wI_n (Or.inl (by decide)), wI_n (Or.inl (by decide))]
      exact l2.2 k (by omega) i hi
    · refine FA.trans ?_ FA.sM
      exact ⟨fun a h1 _ _ _ => by rw [wI_1, up2_row h1, wI_1, up2_row h1], fun k h1 h2 _ => by rw [wI_n (Or.inr h2), wI_n (Or.inr h1)], fun k _ => by rw [wI_n (Or.inl (by decide)), wI_n (Or.inl (by decide))], rfl⟩
theorem VC.uC0 {F : Nat → Nat} {C : Nat → Int32} {d : Nat} (h : VC F C) (hd : d ≤ 400) : VC F (uC C 0 (nI d)) := by
  obtain ⟨h0, h1, h2, h3, h4⟩ := h
  refine ⟨⟨d, hd, uC_s⟩, ?_, ?_, ?_, ?_⟩
  · rw [uC_n (by omega)]; exact h1
  · rw [uC_n (by omega)]; exact h2
  · intro q hq
    rw [uC_n (by omega)]; exact h3 q hq
  · rw [uC_n (by omega), uC_n (by omega)]; exact h4
theorem fo_ind {α : Type} {G : Nat → α → α} {P : α → Prop} (h : ∀ i a, P a → P (G i a)) : ∀ k i a, P a → P (fo G i k a)
  | 0, _, _, ha => ha
  | k + 1, i, a, ha => fo_ind h k (i + 1) _ (h i a ha)
theorem VC.day {F : Nat → Nat} (hv : VF F) {C : Nat → Int32} {d : Nat} (h : VC F C) (hd : C 0 = nI d) (hd2 : d < 400) : VC F (dayS F C) := by
  unfold dayS
  rw [hd, nI_1]
  exact fo_ind (P := VC F) (fun i a ha => VC.drop hv ha) _ _ _ (VC.uC0 h (by omega))
theorem VC.days {F : Nat → Nat} (hv : VF F) : ∀ (k i d : Nat) (C : Nat → Int32), VC F C → C 0 = nI d → d + k ≤ 400 → VC F (fo (fun _ D => dayS F D) i k C)
  | 0, _, _, _, h, _, _ => h
  | k + 1, i, d, C, h, hd, hk => VC.days hv k (i + 1) (d + 1) _ (VC.day hv h hd (by omega)) (by show dayS F C 0 = _; rw [dayS_0, hd, nI_1]) (by omega)
theorem k_days {R : Rf} {T T' : Mm} {f : Nat} {F : Nat → Nat} {C : Nat → Int32} {n fs : Nat} {H : Nat → Nat → Int32} (k : KQ R T f F C n fs H) (l : LQ R T' F C n H) (x : Int32) : ∃ a T1 V C' n' H', pX11_days R T 0 x = some (a, T1) ∧ pX12_days R T' 105 x = some (a, V) ∧ OUT F T T1 T' V C' n' H' := by
  obtain ⟨hk, hp, q2, q3, q10, q7, hR⟩ := id k
  obtain ⟨k1, k2, k3, k4, k5, k6, k7, k8, k9, k10⟩ := id hk
  obtain ⟨l1, l2, l3, l4, l5, l6⟩ := id l
  have l0 := l1.sw (a := 105) (k := 0) (v := 0) (by decide)
  obtain ⟨d, hd, ed⟩ := k10.1
  have e80 : (wI T' 105 0 0).1 107 80 = nI d := by rw [l0.2.2.2.2.1, ed]
  unfold pX11_days pX12_days
  simp only [lt]
  rw [m_isInG, bd1_some]
  by_cases e : (1 : Int32) ≤ x ∧ x ≤ 60
  · obtain ⟨m, hm1, hm2, rfl⟩ := nI_between (a := 1) (b := 60) (by decide) (by decide) e.1 e.2
    rw [if_neg (Int32.not_lt.mpr e.1), if_pos e.2, if_pos e, if10, k1, k9.1 0 (by decide), ed]
    simp (disch := omega) only [lt, jn, bd1_some, bd2_some, ix_nI, ix_lit, nI_clamp, lit_clamp, lit_add, add_lit, nI_add, nI_leI, nI_ltI, nI_eq, lit_le, le_lit, lit_lt, lt_lit, lit_eq, eq_lit, if_pos, if_neg, l1.1, e80]
    by_cases e4 : d = 400
    · rw [if_neg (by omega), if_pos e4]
      exact ⟨0, T, wI T' 105 0 0, C, n, H, rfl, rfl, k.nothing l rfl⟩
    · obtain ⟨T1, fs', t1, t2, t3⟩ := c_push hR k5 hp k9
      obtain ⟨U, u1, u2, u3, u4, u5⟩ := l.stores
      have hT8 : ∀ a, a < 12 ∨ 29 < a → T1.1 a = T.1 a := fun a ha => (t3 a (by unfold S12; omega)).1
      have hC1 : CC T1 8 C := k9.of (hT8 8 (by omega)) (hT8 9 (by omega))
      have hF1 : CF R T1 f F := k7.of (fun a h1 h2 => hT8 a (by omega))
      have hgo := m_goesOnS l1.1 u2 k8 hm2 hd ed
      rw [u3] at hgo
      rw [if_pos (by omega), if_neg e4, q3, t1, bd1_some, u1, bd1_some, hgo, bd2_some, hC1.1 0 (by decide), ed]
      have key := zl3_fr (f := pX11_days_49 R 0 (nI m) (pX11_days_84 R 0 (nI m))) (fun D => setC T1 8 D) (fun _ => nI d) (fun _ D => dayS F D) (fun D => some (nI (min m (400 - d)), setC T1 8 D)) 0 (min m (400 - d)) (fun i D => D 0 = nI (d + i)) (by omega) (by omega) ?_ ?_ ?_ C ed
      · have key2 : zl3 (pX11_days_49 R 0 (nI m) (pX11_days_84 R 0 (nI m))) FU T1 (nI d) 0 = some (nI (min m (400 - d)), setC T1 8 (daysS F (min m (400 - d)) C)) := by
          rw [hC1.self] at key
          exact key
        rw [key2]
        have hvc := VC.days k8 (min m (400 - d)) 0 d C k10 ed (by omega)
        obtain ⟨d1, d2, d3, d4, d5, d6⟩ := l.done u4 u5 hvc
        refine ⟨_, _, _, daysS F (min m (400 - d)) C, phN n, phH n H C, rfl, rfl, ⟨fs', CC.sC, ?_, ?_⟩, d1, d2, d3, d4, d5, d6⟩
        · exact t2.of (fun a ha => setC_o (by omega) (by omega))
        · exact (t3.mono (fun a ha => by unfold S12 at ha; unfold SA; omega)).sC (by unfold SA; omega) (by unfold SA; omega)
      · intro i b _ hi hb
        show dayS F b 0 = _
        rw [dayS_0, hb, nI_1]
        rfl
      · intro r i b _ hi hb
        unfold pX11_days_49
        rw [k1, k3, setC_c (by decide), hb]
        simp (disch := omega) only [lt, jn, bd1_some, bd2_some, ix_nI, ix_lit, nI_clamp, lit_clamp, lit_add, add_lit, nI_add, nI_leI, nI_ltI, nI_eq, lit_le, le_lit, lit_lt, lt_lit, lit_eq, eq_lit, if_pos, if_neg]
        rw [c_passDay hF1 k8 k5 (by omega), bd1_some]
      · intro r b hb
        unfold pX11_days_49 pX11_days_84
        have hfin : nI (d + min m (400 - d)) - nI d = nI (min m (400 - d)) := by
          rw [pk_sub (by omega)]
          congr 1
          omega
        rw [k1, setC_c (by decide), hb, hfin]
        simp (disch := omega) only [lt, jn, bd1_some, bd2_some, ix_nI, ix_lit, nI_clamp, lit_clamp, lit_add, add_lit, nI_add, nI_leI, nI_ltI, nI_eq, lit_le, le_lit, lit_lt, lt_lit, lit_eq, eq_lit, if_pos, if_neg]
        by_cases z : m ≤ min m (400 - d)
        · rw [if_pos z]
        · rw [if_neg z]
  · rw [if_neg e, if00]
    have hcl : (if x < 1 then some ((-1 : Int32), T) else if x ≤ 60 then if (T.1 (R 0 1) 0) < 400 then bd1 (pX7_push R T (R 0 3) (R 0 1)) (fun (T1 : Mm) => zl3 (pX11_days_49 R 0 x (pX11_days_84 R 0 x)) FU T1 (T1.1 (R 0 1) 0) 0) else some (0, T) else some ((-1), T)) = some (-1, T) := by
      by_cases z : x < 1
      · rw [if_pos z]
      · rw [if_neg z, if_neg (fun z2 => e ⟨Int32.not_lt.mp z, z2⟩)]
    rw [hcl]
    exact ⟨-1, T, wI T' 105 0 0, C, n, H, rfl, rfl, k.nothing l rfl⟩
