/-! go, free, unload, load, bind: both answer alike -/
theorem n10 : ¬ (1 : Int32) = 0 := by decide
theorem n20 : ¬ (2 : Int32) = 0 := by decide
theorem n30 : ¬ (3 : Int32) = 0 := by decide
theorem l10 : ¬ (1 : Int32) ≤ 0 := by decide
theorem l20 : ¬ (2 : Int32) ≤ 0 := by decide
theorem l30 : ¬ (3 : Int32) ≤ 0 := by decide
theorem k_go {R : Rf} {T T' : Mm} {f : Nat} {F : Nat → Nat} {C : Nat → Int32} {n fs : Nat} {H : Nat → Nat → Int32} (k : KQ R T f F C n fs H) (l : LQ R T' F C n H) (x : Int32) : ∃ a T1 V C' n' H', pX11_go R T 0 x = some (a, T1) ∧ pX12_go R T' 105 x = some (a, V) ∧ OUT F T T1 T' V C' n' H' := by
  obtain ⟨hk, hp, q2, q3, q10, q7, hR⟩ := id k
  obtain ⟨k1, k2, k3, k4, k5, k6, k7, k8, k9, k10⟩ := id hk
  obtain ⟨l1, l2, l3, l4, l5, l6⟩ := id l
  obtain ⟨v0, v1, v2, v3, v4, v5, v6, vs, vo, vj⟩ := id k8
  have l0 := l1.sw (a := 105) (k := 0) (v := 0) (by decide)
  by_cases e : ∃ i, i < F 0 ∧ x = nI i
  · obtain ⟨i, hi, rfl⟩ := e
    obtain ⟨c1, c2⟩ := c_go k hi
    obtain ⟨a1, a2⟩ := c_act k c2
    have hvc : VC F (goS F C i).2 := VC.go k8 k10
    by_cases y0 : (goS F C i).1 = 0
    · obtain ⟨T1, fs', t1, t2, t3, t4⟩ := a1 y0
      obtain ⟨U, u1, u2, u3, u4, u5⟩ := l.stores
      obtain ⟨d1, d2, d3, d4, d5, d6⟩ := l.done u4 u5 hvc
      refine ⟨0, T1, setM U (F 2) (goS F C i).2, (goS F C i).2, phN n, phH n H C, by rw [c1, t1, bd2_some], ?_, ⟨fs', t2, t3, t4⟩, d1, d2, d3, d4, d5, d6⟩
      unfold pX12_go
      simp only [lt]
      have e0 : C (4 + i) = 0 := Classical.byContradiction (fun z => by unfold goS at y0; rw [if_neg z] at y0; exact absurd y0 (by first | exact n10 | exact n20 | exact n30))
      have hg : (goS F C i).2 = dropS F (uC C (4 + i) 1) i := by unfold goS; rw [if_pos e0]
      have hh := m_hangsS l1.1 u2 k8 hi C
      rw [u3] at hh
      have e84 : (wI T' 105 0 0).1 107 (84 + i) = C (4 + i) := l0.2.2.2.2.2.2.2.2 i (by omega)
      rw [l0.isP1 hi, bd1_some, if10]
      simp (disch := omega) only [lt, jn, bd1_some, bd2_some, ix_nI, ix_lit, nI_clamp, lit_clamp, lit_add, add_lit, nI_add, nI_leI, nI_ltI, nI_eq, lit_le, le_lit, lit_lt, lt_lit, lit_eq, eq_lit, if_pos, if_neg, l1.1, e84]
      rw [u1, bd1_some, hh, bd1_some, hg]
    · refine ⟨(goS F C i).1, setC T 10 (goS F C i).2, wI T' 105 0 0, C, n, H, by rw [c1, a2 y0, bd2_some], ?_, k.no l rfl⟩
      unfold pX12_go
      simp only [lt]
      have e0 : ¬ C (4 + i) = 0 := fun z => y0 (by unfold goS; rw [if_pos z])
      have e84 : (wI T' 105 0 0).1 107 (84 + i) = C (4 + i) := l0.2.2.2.2.2.2.2.2 i (by omega)
      have hg : (goS F C i).1 = 1 := by unfold goS; rw [if_neg e0]
      rw [l0.isP1 hi, bd1_some, if10, hg]
      simp (disch := omega) only [lt, jn, bd1_some, bd2_some, ix_nI, ix_lit, nI_clamp, lit_clamp, lit_add, add_lit, nI_add, nI_leI, nI_ltI, nI_eq, lit_le, le_lit, lit_lt, lt_lit, lit_eq, eq_lit, if_pos, if_neg, l1.1, e84]
  · refine ⟨-1, T, wI T' 105 0 0, C, n, H, ?_, ?_, k.nothing l rfl⟩
    · unfold pX11_go
      rw [k3, hk.hasP0 e, bd1_some, if00]
    · unfold pX12_go
      simp only [lt]
      rw [l0.isP0 e, bd1_some, if00]
theorem k_free {R : Rf} {T T' : Mm} {f : Nat} {F : Nat → Nat} {C : Nat → Int32} {n fs : Nat} {H : Nat → Nat → Int32} (k : KQ R T f F C n fs H) (l : LQ R T' F C n H) (x : Int32) : ∃ a T1 V C' n' H', pX11_free R T 0 x = some (a, T1) ∧ pX12_free R T' 105 x = some (a, V) ∧ OUT F T T1 T' V C' n' H' := by
  obtain ⟨hk, hp, q2, q3, q10, q7, hR⟩ := id k
  obtain ⟨k1, k2, k3, k4, k5, k6, k7, k8, k9, k10⟩ := id hk
  obtain ⟨l1, l2, l3, l4, l5, l6⟩ := id l
  obtain ⟨v0, v1, v2, v3, v4, v5, v6, vs, vo, vj⟩ := id k8
  have l0 := l1.sw (a := 105) (k := 0) (v := 0) (by decide)
  by_cases e : ∃ i, i < F 0 ∧ x = nI i
  · obtain ⟨i, hi, rfl⟩ := e
    obtain ⟨c1, c2⟩ := c_free k hi
    obtain ⟨a1, a2⟩ := c_act k c2
    have hvc : VC F (frS C i).2 := VC.fr k10
    by_cases y0 : (frS C i).1 = 0
    · obtain ⟨T1, fs', t1, t2, t3, t4⟩ := a1 y0
      obtain ⟨U, u1, u2, u3, u4, u5⟩ := l.stores
      obtain ⟨d1, d2, d3, d4, d5, d6⟩ := l.done u4 u5 hvc
      refine ⟨0, T1, setM U (F 2) (frS C i).2, (frS C i).2, phN n, phH n H C, by rw [c1, t1, bd2_some], ?_, ⟨fs', t2, t3, t4⟩, d1, d2, d3, d4, d5, d6⟩
      unfold pX12_free
      simp only [lt]
      have e0 : C (4 + i) = 2 := Classical.byContradiction (fun z => by unfold frS at y0; rw [if_neg z] at y0; exact absurd y0 (by first | exact n10 | exact n20 | exact n30))
      have hg : (frS C i).2 = uC C (4 + i) 3 := by unfold frS; rw [if_pos e0]
      have e84 : (wI T' 105 0 0).1 107 (84 + i) = C (4 + i) := l0.2.2.2.2.2.2.2.2 i (by omega)
      have hw : wI U 107 (84 + i) 3 = setM U (F 2) (uC C (4 + i) 3) := by
        have := setM_wh (T := U) (n := F 2) (p := i) (C := C) (v := 3) (by omega)
        rwa [u3] at this
      rw [l0.isP1 hi, bd1_some, if10]
      simp (disch := omega) only [lt, jn, bd1_some, bd2_some, ix_nI, ix_lit, nI_clamp, lit_clamp, lit_add, add_lit, nI_add, nI_leI, nI_ltI, nI_eq, lit_le, le_lit, lit_lt, lt_lit, lit_eq, eq_lit, if_pos, if_neg, l1.1, e84]
      rw [u1, bd1_some, hw, hg]
    · refine ⟨(frS C i).1, setC T 10 (frS C i).2, wI T' 105 0 0, C, n, H, by rw [c1, a2 y0, bd2_some], ?_, k.no l rfl⟩
      unfold pX12_free
      simp only [lt]
      have e0 : ¬ C (4 + i) = 2 := fun z => y0 (by unfold frS; rw [if_pos z])
      have e84 : (wI T' 105 0 0).1 107 (84 + i) = C (4 + i) := l0.2.2.2.2.2.2.2.2 i (by omega)
      have hg : (frS C i).1 = 1 := by unfold frS; rw [if_neg e0]
      rw [l0.isP1 hi, bd1_some, if10, hg]
      simp (disch := omega) only [lt, jn, bd1_some, bd2_some, ix_nI, ix_lit, nI_clamp, lit_clamp, lit_add, add_lit, nI_add, nI_leI, nI_ltI, nI_eq, lit_le, le_lit, lit_lt, lt_lit, lit_eq, eq_lit, if_pos, if_neg, l1.1, e84]
  · refine ⟨-1, T, wI T' 105 0 0, C, n, H, ?_, ?_, k.nothing l rfl⟩
    · unfold pX11_free
      rw [k3, hk.hasP0 e, bd1_some, if00]
    · unfold pX12_free
      simp only [lt]
      rw [l0.isP0 e, bd1_some, if00]
theorem k_unload {R : Rf} {T T' : Mm} {f : Nat} {F : Nat → Nat} {C : Nat → Int32} {n fs : Nat} {H : Nat → Nat → Int32} (k : KQ R T f F C n fs H) (l : LQ R T' F C n H) (x : Int32) : ∃ a T1 V C' n' H', pX11_unload R T 0 x = some (a, T1) ∧ pX12_unload R T' 105 x = some (a, V) ∧ OUT F T T1 T' V C' n' H' := by
  obtain ⟨hk, hp, q2, q3, q10, q7, hR⟩ := id k
  obtain ⟨k1, k2, k3, k4, k5, k6, k7, k8, k9, k10⟩ := id hk
  obtain ⟨l1, l2, l3, l4, l5, l6⟩ := id l
  obtain ⟨v0, v1, v2, v3, v4, v5, v6, vs, vo, vj⟩ := id k8
  have l0 := l1.sw (a := 105) (k := 0) (v := 0) (by decide)
  by_cases e : ∃ i, i < F 1 ∧ x = nI i
  · obtain ⟨i, hi, rfl⟩ := e
    obtain ⟨c1, c2⟩ := c_unload k hi
    obtain ⟨a1, a2⟩ := c_act k c2
    have hvc : VC F (unS F C i).2 := VC.un k8 hi k10
    by_cases y0 : (unS F C i).1 = 0
    · obtain ⟨T1, fs', t1, t2, t3, t4⟩ := a1 y0
      obtain ⟨U, u1, u2, u3, u4, u5⟩ := l.stores
      obtain ⟨d1, d2, d3, d4, d5, d6⟩ := l.done u4 u5 hvc
      refine ⟨0, T1, setM U (F 2) (unS F C i).2, (unS F C i).2, phN n, phH n H C, by rw [c1, t1, bd2_some], ?_, ⟨fs', t2, t3, t4⟩, d1, d2, d3, d4, d5, d6⟩
      unfold pX12_unload
      simp only [lt]
      have hwy := m_whyUnloadS l1.1 l0.2.1 k8 hi C
      rw [l0.2.2.2.2.self, y0] at hwy
      have hto := m_takesOutS l1.1 u2 k8 hi C
      rw [u3] at hto
      have hg : (unS F C i).2 = dropS F (uC (uC C 1 (C 1 &&& ((1 <<< (nI i &&& 31)) ^^^ (-1 : Int32)))) 2 (C 2 ||| jaS F i)) (F (12 + i)) := by
        unfold unS at y0 ⊢
        by_cases z1 : bt (C 1) i = false
        · rw [if_pos z1] at y0; exact absurd y0 (by first | exact n10 | exact n20 | exact n30)
        · rw [if_neg z1] at y0 ⊢
          by_cases z2 : C (4 + F (12 + i)) < 2
          · rw [if_pos z2]
          · rw [if_neg z2] at y0; exact absurd y0 (by first | exact n10 | exact n20 | exact n30)
      rw [l0.isI1 hi, bd1_some, if10, hwy, bd1_some, if_pos (by decide), u1, bd1_some, hto, bd1_some, hg]
    · refine ⟨(unS F C i).1, setC T 10 (unS F C i).2, wI T' 105 0 0, C, n, H, by rw [c1, a2 y0, bd2_some], ?_, k.no l rfl⟩
      unfold pX12_unload
      simp only [lt]
      have hwy := m_whyUnloadS l1.1 l0.2.1 k8 hi C
      rw [l0.2.2.2.2.self] at hwy
      have hpos : ¬ (unS F C i).1 ≤ 0 := by
        intro z
        unfold unS at y0 z
        by_cases z1 : bt (C 1) i = false
        · rw [if_pos z1] at z; exact absurd z (by first | exact l10 | exact l20 | exact l30)
        · rw [if_neg z1] at y0 z
          by_cases z2 : C (4 + F (12 + i)) < 2
          · rw [if_pos z2] at y0; exact y0 rfl
          · rw [if_neg z2] at z; exact absurd z (by first | exact l10 | exact l20 | exact l30)
      rw [l0.isI1 hi, bd1_some, if10, hwy, bd1_some, if_neg hpos]
  · refine ⟨-1, T, wI T' 105 0 0, C, n, H, ?_, ?_, k.nothing l rfl⟩
    · unfold pX11_unload
      rw [k3, hk.hasI0 e, bd1_some, if00]
    · unfold pX12_unload
      simp only [lt]
      rw [l0.isI0 e, bd1_some, if00]
theorem k_load {R : Rf} {T T' : Mm} {f : Nat} {F : Nat → Nat} {C : Nat → Int32} {n fs : Nat} {H : Nat → Nat → Int32} (k : KQ R T f F C n fs H) (l : LQ R T' F C n H) (x : Int32) : ∃ a T1 V C' n' H', pX11_load R T 0 x = some (a, T1) ∧ pX12_load R T' 105 x = some (a, V) ∧ OUT F T T1 T' V C' n' H' := by
  obtain ⟨hk, hp, q2, q3, q10, q7, hR⟩ := id k
  obtain ⟨k1, k2, k3, k4, k5, k6, k7, k8, k9, k10⟩ := id hk
  obtain ⟨l1, l2, l3, l4, l5, l6⟩ := id l
  obtain ⟨v0, v1, v2, v3, v4, v5, v6, vs, vo, vj⟩ := id k8
  have l0 := l1.sw (a := 105) (k := 0) (v := 0) (by decide)
  by_cases e : ∃ i, i < F 1 ∧ x = nI i
  · obtain ⟨i, hi, rfl⟩ := e
    obtain ⟨c1, c2⟩ := c_load k hi
    obtain ⟨a1, a2⟩ := c_act k c2
    have hvc : VC F (ldS F C i).2 := VC.ld k8 hi k10
    by_cases y0 : (ldS F C i).1 = 0
    · obtain ⟨T1, fs', t1, t2, t3, t4⟩ := a1 y0
      obtain ⟨U, u1, u2, u3, u4, u5⟩ := l.stores
      obtain ⟨d1, d2, d3, d4, d5, d6⟩ := l.done u4 u5 hvc
      refine ⟨0, T1, setM U (F 2) (ldS F C i).2, (ldS F C i).2, phN n, phH n H C, by rw [c1, t1, bd2_some], ?_, ⟨fs', t2, t3, t4⟩, d1, d2, d3, d4, d5, d6⟩
      unfold pX12_load
      simp only [lt]
      have hwy := m_whyLoadS l1.1 l0.2.1 k8 hi C
      rw [l0.2.2.2.2.self, y0] at hwy
      have hg : (ldS F C i).2 = uC C 1 (C 1 ||| (1 <<< (nI i &&& 31))) := by
        unfold ldS at y0 ⊢
        by_cases z1 : bt (C 1) i = false
        · rw [if_pos z1] at y0 ⊢
          by_cases z2 : C (4 + F (12 + i)) = 0
          · rw [if_pos z2]
          · rw [if_neg z2] at y0; exact absurd y0 (by first | exact n10 | exact n20 | exact n30)
        · rw [if_neg z1] at y0; exact absurd y0 (by first | exact n10 | exact n20 | exact n30)
      have e81 : U.1 107 81 = C 1 := by rw [← u3]; exact setM_1
      have hw : wI U 107 81 (C 1 ||| (1 <<< (nI i &&& 31))) = setM U (F 2) (uC C 1 (C 1 ||| (1 <<< (nI i &&& 31)))) := by
        have := setM_w1 (T := U) (n := F 2) (C := C) (v := C 1 ||| (1 <<< (nI i &&& 31)))
        rwa [u3] at this
      rw [l0.isI1 hi, bd1_some, if10, hwy, bd1_some, if_pos (by decide), u1, bd1_some]
      simp (disch := omega) only [lt, jn, bd1_some, bd2_some, ix_nI, ix_lit, nI_clamp, lit_clamp, lit_add, add_lit, nI_add, nI_leI, nI_ltI, nI_eq, lit_le, le_lit, lit_lt, lt_lit, lit_eq, eq_lit, if_pos, if_neg, l1.1, e81]
      rw [hw, hg]
    · refine ⟨(ldS F C i).1, setC T 10 (ldS F C i).2, wI T' 105 0 0, C, n, H, by rw [c1, a2 y0, bd2_some], ?_, k.no l rfl⟩
      unfold pX12_load
      simp only [lt]
      have hwy := m_whyLoadS l1.1 l0.2.1 k8 hi C
      rw [l0.2.2.2.2.self] at hwy
      have hpos : ¬ (ldS F C i).1 ≤ 0 := by
        intro z
        unfold ldS at y0 z
        by_cases z1 : bt (C 1) i = false
        · rw [if_pos z1] at y0 z
          by_cases z2 : C (4 + F (12 + i)) = 0
          · rw [if_pos z2] at y0; exact y0 rfl
          · rw [if_neg z2] at z; exact absurd z (by first | exact l10 | exact l20 | exact l30)
        · rw [if_neg z1] at z; exact absurd z (by first | exact l10 | exact l20 | exact l30)
      rw [l0.isI1 hi, bd1_some, if10, hwy, bd1_some, if_neg hpos]
  · refine ⟨-1, T, wI T' 105 0 0, C, n, H, ?_, ?_, k.nothing l rfl⟩
    · unfold pX11_load
      rw [k3, hk.hasI0 e, bd1_some, if00]
    · unfold pX12_load
      simp only [lt]
      rw [l0.isI0 e, bd1_some, if00]
theorem k_bind {R : Rf} {T T' : Mm} {f : Nat} {F : Nat → Nat} {C : Nat → Int32} {n fs : Nat} {H : Nat → Nat → Int32} (k : KQ R T f F C n fs H) (l : LQ R T' F C n H) (x : Int32) : ∃ a T1 V C' n' H', pX11_bind R T 0 x = some (a, T1) ∧ pX12_bind R T' 105 x = some (a, V) ∧ OUT F T T1 T' V C' n' H' := by
  obtain ⟨hk, hp, q2, q3, q10, q7, hR⟩ := id k
  obtain ⟨k1, k2, k3, k4, k5, k6, k7, k8, k9, k10⟩ := id hk
  obtain ⟨l1, l2, l3, l4, l5, l6⟩ := id l
  obtain ⟨v0, v1, v2, v3, v4, v5, v6, vs, vo, vj⟩ := id k8
  have l0 := l1.sw (a := 105) (k := 0) (v := 0) (by decide)
  by_cases e : ∃ i, i < F 2 ∧ x = nI i
  · obtain ⟨i, hi, rfl⟩ := e
    obtain ⟨c1, c2⟩ := c_bind k hi
    obtain ⟨a1, a2⟩ := c_act k c2
    have hvc : VC F (bdS F C i).2 := VC.bd k8 hi k10
    by_cases y0 : (bdS F C i).1 = 0
    · obtain ⟨T1, fs', t1, t2, t3, t4⟩ := a1 y0
      obtain ⟨U, u1, u2, u3, u4, u5⟩ := l.stores
      obtain ⟨d1, d2, d3, d4, d5, d6⟩ := l.done u4 u5 hvc
      refine ⟨0, T1, setM U (F 2) (bdS F C i).2, (bdS F C i).2, phN n, phH n H C, by rw [c1, t1, bd2_some], ?_, ⟨fs', t2, t3, t4⟩, d1, d2, d3, d4, d5, d6⟩
      unfold pX12_bind
      simp only [lt]
      have hwy := m_whyBindS l1.1 l0.2.1 k8 hi C
      rw [l0.2.2.2.2.self, y0] at hwy
      have hg : (bdS F C i).2 = uC C 2 (C 2 &&& ((1 <<< (nI i &&& 31)) ^^^ (-1 : Int32))) := by
        unfold bdS at y0 ⊢
        by_cases z1 : bt (C 2) i = false
        · rw [if_pos z1] at y0; exact absurd y0 (by first | exact n10 | exact n20 | exact n30)
        · rw [if_neg z1] at y0 ⊢
          by_cases z2 : bt (C 1) (F (32 + i)) = false
          · rw [if_pos z2] at y0; exact absurd y0 (by first | exact n10 | exact n20 | exact n30)
          · rw [if_neg z2] at y0 ⊢
            by_cases z3 : bt (C 1) (F (48 + i)) = false
            · rw [if_pos z3] at y0; exact absurd y0 (by first | exact n10 | exact n20 | exact n30)
            · rw [if_neg z3] at y0 ⊢
              by_cases z4 : C (4 + F (12 + F (32 + i))) = 0
              · rw [if_pos z4]
              · rw [if_neg z4] at y0; exact absurd y0 (by first | exact n10 | exact n20 | exact n30)
      have e82 : U.1 107 82 = wh (F 2) (C 2) := by rw [← u3]; exact setM_2
      have hw : wI U 107 82 (wh (F 2) (C 2) ||| (1 <<< (nI i &&& 31))) = setM U (F 2) (uC C 2 (C 2 &&& ((1 <<< (nI i &&& 31)) ^^^ (-1 : Int32)))) := by
        have := setM_w2 (T := U) (n := F 2) (C := C) (C 2 &&& (((1 : Int32) <<< (nI i &&& 31)) ^^^ (-1 : Int32))) (wh_clr (by omega) hi)
        rwa [u3] at this
      rw [l0.isJ1 hi, bd1_some, if10, hwy, bd1_some, if_pos (by decide), u1, bd1_some]
      simp (disch := omega) only [lt, jn, bd1_some, bd2_some, ix_nI, ix_lit, nI_clamp, lit_clamp, lit_add, add_lit, nI_add, nI_leI, nI_ltI, nI_eq, lit_le, le_lit, lit_lt, lt_lit, lit_eq, eq_lit, if_pos, if_neg, l1.1, e82]
      rw [hw, hg]
    · refine ⟨(bdS F C i).1, setC T 10 (bdS F C i).2, wI T' 105 0 0, C, n, H, by rw [c1, a2 y0, bd2_some], ?_, k.no l rfl⟩
      unfold pX12_bind
      simp only [lt]
      have hwy := m_whyBindS l1.1 l0.2.1 k8 hi C
      rw [l0.2.2.2.2.self] at hwy
      have hpos : ¬ (bdS F C i).1 ≤ 0 := by
        intro z
        unfold bdS at y0 z
        by_cases z1 : bt (C 2) i = false
        · rw [if_pos z1] at z; exact absurd z (by first | exact l10 | exact l20 | exact l30)
        · rw [if_neg z1] at y0 z
          by_cases z2 : bt (C 1) (F (32 + i)) = false
          · rw [if_pos z2] at z; exact absurd z (by first | exact l10 | exact l20 | exact l30)
          · rw [if_neg z2] at y0 z
            by_cases z3 : bt (C 1) (F (48 + i)) = false
            · rw [if_pos z3] at z; exact absurd z (by first | exact l10 | exact l20 | exact l30)
            · rw [if_neg z3] at y0 z
              by_cases z4 : C (4 + F (12 + F (32 + i))) = 0
              · rw [if_pos z4] at y0; exact y0 rfl
              · rw [if_neg z4] at z; exact absurd z (by first | exact l10 | exact l20 | exact l30)
      rw [l0.isJ1 hi, bd1_some, if10, hwy, bd1_some, if_neg hpos]
  · refine ⟨-1, T, wI T' 105 0 0, C, n, H, ?_, ?_, k.nothing l rfl⟩
    · unfold pX11_bind
      rw [k3, hk.hasJ0 e, bd1_some, if00]
    · unfold pX12_bind
      simp only [lt]
      rw [l0.isJ0 e, bd1_some, if00]
