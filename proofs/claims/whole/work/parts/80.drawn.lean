/-! days drawn, whole; odds -/
theorem goS_0 {F : Nat → Nat} {C : Nat → Int32} {p : Nat} : (goS F C p).2 0 = C 0 := by
  unfold goS
  by_cases e : C (4 + p) = 0
  · rw [if_pos e]
    show dropS F (uC C (4 + p) 1) p 0 = _
    rw [dropS_0, uC_n (by omega)]
  · rw [if_neg e]
theorem frS_0 {C : Nat → Int32} {p : Nat} : (frS C p).2 0 = C 0 := by
  unfold frS
  by_cases e : C (4 + p) = 2
  · rw [if_pos e]
    show uC C (4 + p) 3 0 = _
    rw [uC_n (by omega)]
  · rw [if_neg e]
theorem unS_0 {F : Nat → Nat} {C : Nat → Int32} {i : Nat} : (unS F C i).2 0 = C 0 := by
  unfold unS
  by_cases e : bt (C 1) i = false
  · rw [if_pos e]
  · rw [if_neg e]
    by_cases e2 : C (4 + F (12 + i)) < 2
    · rw [if_pos e2]
      show dropS F _ _ 0 = _
      rw [dropS_0, uC_n (by omega), uC_n (by omega)]
    · rw [if_neg e2]
theorem ldS_0 {F : Nat → Nat} {C : Nat → Int32} {i : Nat} : (ldS F C i).2 0 = C 0 := by
  unfold ldS
  by_cases e : bt (C 1) i = false
  · rw [if_pos e]
    by_cases e2 : C (4 + F (12 + i)) = 0
    · rw [if_pos e2]
      dsimp only
      rw [uC_n (by decide)]
    · rw [if_neg e2]
  · rw [if_neg e]
theorem bdS_0 {F : Nat → Nat} {C : Nat → Int32} {j : Nat} : (bdS F C j).2 0 = C 0 := by
  unfold bdS
  by_cases e : bt (C 2) j = false
  · rw [if_pos e]
  · rw [if_neg e]
    by_cases e1 : bt (C 1) (F (32 + j)) = false
    · rw [if_pos e1]
    · rw [if_neg e1]
      by_cases e2 : bt (C 1) (F (48 + j)) = false
      · rw [if_pos e2]
      · rw [if_neg e2]
        by_cases e3 : C (4 + F (12 + F (32 + j))) = 0
        · rw [if_pos e3]
          dsimp only
          rw [uC_n (by decide)]
        · rw [if_neg e3]
theorem dpS_ok {F : Nat → Nat} (hv : VF F) {p : Nat} {s : Int32 × (Nat → Int32)} (h : VC F s.2) : VC F (dpS F p s).2 ∧ (dpS F p s).2 0 = s.2 0 := by
  unfold dpS
  dsimp only
  by_cases e : rdS (nxS s.1) 8 = 0
  · rw [if_pos e]; exact ⟨VC.go hv h, goS_0⟩
  · rw [if_neg e]
    by_cases e1 : rdS (nxS s.1) 8 = 1
    · rw [if_pos e1]; exact ⟨VC.fr h, frS_0⟩
    · rw [if_neg e1]; exact ⟨h, rfl⟩
theorem diS_ok {F : Nat → Nat} (hv : VF F) {s : Int32 × (Nat → Int32)} (h : VC F s.2) : VC F (diS F s).2 ∧ (diS F s).2 0 = s.2 0 := by
  unfold diS
  by_cases e : rdS (nxS s.1) 4 = 0 ∧ 0 < F 1
  · rw [if_pos e]
    dsimp only
    have hi := rdS_lt (x := nxS (nxS s.1)) e.2
    by_cases e2 : bt (s.2 1) (rdS (nxS (nxS s.1)) (F 1)) = false
    · rw [if_pos e2]; exact ⟨VC.ld hv hi h, ldS_0⟩
    · rw [if_neg e2]; exact ⟨VC.un hv hi h, unS_0⟩
  · rw [if_neg e]
    by_cases e1 : rdS (nxS s.1) 4 = 1 ∧ 0 < F 2
    · rw [if_pos e1]
      exact ⟨VC.bd hv (rdS_lt e1.2) h, bdS_0⟩
    · rw [if_neg e1]; exact ⟨h, rfl⟩
theorem dps_ok {F : Nat → Nat} (hv : VF F) : ∀ (k i : Nat) (s : Int32 × (Nat → Int32)), VC F s.2 → VC F (fo (fun p s => dpS F p s) i k s).2 ∧ (fo (fun p s => dpS F p s) i k s).2 0 = s.2 0
  | 0, _, _, h => ⟨h, rfl⟩
  | k + 1, i, s, h => by
    have h1 := dpS_ok hv (p := i) h
    have h2 := dps_ok hv k (i + 1) (dpS F i s) h1.1
    exact ⟨h2.1, h2.2.trans h1.2⟩
theorem ddS_ok {F : Nat → Nat} (hv : VF F) {s : Int32 × (Nat → Int32)} {d : Nat} (h : VC F s.2) (hd : s.2 0 = nI d) (hd2 : d < 400) : VC F (ddS F s).2 ∧ (ddS F s).2 0 = nI (d + 1) := by
  have h1 := dps_ok hv (F 0) 0 s h
  have h2 := diS_ok hv h1.1
  unfold ddS
  dsimp only
  have h3 : (diS F (fo (fun p s => dpS F p s) 0 (F 0) s)).2 0 = nI d := by rw [h2.2, h1.2, hd]
  exact ⟨VC.day hv h2.1 h3 hd2, by rw [dayS_0, h3, nI_1]⟩
theorem drS_ok {F : Nat → Nat} (hv : VF F) : ∀ (k i d : Nat) (s : Int32 × (Nat → Int32)), VC F s.2 → s.2 0 = nI d → d + k ≤ 400 → VC F (fo (fun _ s => ddS F s) i k s).2 ∧ (fo (fun _ s => ddS F s) i k s).2 0 = nI (d + k)
  | 0, _, _, _, h, hd, _ => ⟨h, hd⟩
  | k + 1, i, d, s, h, hd, hk => by
    have h1 := ddS_ok hv h hd (by omega)
    have h2 := drS_ok hv k (i + 1) (d + 1) (ddS F s) h1.1 h1.2 (by omega)
    exact ⟨h2.1, by rw [show d + (k + 1) = d + 1 + k by omega]; exact h2.2⟩
theorem c_live {R : Rf} {T : Mm} {f c : Nat} {F : Nat → Nat} {C : Nat → Int32} (hF : CF R T f F) (hv : VF F) (hc : R c 4 = c + 1) (hd : c + 1 < f ∨ f + 8 < c) (h1 : 42 ≠ c) (h2 : 42 ≠ c + 1) (h3 : 42 < f) (hC : CC T c C) (hvc : VC F C) {n d : Nat} (hn : n ≤ 60) (hd4 : d ≤ 400) (ed : C 0 = nI d) (seed : Int32) : pX2_live R T 42 f c (nI n) seed = some (nI (min n (400 - d)), emC T c (drS F (min n (400 - d)) (seed, C))) := by
  unfold pX2_live
  simp only [lt]
  have e0 : wI T 42 0 seed = emC T c (seed, C) := by
    unfold emC
    exact (CC.self (hC.of (by rw [wI_1, up2_row (fun z => h1 z.symm)]) (by rw [wI_1, up2_row (fun z => h2 z.symm)]))).symm
  rw [e0]
  refine zl2_forI (f := pX2_live_9 R 42 f c (nI n) seed (pX2_live_37 R 42 f c (nI n) seed)) (fun s => emC T c s) (fun _ s => ddS F s) (fun s => some (nI (min n (400 - d)), emC T c s)) (min n (400 - d)) (fun i s => VC F s.2 ∧ s.2 0 = nI (d + i)) (by omega) ?_ ?_ ?_ (seed, C) ⟨hvc, ed⟩
  · intro i s hi hP
    exact ddS_ok (d := d + i) hv hP.1 hP.2 (by omega)
  · intro r i s hi hP
    unfold pX2_live_9
    have ec : (emC T c s).1 c 0 = nI (d + i) := by
      unfold emC
      rw [setC_c (by decide), hP.2]
    rw [ec]
    simp (disch := omega) only [lt, jn, bd1_some, bd2_some, ix_nI, ix_lit, nI_clamp, lit_clamp, lit_add, add_lit, nI_add, nI_leI, nI_ltI, nI_eq, lit_le, le_lit, lit_lt, lt_lit, lit_eq, eq_lit, if_pos, if_neg]
    rw [c_liveDay hF hv hc hd h1 h2 h3, bd1_some]
  · intro r s hP
    unfold pX2_live_9 pX2_live_37
    have ec : (emC T c s).1 c 0 = nI (d + min n (400 - d)) := by
      unfold emC
      rw [setC_c (by decide), hP.2]
    rw [ec]
    simp (disch := omega) only [lt, jn, bd1_some, bd2_some, ix_nI, ix_lit, nI_clamp, lit_clamp, lit_add, add_lit, nI_add, nI_leI, nI_ltI, nI_eq, lit_le, le_lit, lit_lt, lt_lit, lit_eq, eq_lit, if_pos, if_neg]
    by_cases z : n ≤ min n (400 - d)
    · rw [if_pos z]
    · rw [if_neg z]
theorem m_draws {R : Rf} {T : Mm} {F : Nat → Nat} {C : Nat → Int32} (l : LV R T F C) {n d : Nat} (hn : n ≤ 60) (hd4 : d ≤ 400) (ed : C 0 = nI d) (seed : Int32) : pX12_draws R T 105 (nI n) seed = some (nI (min n (400 - d)), emM T (F 2) (drS F (min n (400 - d)) (seed, C))) := by
  obtain ⟨l1, l2, l3, l4, l5⟩ := id l
  obtain ⟨v0, v1, v2, v3, v4, v5, v6, vs, vo, vj⟩ := id l3
  unfold pX12_draws
  simp only [lt]
  have e0 : wI T 105 36 seed = emM T (F 2) (seed, C) := by
    unfold emM
    exact (MC.self (l5.of (fun j _ _ => wI_n (Or.inl (by decide))))).symm
  have hM' : ∀ x, MF (wI T 105 36 x) F := fun x => l2.sw (by decide)
  rw [e0]
  refine zl2_forI (f := pX12_draws_7 R 105 (nI n) seed (pX12_draws_65 R 105 (nI n) seed)) (fun s => emM T (F 2) s) (fun _ s => ddS F s) (fun s => some (nI (min n (400 - d)), emM T (F 2) s)) (min n (400 - d)) (fun i s => VC F s.2 ∧ s.2 0 = nI (d + i)) (by omega) ?_ ?_ ?_ (seed, C) ⟨l4, ed⟩
  · intro i s hi hP
    exact ddS_ok (d := d + i) l3 hP.1 hP.2 (by omega)
  · intro r i s hi hP
    unfold pX12_draws_7
    have ec : (emM T (F 2) s).1 107 80 = nI (d + i) := by
      unfold emM
      rw [setM_0, hP.2]
    simp (disch := omega) only [lt, jn, bd1_some, bd2_some, ix_nI, ix_lit, nI_clamp, lit_clamp, lit_add, add_lit, nI_add, nI_leI, nI_ltI, nI_eq, lit_le, le_lit, lit_lt, lt_lit, lit_eq, eq_lit, if_pos, if_neg, l1, ec]
    have inner := zl3_fr (f := pX12_draws_28 R 105 (nI n) seed (pX12_draws_51 R 105 (nI n) seed r (pX12_draws_65 R 105 (nI n) seed))) (fun s => emM T (F 2) s) (fun _ => nI i) (fun p s => dpS F p s) (fun s => pX12_draws_51 R 105 (nI n) seed r (pX12_draws_65 R 105 (nI n) seed) (emM T (F 2) s) (nI i)) 0 (F 0) (fun _ _ => True) (by omega) (by omega) (fun _ _ _ _ _ => trivial) ?_ ?_ s trivial
    · have inner2 : zl3 (pX12_draws_28 R 105 (nI n) seed (pX12_draws_51 R 105 (nI n) seed r (pX12_draws_65 R 105 (nI n) seed))) FU (emM T (F 2) s) (nI i) 0 = pX12_draws_51 R 105 (nI n) seed r (pX12_draws_65 R 105 (nI n) seed) (emM T (F 2) (fo (fun p s => dpS F p s) 0 (F 0) s)) (nI i) := inner
      rw [inner2]
      unfold pX12_draws_51
      rw [m_drawItemS l1 l2 l3, bd1_some]
      have hday := m_dayS l1 (hM' (diS F (fo (fun p s => dpS F p s) 0 (F 0) s)).1) l3 (diS F (fo (fun p s => dpS F p s) 0 (F 0) s)).2
      have hday2 : pX12_day R (emM T (F 2) (diS F (fo (fun p s => dpS F p s) 0 (F 0) s))) 105 = some (emM T (F 2) (ddS F s)) := hday
      rw [hday2, bd1_some]
      simp only [lt, nI_1]
    · intro r' p s' _ hp _
      unfold pX12_draws_28
      have e107 : (emM T (F 2) s').1 107 0 = nI (F 0) := (hM' s'.1).sM 0 (by decide)
      simp (disch := omega) only [lt, jn, bd1_some, bd2_some, ix_nI, ix_lit, nI_clamp, lit_clamp, lit_add, add_lit, nI_add, nI_leI, nI_ltI, nI_eq, lit_le, le_lit, lit_lt, lt_lit, lit_eq, eq_lit, if_pos, if_neg, l1, e107]
      rw [m_drawPersonS l1 l2 l3 hp, bd1_some]
    · intro r' s' _
      unfold pX12_draws_28
      have e107 : (emM T (F 2) s').1 107 0 = nI (F 0) := (hM' s'.1).sM 0 (by decide)
      simp (disch := omega) only [lt, jn, bd1_some, bd2_some, ix_nI, ix_lit, nI_clamp, lit_clamp, lit_add, add_lit, nI_add, nI_leI, nI_ltI, nI_eq, lit_le, le_lit, lit_lt, lt_lit, lit_eq, eq_lit, if_pos, if_neg, l1, e107]
  · intro r s hP
    unfold pX12_draws_7 pX12_draws_65
    have ec : (emM T (F 2) s).1 107 80 = nI (d + min n (400 - d)) := by
      unfold emM
      rw [setM_0, hP.2]
    simp (disch := omega) only [lt, jn, bd1_some, bd2_some, ix_nI, ix_lit, nI_clamp, lit_clamp, lit_add, add_lit, nI_add, nI_leI, nI_ltI, nI_eq, lit_le, le_lit, lit_lt, lt_lit, lit_eq, eq_lit, if_pos, if_neg, l1, ec]
    by_cases z : n ≤ min n (400 - d)
    · rw [if_pos z]
    · rw [if_neg z]
theorem k_drawn {R : Rf} {T T' : Mm} {f : Nat} {F : Nat → Nat} {C : Nat → Int32} {n fs : Nat} {H : Nat → Nat → Int32} (k : KQ R T f F C n fs H) (l : LQ R T' F C n H) (x seed : Int32) : ∃ a T1 V C' n' H', pX11_drawn R T 0 x seed = some (a, T1) ∧ pX12_drawn R T' 105 x seed = some (a, V) ∧ OUT F T T1 T' V C' n' H' := by
  obtain ⟨hk, hp, q2, q3, q10, q7, hR⟩ := id k
  obtain ⟨k1, k2, k3, k4, k5, k6, k7, k8, k9, k10⟩ := id hk
  obtain ⟨l1, l2, l3, l4, l5, l6⟩ := id l
  have l0 := l1.sw (a := 105) (k := 0) (v := 0) (by decide)
  obtain ⟨d, hd, ed⟩ := k10.1
  have e80 : (wI T' 105 0 0).1 107 80 = nI d := by rw [l0.2.2.2.2.1, ed]
  unfold pX11_drawn pX12_drawn
  simp only [lt]
  rw [m_isInG, bd1_some]
  by_cases e : (1 : Int32) ≤ x ∧ x ≤ 60
  · obtain ⟨m, hm1, hm2, rfl⟩ := nI_between (a := 1) (b := 60) (by decide) (by decide) e.1 e.2
    rw [if_neg (Int32.not_lt.mpr e.1), if_pos e.2, if_pos e, if10, k1, k9.1 0 (by decide), ed]
    unfold pX12_drawn_34
    simp (disch := omega) only [lt, jn, bd1_some, bd2_some, ix_nI, ix_lit, nI_clamp, lit_clamp, lit_add, add_lit, nI_add, nI_leI, nI_ltI, nI_eq, lit_le, le_lit, lit_lt, lt_lit, lit_eq, eq_lit, if_pos, if_neg, l1.1, e80]
    by_cases e4 : d = 400
    · rw [if_neg (by omega), if_pos (by omega), m_draws l0 hm2 hd ed, bd2_some]
      have hz : min m (400 - d) = 0 := by omega
      rw [hz]
      refine ⟨0, T, _, C, n, H, rfl, rfl, ?_⟩
      have hV : emM (wI T' 105 0 0) (F 2) (drS F 0 (seed, C)) = wI (wI T' 105 0 0) 105 36 seed := by
        show setM (wI (wI T' 105 0 0) 105 36 seed) (F 2) C = _
        exact MC.self ((l0.sw (a := 105) (k := 36) (v := seed) (by decide)).2.2.2.2)
      rw [hV]
      refine ⟨⟨fs, k9, hp, Fr.refl⟩, (l0.sw (by decide)).2.2.2.2, ?_, FA.w0.trans FA.w36, k10, l5, l6⟩
      exact ⟨by rw [wI_n (Or.inr (by decide)), wI_n (Or.inr (by decide)), l2.1], fun k hk i hi => by rw [wI_n (Or.inl (by decide)), wI_n (Or.inl (by decide))]; exact l2.2 k hk i hi⟩
    · obtain ⟨T1, fs', t1, t2, t3⟩ := c_push hR k5 hp k9
      obtain ⟨U, u1, u2, u3, u4, u5⟩ := l.stores
      have hT8 : ∀ a, a < 12 ∨ 29 < a → T1.1 a = T.1 a := fun a ha => (t3 a (by unfold S12; omega)).1
      have hC1 : CC T1 8 C := k9.of (hT8 8 (by omega)) (hT8 9 (by omega))
      have hF1 : CF R T1 f F := k7.of (fun a h1 h2 => hT8 a (by omega))
      have lU : LV R U F C := ⟨l1.1, u2, k8, k10, by rw [← u3]; exact MC.sM⟩
      rw [if_pos (by omega), if_neg (by omega), q3, t1, bd1_some, u1, bd1_some, m_draws lU hm2 hd ed, bd2_some, q7, k3, c_live hF1 k8 k5 (by omega) (by decide) (by decide) (by omega) hC1 k10 hm2 hd ed, bd2_some]
      have hok := drS_ok k8 (min m (400 - d)) 0 d (seed, C) k10 ed (by omega)
      have hok1 : VC F (drS F (min m (400 - d)) (seed, C)).2 := hok.1
      refine ⟨_, _, _, (drS F (min m (400 - d)) (seed, C)).2, phN n, phH n H C, rfl, rfl, ⟨fs', CC.sC, ?_, ?_⟩, MC.sM, ?_, ?_, hok1, phN_le l5, phH_vc l5 l6 k10⟩
      · exact t2.of (fun a ha => by unfold emC; rw [setC_o (by omega) (by omega), wI_1, up2_row (by omega)])
      · exact ((t3.mono (fun a ha => by unfold S12 at ha; unfold SA; omega)).sw (by unfold SA; omega)).sC (by unfold SA; omega) (by unfold SA; omega)
      · exact PM.sM ⟨by rw [wI_n (Or.inr (by decide)), u4.1], fun k hk i hi => by rw [wI_n (Or.inl (by decide))]; exact u4.2 k hk i hi⟩
      · exact (u5.trans FA.w36).trans FA.sM
  · rw [if_neg e, if00]
    have hcl : (if x < 1 then some ((-1 : Int32), T) else if x ≤ 60 then if (T.1 (R 0 1) 0) < 400 then bd1 (pX7_push R T (R 0 3) (R 0 1)) (fun (T1 : Mm) => bd2 (pX2_live R T1 (R 0 7) (R 0 11) (R 0 1) x seed) (fun (u2 : Int32) (T2 : Mm) => some (u2, T2))) else some (0, T) else some ((-1), T)) = some (-1, T) := by
      by_cases z : x < 1
      · rw [if_pos z]
      · rw [if_neg z, if_neg (fun z2 => e ⟨Int32.not_lt.mp z, z2⟩)]
    rw [hcl]
    exact ⟨-1, T, wI T' 105 0 0, C, n, H, rfl, rfl, k.nothing l rfl⟩
