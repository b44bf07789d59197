/-! odds, whole -/
noncomputable def odc (F : Nat → Nat) (C : Nat → Int32) (d p : Nat) (seed : Int32) (i : Nat) : Bool := !decide ((drS F (min 20 (400 - d)) (seed + nI i, C)).2 (4 + p) < 2) && decide (paS F (wh (F 2) ((drS F (min 20 (400 - d)) (seed + nI i, C)).2 2)) (brl F (drS F (min 20 (400 - d)) (seed + nI i, C)).2 p) = 1)
theorem CC.fr {S : Nat → Prop} {T T' : Mm} {c : Nat} {C : Nat → Int32} (h : CC T c C) (hf : Fr S T T') (h1 : ¬ S c) (h2 : ¬ S (c + 1)) : CC T' c C := h.of (hf c h1).1 (hf (c + 1) h2).1
def S10 (a : Nat) : Prop := a = 10 ∨ a = 11 ∨ a = 34 ∨ a = 42
theorem c_odds1 {R : Rf} {T : Mm} {f : Nat} {F : Nat → Nat} {C : Nat → Int32} {n fs : Nat} {H : Nat → Nat → Int32} (k : KQ R T f F C n fs H) {p d m : Nat} (hp : p < F 0) (hm1 : 1 ≤ m) (hm : m ≤ 30) (hd : d ≤ 400) (ed : C 0 = nI d) (seed : Int32) : ∃ T1, pX11_odds R T 0 (nI p) (nI m) seed = some (nI (cnt (odc F C d p seed) m), T1) ∧ Fr S10 T T1 := by
  obtain ⟨hk, hpp, q2, q3, q10, q7, hR⟩ := id k
  obtain ⟨k1, k2, k3, k4, k5, k6, k7, k8, k9, k10⟩ := id hk
  have v0 := k8.1
  unfold pX11_odds
  rw [k3, hk.hasP1 hp, bd1_some, if10, if_neg (show ¬ nI m < 1 from nI_nlt (b := 1) hm1 (by omega)), if_pos (show nI m ≤ 30 from nI_le (b := 30) hm (by decide))]
  refine zl3_wp (f := pX11_odds_30 R 0 (nI p) (nI m) seed (pX11_odds_111 R 0 (nI p) (nI m) seed)) (P := fun q U x4 x5 => ∃ i, x5 = nI i ∧ i + q = m ∧ Fr S10 T U ∧ x4 = nI (cnt (odc F C d p seed) i)) (Q := fun z => ∃ T1, z = some (nI (cnt (odc F C d p seed) m), T1) ∧ Fr S10 T T1) ?_ FU m T 0 0 (by rw [FU_eq]; omega) ⟨0, rfl, by omega, Fr.refl, rfl⟩
  rintro q r U x4 x5 ⟨i, rfl, hi, hfr, rfl⟩ hr
  unfold pX11_odds_30 pX11_odds_111
  by_cases e : i < m
  · have hC : CC U 8 C := k9.fr hfr (by unfold S10; omega) (by unfold S10; omega)
    have hF : CF R U f F := k7.of (fun a h1 h2 => (hfr a (by unfold S10; omega)).1)
    have hF2 : CF R (setC U 10 C) f F := hF.sC (by omega)
    have hl := c_live (c := 10) hF2 k8 q10 (by omega) (by decide) (by decide) (by omega) CC.sC k10 (n := 20) (by decide) hd ed (seed + nI i)
    rw [if_neg (nI_ge e (by omega)), q2, k1, c_copy q10 k5 (by decide) hC, bd1_some, q7, k3, show (20 : Int32) = nI 20 from rfl, hl, bd2_some, ix_nI (by omega) (by decide), nI_clamp (by omega), q10]
    have hcs := cnt_succ (odc F C d p seed) i
    have hok := (drS_ok k8 (min 20 (400 - d)) 0 d (seed + nI i, C) k10 ed (by omega)).1
    have hok1 : VC F (drS F (min 20 (400 - d)) (seed + nI i, C)).2 := hok
    generalize hD : (drS F (min 20 (400 - d)) (seed + nI i, C)) = D at *
    have hod : odc F C d p seed i = (!decide (D.2 (4 + p) < 2) && decide (paS F (wh (F 2) (D.2 2)) (brl F D.2 p) = 1)) := by
      unfold odc
      rw [hD]
    have hE : (emC (setC U 10 C) 10 D).1 11 p = D.2 (4 + p) := by
      unfold emC
      exact setC_h (by omega)
    have hfr2 : Fr S10 T (emC (setC U 10 C) 10 D) := by
      unfold emC
      exact ((hfr.sC (by unfold S10; omega) (by unfold S10; omega)).sw (by unfold S10; omega)).sC (by unfold S10; omega) (by unfold S10; omega)
    have hF3 : CF R (emC (setC U 10 C) 10 D) f F := k7.of (fun a h1 h2 => (hfr2 a (by unfold S10; omega)).1)
    have hpl := paS_le k8 (J := wh (F 2) (D.2 2)) (A := brl F D.2 p)
    rw [hE]
    simp only [lt, nI_1]
    by_cases e2 : D.2 (4 + p) < 2
    · rw [if_pos e2]
      refine hr (q - 1) _ _ _ (by omega) ⟨i + 1, rfl, by omega, hfr2, ?_⟩
      rw [hcs, if_neg]
      rw [hod]
      simp [e2]
    · obtain ⟨g, hg⟩ := c_asTheyAre (c := 10) k4 (by omega) hF3 k8 (by decide) (C := D.2) (fun k hk => by unfold emC; exact setC_c hk) hp
      rw [if_neg e2, k2, hg, bd2_some]
      simp (disch := omega) only [eq_lit]
      by_cases e3 : paS F (wh (F 2) (D.2 2)) (brl F D.2 p) = 1
      · rw [if_pos e3]
        refine hr (q - 1) _ _ _ (by omega) ⟨i + 1, rfl, by omega, hfr2.sN (by unfold S10; omega), ?_⟩
        rw [hcs, if_pos]
        rw [hod]
        simp [e2, e3]
      · rw [if_neg e3]
        refine hr (q - 1) _ _ _ (by omega) ⟨i + 1, rfl, by omega, hfr2.sN (by unfold S10; omega), ?_⟩
        rw [hcs, if_neg]
        rw [hod]
        simp [e2, e3]
  · have ei : i = m := by omega
    subst ei
    rw [if_pos (nI_le (Nat.le_refl _) (by omega))]
    exact ⟨U, rfl, hfr⟩
theorem m_odds1 {R : Rf} {T : Mm} {F : Nat → Nat} {C : Nat → Int32} {n : Nat} {H : Nat → Nat → Int32} (l : LQ R T F C n H) {p d m : Nat} (hp : p < F 0) (hm1 : 1 ≤ m) (hm : m ≤ 30) (hd : d ≤ 400) (ed : C 0 = nI d) (seed : Int32) : ∃ V, pX12_odds R T 105 (nI p) (nI m) seed = some (nI (cnt (odc F C d p seed) m), V) ∧ MC V (F 2) C ∧ FA T V ∧ V.1 112 = T.1 112 ∧ V.1 105 23 = T.1 105 23 := by
  obtain ⟨l1, l2, l3, l4, l5, l6⟩ := id l
  have l0 := l1.sw (a := 105) (k := 0) (v := 0) (by decide)
  have v0 := l0.2.2.1.1
  have r22 : R 105 22 = 113 := l4
  unfold pX12_odds
  simp only [lt]
  rw [l0.isP1 hp, bd1_some, if10, m_isInG, if_pos (show (1 : Int32) ≤ nI m ∧ nI m ≤ 30 from ⟨nI_le (a := 1) hm1 (by omega), nI_le (b := 30) hm (by decide)⟩), bd1_some, if10]
  have htr : pX12_tries R (wI T 105 0 0) 105 = some (cpR (wI T 105 0 0) 113 0 107 80 9) := by
    unfold pX12_tries
    refine zl2_copy (f := pX12_tries_2 R 105 (pX12_tries_29 R 105)) (wI T 105 0 0) 113 0 107 80 9 (fun V => some V) (by decide) (by omega) ?_ ?_
    · intro r V i hV hi
      unfold pX12_tries_2
      simp (disch := omega) only [lt, jn, bd1_some, bd2_some, ix_nI, ix_lit, nI_clamp, lit_clamp, lit_add, add_lit, nI_add, nI_leI, nI_ltI, nI_eq, lit_le, le_lit, lit_lt, lt_lit, lit_eq, eq_lit, if_pos, if_neg, l1.1, r22, Nat.zero_add]
    · intro r V
      unfold pX12_tries_2
      rw [if_pos (by decide)]
      rfl
  rw [htr, bd1_some]
  have hb0 : ∀ i, i < 9 → (cpR (wI T 105 0 0) 113 0 107 80 9).1 113 i = r9 (F 2) C i := fun i hi => by
    have := cpR_s (T := wI T 105 0 0) (a := 113) (i0 := 0) (b := 107) (j0 := 80) (n := 9) hi
    rw [Nat.zero_add] at this
    rw [this]
    exact l0.2.2.2.2.row i hi
  have f0 : FA T (cpR (wI T 105 0 0) 113 0 107 80 9) := FA.w0.trans ⟨fun a _ _ _ h4 => cpR_o h4, fun k _ _ _ => by rw [cpR_o (by decide)], fun k _ => by rw [cpR_o (by decide)], rfl⟩
  refine zl3_wp (f := pX12_odds_35 R 105 (nI p) (nI m) seed (pX12_odds_89 R 105 (nI p) (nI m) seed)) (P := fun q U x4 x5 => ∃ i, x5 = nI i ∧ i + q = m ∧ FA T U ∧ MC U (F 2) C ∧ (∀ i, i < 9 → U.1 113 i = r9 (F 2) C i) ∧ U.1 112 = T.1 112 ∧ U.1 105 23 = T.1 105 23 ∧ x4 = nI (cnt (odc F C d p seed) i)) (Q := fun z => ∃ V, z = some (nI (cnt (odc F C d p seed) m), V) ∧ MC V (F 2) C ∧ FA T V ∧ V.1 112 = T.1 112 ∧ V.1 105 23 = T.1 105 23) ?_ FU m _ 0 0 (by rw [FU_eq]; omega) ⟨0, rfl, by omega, f0, l0.2.2.2.2.of (fun k _ _ => by rw [cpR_o (by decide)]), hb0, by rw [cpR_o (by decide), wI_1, up2_row (by decide)], by rw [cpR_o (by decide), wI_n (Or.inr (by decide))], rfl⟩
  rintro q r U x4 x5 ⟨i, rfl, hi, hfa, hmc, h113, h112, h23, rfl⟩ hr
  have lU : LV R U F C := ⟨l1.1, fun k hk => by rw [hfa.2.2.1 k (Or.inl hk)]; exact l1.2.1 k hk, l1.2.2.1, l1.2.2.2.1, hmc⟩
  unfold pX12_odds_35 pX12_odds_89
  by_cases e : i < m
  · have hdr := m_draws lU (n := 20) (by decide) hd ed (seed + nI i)
    rw [if_neg (nI_ge e (by omega)), show (20 : Int32) = nI 20 from rfl, hdr, bd2_some]
    have hcs := cnt_succ (odc F C d p seed) i
    have hok1 : VC F (drS F (min 20 (400 - d)) (seed + nI i, C)).2 := (drS_ok l1.2.2.1 (min 20 (400 - d)) 0 d (seed + nI i, C) l1.2.2.2.1 ed (by omega)).1
    generalize hD : (drS F (min 20 (400 - d)) (seed + nI i, C)) = D at *
    have hod : odc F C d p seed i = (!decide (D.2 (4 + p) < 2) && decide (paS F (wh (F 2) (D.2 2)) (brl F D.2 p) = 1)) := by
      unfold odc
      rw [hD]
    have lE : LV R (emM U (F 2) D) F D.2 := by
      refine ⟨l1.1, ?_, l1.2.2.1, hok1, MC.sM⟩
      exact (lU.2.1.sw (by decide)).sM
    have hback : pX12_back R (emM U (F 2) D) 105 = some (setM (wI U 105 36 D.1) (F 2) C) := by
      unfold pX12_back
      rw [zl2_copy (f := pX12_back_2 R 105 (pX12_back_29 R 105)) (emM U (F 2) D) 107 80 113 0 9 (fun V => some V) (by decide) (by omega) ?_ ?_]
      · rw [cpR_M (n := F 2) (C := C) (by decide) (fun i hi => by
          rw [Nat.zero_add]
          unfold emM
          rw [setM_o (by decide), wI_n (Or.inl (by decide))]
          exact h113 i hi)]
        unfold emM
        rw [setM_setM]
      · intro r V i hV hi
        unfold pX12_back_2
        simp (disch := omega) only [lt, jn, bd1_some, bd2_some, ix_nI, ix_lit, nI_clamp, lit_clamp, lit_add, add_lit, nI_add, nI_leI, nI_ltI, nI_eq, lit_le, le_lit, lit_lt, lt_lit, lit_eq, eq_lit, if_pos, if_neg, l1.1, r22, Nat.zero_add]
      · intro r V
        unfold pX12_back_2
        rw [if_pos (by decide)]
        rfl
    have hpl := paS_le l1.2.2.1 (J := wh (F 2) (D.2 2)) (A := brl F D.2 p)
    have go : ∀ x4', x4' = nI (cnt (odc F C d p seed) (i + 1)) → ∃ V, r (setM (wI U 105 36 D.1) (F 2) C) x4' (nI (i + 1)) = some (nI (cnt (odc F C d p seed) m), V) ∧ MC V (F 2) C ∧ FA T V ∧ V.1 112 = T.1 112 ∧ V.1 105 23 = T.1 105 23 := by
      intro x4' hx
      refine hr (q - 1) _ _ _ (by omega) ⟨i + 1, rfl, by omega, (hfa.trans FA.w36).trans FA.sM, MC.sM, fun i hi => ?_, ?_, ?_, hx⟩
      · rw [setM_o (by decide), wI_n (Or.inl (by decide))]
        exact h113 i hi
      · rw [setM_o (by decide), wI_1, up2_row (by decide)]
        exact h112
      · rw [setM_o (by decide), wI_n (Or.inr (by decide))]
        exact h23
    rw [lE.isDown (by omega), bd1_some]
    unfold pX12_odds_75 pX12_odds_76
    simp only [lt]
    by_cases e2 : D.2 (4 + p) < 2
    · rw [if_pos e2, if00, hback, bd1_some, nI_1]
      apply go
      rw [hcs, if_neg, Int32.add_zero]
      rw [hod]
      simp [e2]
    · rw [if_neg e2, if10, lE.partsNow (by omega), bd1_some]
      simp (disch := omega) only [eq_lit]
      by_cases e3 : paS F (wh (F 2) (D.2 2)) (brl F D.2 p) = 1
      · rw [if_pos e3, hback, bd1_some, nI_1, nI_1]
        apply go
        rw [hcs, if_pos]
        rw [hod]
        simp [e2, e3]
      · rw [if_neg e3, hback, bd1_some, nI_1]
        apply go
        rw [hcs, if_neg, Int32.add_zero]
        rw [hod]
        simp [e2, e3]
  · have ei : i = m := by omega
    subst ei
    rw [if_pos (nI_le (Nat.le_refl _) (by omega))]
    exact ⟨U, rfl, hmc, hfa, h112, h23⟩
theorem k_odds {R : Rf} {T T' : Mm} {f : Nat} {F : Nat → Nat} {C : Nat → Int32} {n fs : Nat} {H : Nat → Nat → Int32} (k : KQ R T f F C n fs H) (l : LQ R T' F C n H) (x y seed : Int32) : ∃ a T1 V, pX11_odds R T 0 x y seed = some (a, T1) ∧ pX12_odds R T' 105 x y seed = some (a, V) ∧ OUT F T T1 T' V C n H := by
  obtain ⟨hk, hp, q2, q3, q10, q7, hR⟩ := id k
  obtain ⟨k1, k2, k3, k4, k5, k6, k7, k8, k9, k10⟩ := id hk
  obtain ⟨l1, l2, l3, l4, l5, l6⟩ := id l
  have l0 := l1.sw (a := 105) (k := 0) (v := 0) (by decide)
  obtain ⟨d, hd, ed⟩ := k10.1
  by_cases e : ∃ p, p < F 0 ∧ x = nI p
  · obtain ⟨p, hp', rfl⟩ := e
    by_cases e2 : (1 : Int32) ≤ y ∧ y ≤ 30
    · obtain ⟨m, hm1, hm2, rfl⟩ := nI_between (a := 1) (b := 30) (by decide) (by decide) e2.1 e2.2
      obtain ⟨T1, t1, t2⟩ := c_odds1 k hp' hm1 hm2 hd ed seed
      obtain ⟨V, w1, w2, w3, w4, w5⟩ := m_odds1 l hp' hm1 hm2 hd ed seed
      refine ⟨_, T1, V, t1, w1, ⟨fs, k9.fr t2 (by unfold S10; omega) (by unfold S10; omega), hp.of (fun a ha => (t2 a (by unfold S10; omega)).1), t2.mono (fun a ha => by unfold S10 at ha; unfold SA; omega)⟩, w2, ?_, w3, k10, l5, l6⟩
      exact ⟨by rw [w5, l2.1], fun k hk i hi => by rw [w4]; exact l2.2 k hk i hi⟩
    · refine ⟨-1, T, wI T' 105 0 0, ?_, ?_, k.nothing l rfl⟩
      · unfold pX11_odds
        rw [k3, hk.hasP1 hp', bd1_some, if10]
        by_cases z : y < 1
        · rw [if_pos z]
        · rw [if_neg z, if_neg (fun z2 => e2 ⟨Int32.not_lt.mp z, z2⟩)]
      · unfold pX12_odds
        simp only [lt]
        rw [l0.isP1 hp', bd1_some, if10, m_isInG, if_neg e2, bd1_some, if00]
  · refine ⟨-1, T, wI T' 105 0 0, ?_, ?_, k.nothing l rfl⟩
    · unfold pX11_odds
      rw [k3, hk.hasP0 e, bd1_some, if00]
    · unfold pX12_odds
      simp only [lt]
      rw [l0.isP0 e, bd1_some, if00]
