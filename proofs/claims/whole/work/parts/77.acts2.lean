/-! the acts, whole -/
def SA (a : Nat) : Prop := (8 ≤ a ∧ a ≤ 29) ∨ a = 34 ∨ a = 42
def FA (T V : Mm) : Prop := (∀ a, a ≠ 105 → a ≠ 107 → a ≠ 112 → a ≠ 113 → V.1 a = T.1 a) ∧ (∀ k, k ≠ 0 → k ≠ 23 → k ≠ 36 → V.1 105 k = T.1 105 k) ∧ (∀ k, (k < 80 ∨ 89 ≤ k) → V.1 107 k = T.1 107 k) ∧ V.2 = T.2
theorem FA.refl {T : Mm} : FA T T := ⟨fun _ _ _ _ _ => rfl, fun _ _ _ _ => rfl, fun _ _ => rfl, rfl⟩
theorem FA.trans {T U V : Mm} (h : FA T U) (h' : FA U V) : FA T V := ⟨fun a h1 h2 h3 h4 => (h'.1 a h1 h2 h3 h4).trans (h.1 a h1 h2 h3 h4), fun k h1 h2 h3 => (h'.2.1 k h1 h2 h3).trans (h.2.1 k h1 h2 h3), fun k hk => (h'.2.2.1 k hk).trans (h.2.2.1 k hk), h'.2.2.2.trans h.2.2.2⟩
theorem FA.w0 {T : Mm} {v : Int32} : FA T (wI T 105 0 v) := ⟨fun a h1 _ _ _ => by rw [wI_1, up2_row h1], fun k h1 _ _ => wI_n (Or.inr h1), fun k _ => wI_n (Or.inl (by decide)), rfl⟩
theorem FA.w36 {T : Mm} {v : Int32} : FA T (wI T 105 36 v) := ⟨fun a h1 _ _ _ => by rw [wI_1, up2_row h1], fun k _ _ h1 => wI_n (Or.inr h1), fun k _ => wI_n (Or.inl (by decide)), rfl⟩
theorem FP.fa {T V : Mm} (h : FP T V) : FA T V := ⟨fun a h1 _ h3 _ => h.1 a h1 h3, fun k _ h2 _ => h.2.1 k h2, fun k _ => by rw [h.1 107 (by decide) (by decide)], h.2.2⟩
theorem FA.sM {T : Mm} {n : Nat} {C : Nat → Int32} : FA T (setM T n C) := ⟨fun a _ h2 _ _ => setM_o h2, fun k _ _ _ => by rw [setM_o (by decide)], fun k hk => by
  unfold setM
  dsimp only
  rw [if_neg (by omega)], rfl⟩
def KQ (R : Rf) (T : Mm) (f : Nat) (F : Nat → Nat) (C : Nat → Int32) (n fs : Nat) (H : Nat → Nat → Int32) : Prop := KV R T f F C ∧ PP T n fs H ∧ R 0 2 = 10 ∧ R 0 3 = 12 ∧ R 10 4 = 11 ∧ R 0 7 = 42 ∧ RP R
def LQ (R : Rf) (T : Mm) (F : Nat → Nat) (C : Nat → Int32) (n : Nat) (H : Nat → Nat → Int32) : Prop := LV R T F C ∧ PM T n (F 2) H ∧ R 105 21 = 112 ∧ R 105 22 = 113 ∧ n ≤ 8 ∧ ∀ k, k < n → VC F (H k)
/-- what an act leaves -/
def OUT (F : Nat → Nat) (T T1 T' V : Mm) (C' : Nat → Int32) (n' : Nat) (H' : Nat → Nat → Int32) : Prop := (∃ fs', CC T1 8 C' ∧ PP T1 n' fs' H' ∧ Fr SA T T1) ∧ MC V (F 2) C' ∧ PM V n' (F 2) H' ∧ FA T' V ∧ VC F C' ∧ n' ≤ 8 ∧ ∀ k, k < n' → VC F (H' k)
theorem phN_le {n : Nat} (h : n ≤ 8) : phN n ≤ 8 := by
  unfold phN
  by_cases e : n < 8
  · rw [if_pos e]; omega
  · rw [if_neg e]; omega
theorem phH_vc {F : Nat → Nat} {n : Nat} {H : Nat → Nat → Int32} {C : Nat → Int32} (hn : n ≤ 8) (h : ∀ k, k < n → VC F (H k)) (hC : VC F C) : ∀ k, k < phN n → VC F (phH n H C k) := by
  intro k hk
  unfold phN at hk
  unfold phH
  by_cases e : n < 8
  · rw [if_pos e] at hk ⊢
    by_cases e2 : k = n
    · subst e2
      rw [if_pos rfl]; exact hC
    · rw [if_neg e2]; exact h k (by omega)
  · rw [if_neg e] at hk ⊢
    by_cases e2 : k = 7
    · subst e2
      rw [if_pos rfl]; exact hC
    · rw [if_neg e2]; exact h (k + 1) (by omega)
theorem CF.fs {R : Rf} {T T1 : Mm} {f : Nat} {F : Nat → Nat} (h : CF R T f F) (hf : 78 < f) (hfr : Fr SA T T1) : CF R T1 f F := h.of (fun a h1 h2 => (hfr a (by unfold SA; omega)).1)
theorem c_act {R : Rf} {T : Mm} {f : Nat} {F : Nat → Nat} {C C' : Nat → Int32} {n fs : Nat} {H : Nat → Nat → Int32} (k : KQ R T f F C n fs H) {deed on y : Int32} (ha : pX1_attempt R (setC T 10 C) 10 f deed on = some (y, setC T 10 C')) : (y = 0 → ∃ T1 fs', pX11_act R T 0 deed on = some (0, T1) ∧ CC T1 8 C' ∧ PP T1 (phN n) fs' (phH n H C) ∧ Fr SA T T1) ∧ (y ≠ 0 → pX11_act R T 0 deed on = some (y, setC T 10 C')) := by
  obtain ⟨⟨k1, k2, k3, k4, k5, k6, k7, k8, k9, k10⟩, hp, q2, q3, q10, q7, hR⟩ := k
  have hcp : pX1_copy R T 10 8 = some (setC T 10 C) := c_copy q10 k5 (by decide) k9
  unfold pX11_act
  rw [q2, k1, hcp, bd1_some, k3, ha, bd2_some]
  constructor
  · intro y0
    subst y0
    rw [if00, q3]
    have e : ∀ a, a < 10 ∨ 11 < a → (setC T 10 C').1 a = T.1 a := fun a ha => setC_o (by omega) (by omega)
    have hp' : PP (setC T 10 C') n fs H := by
      obtain ⟨h1, h2, h3, h4, h5⟩ := hp
      refine ⟨h1, h2, by rw [e 12 (by omega), h3], by rw [e 12 (by omega), h4], fun k hk => (h5 k hk).of (e _ (by omega)) (e _ (by omega))⟩
    have hC : CC (setC T 10 C') 8 C := k9.of (e 8 (by omega)) (e 9 (by omega))
    obtain ⟨U, fs', hU1, hU2, hU3⟩ := c_push hR k5 hp' hC
    have hU10 : CC U 10 C' := CC.sC.of (hU3 10 (by unfold S12; omega)).1 (hU3 11 (by unfold S12; omega)).1
    rw [hU1, bd1_some, c_copy k5 q10 (by decide) hU10, bd1_some]
    refine ⟨_, fs', rfl, CC.sC, ?_, ?_⟩
    · obtain ⟨h1, h2, h3, h4, h5⟩ := hU2
      have e2 : ∀ a, 10 ≤ a → (setC U 8 C').1 a = U.1 a := fun a ha => setC_o (by omega) (by omega)
      exact ⟨h1, h2, by rw [e2 12 (by omega), h3], by rw [e2 12 (by omega), h4], fun k hk => (h5 k hk).of (e2 _ (by omega)) (e2 _ (by omega))⟩
    · exact ((Fr.refl.sC (by unfold SA; omega) (by unfold SA; omega)).trans (hU3.mono (fun a ha => by unfold S12 at ha; unfold SA; omega))).sC (by unfold SA; omega) (by unfold SA; omega)
  · intro y0
    rw [if_neg y0]
theorem KQ.no {R : Rf} {T T' V : Mm} {f : Nat} {F : Nat → Nat} {C C' : Nat → Int32} {n fs : Nat} {H : Nat → Nat → Int32} (k : KQ R T f F C n fs H) (l : LQ R T' F C n H) (hV : V = wI T' 105 0 0) : OUT F T (setC T 10 C') T' V C n H := by
  obtain ⟨⟨k1, k2, k3, k4, k5, k6, k7, k8, k9, k10⟩, hp, q2, q3, q10, q7, hR⟩ := k
  obtain ⟨l1, l2, l3, l4, l5, l6⟩ := l
  subst hV
  have e : ∀ a, a < 10 ∨ 11 < a → (setC T 10 C').1 a = T.1 a := fun a ha => setC_o (by omega) (by omega)
  obtain ⟨h1, h2, h3, h4, h5⟩ := hp
  refine ⟨⟨fs, k9.of (e 8 (by omega)) (e 9 (by omega)), ⟨h1, h2, by rw [e 12 (by omega), h3], by rw [e 12 (by omega), h4], fun k hk => (h5 k hk).of (e _ (by omega)) (e _ (by omega))⟩, Fr.refl.sC (by unfold SA; omega) (by unfold SA; omega)⟩, (l1.sw (by decide)).2.2.2.2, ?_, FA.w0, k10, l5, l6⟩
  exact ⟨by rw [wI_n (Or.inr (by decide)), l2.1], fun k hk i hi => by rw [wI_n (Or.inl (by decide))]; exact l2.2 k hk i hi⟩
theorem KQ.nothing {R : Rf} {T T' V : Mm} {f : Nat} {F : Nat → Nat} {C : Nat → Int32} {n fs : Nat} {H : Nat → Nat → Int32} (k : KQ R T f F C n fs H) (l : LQ R T' F C n H) (hV : V = wI T' 105 0 0) : OUT F T T T' V C n H := by
  obtain ⟨⟨k1, k2, k3, k4, k5, k6, k7, k8, k9, k10⟩, hp, q2, q3, q10, q7, hR⟩ := k
  obtain ⟨l1, l2, l3, l4, l5, l6⟩ := l
  subst hV
  refine ⟨⟨fs, k9, hp, Fr.refl⟩, (l1.sw (by decide)).2.2.2.2, ?_, FA.w0, k10, l5, l6⟩
  exact ⟨by rw [wI_n (Or.inr (by decide)), l2.1], fun k hk i hi => by rw [wI_n (Or.inl (by decide))]; exact l2.2 k hk i hi⟩
/-- the reference stores, then does -/
theorem LQ.stores {R : Rf} {T : Mm} {F : Nat → Nat} {C : Nat → Int32} {n : Nat} {H : Nat → Nat → Int32} (l : LQ R T F C n H) : ∃ U, pX12_stores R (wI T 105 0 0) 105 = some U ∧ MF U F ∧ setM U (F 2) C = U ∧ PM U (phN n) (F 2) (phH n H C) ∧ FA T U := by
  obtain ⟨l1, l2, l3, l4, l5, l6⟩ := l
  have l0 := l1.sw (a := 105) (k := 0) (v := 0) (by decide)
  have hpm : PM (wI T 105 0 0) n (F 2) H := ⟨by rw [wI_n (Or.inr (by decide)), l2.1], fun k hk i hi => by rw [wI_n (Or.inl (by decide))]; exact l2.2 k hk i hi⟩
  obtain ⟨U, hU1, hU2, hU3⟩ := m_stores l1.1 l3 l5 hpm l0.2.2.2.2
  have lU := l0.fr (hU3.1 107 (by decide) (by decide))
  exact ⟨U, hU1, lU.2.1, lU.2.2.2.2.self, hU2, FA.w0.trans hU3.fa⟩
theorem PM.sM {T : Mm} {n N m : Nat} {H : Nat → Nat → Int32} {C : Nat → Int32} (h : PM T n N H) : PM (setM T m C) n N H := ⟨by rw [setM_o (by decide), h.1], fun k hk i hi => by rw [setM_o (by decide)]; exact h.2 k hk i hi⟩
theorem LQ.done {R : Rf} {T U : Mm} {F : Nat → Nat} {C C' : Nat → Int32} {n : Nat} {H : Nat → Nat → Int32} (l : LQ R T F C n H) (hpm : PM U (phN n) (F 2) (phH n H C)) (hfa : FA T U) (hC' : VC F C') : MC (setM U (F 2) C') (F 2) C' ∧ PM (setM U (F 2) C') (phN n) (F 2) (phH n H C) ∧ FA T (setM U (F 2) C') ∧ VC F C' ∧ phN n ≤ 8 ∧ ∀ k, k < phN n → VC F (phH n H C k) := ⟨MC.sM, hpm.sM, hfa.trans FA.sM, hC', phN_le l.2.2.2.2.1, phH_vc l.2.2.2.2.1 l.2.2.2.2.2 l.1.2.2.2.1⟩
theorem c_go {R : Rf} {T : Mm} {f : Nat} {F : Nat → Nat} {C : Nat → Int32} {n fs : Nat} {H : Nat → Nat → Int32} (k : KQ R T f F C n fs H) {i : Nat} (hi : i < F 0) : pX11_go R T 0 (nI i) = bd2 (pX11_act R T 0 5 (nI i)) (fun u2 T2 => some (u2, T2)) ∧ pX1_attempt R (setC T 10 C) 10 f 5 (nI i) = some ((goS F C i).1, setC T 10 (goS F C i).2) := by
  obtain ⟨hk, hp, q2, q3, q10, q7, hR⟩ := k
  obtain ⟨k1, k2, k3, k4, k5, k6, k7, k8, k9, k10⟩ := id hk
  have v0 := k8.1
  constructor
  · unfold pX11_go
    rw [k3, hk.hasP1 hi, bd1_some, if10]
  · unfold pX1_attempt
    rw [if_neg (show ¬ (5 : Int32) = 0 by decide), if_neg (show ¬ (5 : Int32) = 1 by decide), if_neg (show ¬ (5 : Int32) = 2 by decide), if_neg (show ¬ (5 : Int32) = 3 by decide), if_neg (show ¬ (5 : Int32) = 4 by decide), if_pos rfl, c_letGo k7 k8 q10 (by omega) hi C, bd2_some]
theorem c_free {R : Rf} {T : Mm} {f : Nat} {F : Nat → Nat} {C : Nat → Int32} {n fs : Nat} {H : Nat → Nat → Int32} (k : KQ R T f F C n fs H) {i : Nat} (hi : i < F 0) : pX11_free R T 0 (nI i) = bd2 (pX11_act R T 0 6 (nI i)) (fun u2 T2 => some (u2, T2)) ∧ pX1_attempt R (setC T 10 C) 10 f 6 (nI i) = some ((frS C i).1, setC T 10 (frS C i).2) := by
  obtain ⟨hk, hp, q2, q3, q10, q7, hR⟩ := k
  obtain ⟨k1, k2, k3, k4, k5, k6, k7, k8, k9, k10⟩ := id hk
  have v0 := k8.1
  constructor
  · unfold pX11_free
    rw [k3, hk.hasP1 hi, bd1_some, if10]
  · unfold pX1_attempt
    rw [if_neg (show ¬ (6 : Int32) = 0 by decide), if_neg (show ¬ (6 : Int32) = 1 by decide), if_neg (show ¬ (6 : Int32) = 2 by decide), if_neg (show ¬ (6 : Int32) = 3 by decide), if_neg (show ¬ (6 : Int32) = 4 by decide), if_neg (show ¬ (6 : Int32) = 5 by decide), if_pos rfl, c_letOut q10 (by omega) C, bd2_some]
theorem c_unload {R : Rf} {T : Mm} {f : Nat} {F : Nat → Nat} {C : Nat → Int32} {n fs : Nat} {H : Nat → Nat → Int32} (k : KQ R T f F C n fs H) {i : Nat} (hi : i < F 1) : pX11_unload R T 0 (nI i) = bd2 (pX11_act R T 0 7 (nI i)) (fun u2 T2 => some (u2, T2)) ∧ pX1_attempt R (setC T 10 C) 10 f 7 (nI i) = some ((unS F C i).1, setC T 10 (unS F C i).2) := by
  obtain ⟨hk, hp, q2, q3, q10, q7, hR⟩ := k
  obtain ⟨k1, k2, k3, k4, k5, k6, k7, k8, k9, k10⟩ := id hk
  have v0 := k8.1
  constructor
  · unfold pX11_unload
    rw [k3, hk.hasI1 hi, bd1_some, if10]
  · unfold pX1_attempt
    rw [if_neg (show ¬ (7 : Int32) = 0 by decide), if_neg (show ¬ (7 : Int32) = 1 by decide), if_neg (show ¬ (7 : Int32) = 2 by decide), if_neg (show ¬ (7 : Int32) = 3 by decide), if_neg (show ¬ (7 : Int32) = 4 by decide), if_neg (show ¬ (7 : Int32) = 5 by decide), if_neg (show ¬ (7 : Int32) = 6 by decide), if_pos rfl, c_takeOut k7 k8 q10 (by omega) hi C, bd2_some]
theorem c_load {R : Rf} {T : Mm} {f : Nat} {F : Nat → Nat} {C : Nat → Int32} {n fs : Nat} {H : Nat → Nat → Int32} (k : KQ R T f F C n fs H) {i : Nat} (hi : i < F 1) : pX11_load R T 0 (nI i) = bd2 (pX11_act R T 0 8 (nI i)) (fun u2 T2 => some (u2, T2)) ∧ pX1_attempt R (setC T 10 C) 10 f 8 (nI i) = some ((ldS F C i).1, setC T 10 (ldS F C i).2) := by
  obtain ⟨hk, hp, q2, q3, q10, q7, hR⟩ := k
  obtain ⟨k1, k2, k3, k4, k5, k6, k7, k8, k9, k10⟩ := id hk
  have v0 := k8.1
  constructor
  · unfold pX11_load
    rw [k3, hk.hasI1 hi, bd1_some, if10]
  · unfold pX1_attempt
    rw [if_neg (show ¬ (8 : Int32) = 0 by decide), if_neg (show ¬ (8 : Int32) = 1 by decide), if_neg (show ¬ (8 : Int32) = 2 by decide), if_neg (show ¬ (8 : Int32) = 3 by decide), if_neg (show ¬ (8 : Int32) = 4 by decide), if_neg (show ¬ (8 : Int32) = 5 by decide), if_neg (show ¬ (8 : Int32) = 6 by decide), if_neg (show ¬ (8 : Int32) = 7 by decide), if_pos rfl, c_putIn k7 k8 q10 (by omega) hi C, bd2_some]
theorem c_bind {R : Rf} {T : Mm} {f : Nat} {F : Nat → Nat} {C : Nat → Int32} {n fs : Nat} {H : Nat → Nat → Int32} (k : KQ R T f F C n fs H) {i : Nat} (hi : i < F 2) : pX11_bind R T 0 (nI i) = bd2 (pX11_act R T 0 9 (nI i)) (fun u2 T2 => some (u2, T2)) ∧ pX1_attempt R (setC T 10 C) 10 f 9 (nI i) = some ((bdS F C i).1, setC T 10 (bdS F C i).2) := by
  obtain ⟨hk, hp, q2, q3, q10, q7, hR⟩ := k
  obtain ⟨k1, k2, k3, k4, k5, k6, k7, k8, k9, k10⟩ := id hk
  have v0 := k8.1
  constructor
  · unfold pX11_bind
    rw [k3, hk.hasJ1 hi, bd1_some, if10]
  · unfold pX1_attempt
    rw [if_neg (show ¬ (9 : Int32) = 0 by decide), if_neg (show ¬ (9 : Int32) = 1 by decide), if_neg (show ¬ (9 : Int32) = 2 by decide), if_neg (show ¬ (9 : Int32) = 3 by decide), if_neg (show ¬ (9 : Int32) = 4 by decide), if_neg (show ¬ (9 : Int32) = 5 by decide), if_neg (show ¬ (9 : Int32) = 6 by decide), if_neg (show ¬ (9 : Int32) = 7 by decide), if_neg (show ¬ (9 : Int32) = 8 by decide), c_makeWhole k7 k8 q10 (by omega) hi C, bd2_some]
