/-! HEIGHTS: the class's table -/
theorem cjS_ne {F : Nat → Nat} (hv : VF F) {b : Int32} {p : Nat} {least : Int32} : ¬ cjS F b p least = -1 := by
  intro z
  have h1 : bt (cjS F b p least) 20 = true := by rw [z]; decide
  have := (bt_lt (by have := hv.2.2.1; omega) h1).1
  have := hv.2.2.1
  omega
def lsH (F : Nat → Nat) (C : Nat → Int32) (p h : Nat) : Int32 := if C (4 + p) < 2 then nI h - nI (F (7 + p)) else 0
theorem pn_cj {F : Nat → Nat} (hv : VF F) {C : Nat → Int32} {p h : Nat} : pnS F C p h = nuS (rc F (cjS F (C 2) p (lsH F C p h)) (brl F C p)) (brl F C p) 10 := (nu_own hv (fun i hi => ⟨(brl_own hv hi).1, (brl_own hv hi).2.1⟩) (fun j hj => cj_fj hv hj)).symm
def S34 (a : Nat) : Prop := a = 34 ∨ (37 ≤ a ∧ a ≤ 41)
theorem Fr.sN {S : Nat → Prop} {T U : Mm} {g : Nat → Int32} (h : Fr S T U) (ha : S 34) : Fr S T (setN U g) := fun b hb => by
  have e : b ≠ 34 := fun z => hb (by rw [z]; exact ha)
  exact ⟨(setN_o e).trans (h b hb).1, (h b hb).2⟩
theorem c_fill {R : Rf} {T : Mm} {f : Nat} {F : Nat → Nat} {C : Nat → Int32} (h : KV R T f F C) (r35 : R 35 0 = 36) (r36 : ∀ p, p < 5 → R 36 p = 37 + p) : ∃ U, pX4_fill R T 35 f 8 33 = some U ∧ Fr S34 T U ∧ ∀ p, p < F 0 → ∀ hh, 1 ≤ hh → hh ≤ 30 → U.1 (37 + p) hh = nI (pnS F C p hh) := by
  obtain ⟨k1, k2, k3, k4, k5, k6, k7, k8, k9, k10⟩ := id h
  have v0 := k8.1
  unfold pX4_fill
  refine zl2_wp (f := pX4_fill_3 R 35 f 8 33 (pX4_fill_120 R 35 f 8 33)) (P := fun m U x => ∃ p, x = nI p ∧ p + m = F 0 ∧ Fr S34 T U ∧ ∀ p', p' < p → ∀ hh, 1 ≤ hh → hh ≤ 30 → U.1 (37 + p') hh = nI (pnS F C p' hh)) (Q := fun z => ∃ U, z = some U ∧ Fr S34 T U ∧ ∀ p, p < F 0 → ∀ hh, 1 ≤ hh → hh ≤ 30 → U.1 (37 + p) hh = nI (pnS F C p hh)) ?_ FU (F 0) T 0 (by rw [FU_eq]; omega) ⟨0, rfl, by omega, Fr.refl, fun p hp => by omega⟩
  rintro m r U x ⟨p, rfl, hp, hfr, hd⟩ hr
  have kU : ∀ V, Fr S34 T V → KV R V f F C := fun V hV => h.fr (hV 8 (by unfold S34; omega)).1 (hV 9 (by unfold S34; omega)).1 (fun a h1 h2 => (hV a (by unfold S34; omega)).1)
  obtain ⟨_, _, _, _, _, _, u7, _, u9, _⟩ := kU U hfr
  unfold pX4_fill_3 pX4_fill_120
  rw [u7.2.1]
  by_cases hpn : p < F 0
  · rw [if_neg (nI_ge hpn (by omega)), c_itemsOfS u7 k8 (by omega), bd1_some, u9.1 1 (by decide), Int32.and_comm, show ofS F p &&& C 1 = brl F C p from rfl]
    simp only [lt]
    refine zl5_wp (f := pX4_fill_31 R 35 f 8 33 (pX4_fill_114 R 35 f 8 33 r (fun T => some T))) (P := fun m2 V x4 x5 x6 x7 => x4 = nI p ∧ x5 = brl F C p ∧ ∃ hh, x7 = nI hh ∧ 1 ≤ hh ∧ hh + m2 = 31 ∧ Fr S34 T V ∧ (∀ p', p' < p → ∀ q, 1 ≤ q → q ≤ 30 → V.1 (37 + p') q = nI (pnS F C p' q)) ∧ (∀ q, 1 ≤ q → q < hh → V.1 (37 + p) q = nI (pnS F C p q)) ∧ ((hh = 1 ∧ x6 = -1) ∨ (1 < hh ∧ x6 = cjS F (C 2) p (lsH F C p (hh - 1))))) (Q := fun z => ∃ U, z = some U ∧ Fr S34 T U ∧ ∀ p, p < F 0 → ∀ hh, 1 ≤ hh → hh ≤ 30 → U.1 (37 + p) hh = nI (pnS F C p hh)) ?_ FU 30 U _ _ (-1) 1 (by rw [FU_eq]; omega) ⟨rfl, rfl, 1, rfl, by omega, by omega, hfr, hd, fun q h1 h2 => by omega, Or.inl ⟨rfl, rfl⟩⟩
    rintro m2 r2 V x4 x5 x6 x7 ⟨rfl, rfl, hh, rfl, hh1, hm2, hfV, hd1, hd2, hx6⟩ hr2
    obtain ⟨_, _, _, _, _, _, w7, _, w9, _⟩ := kU V hfV
    unfold pX4_fill_31 pX4_fill_114
    by_cases h31 : hh < 31
    · have hJ : pX1_holdingAt R V 8 f (nI p) (nI hh) = some (cjS F (C 2) p (lsH F C p hh)) := c_holdingAt w7 k8 k5 w9.1 w9.2 hpn (nI hh)
      rw [if_neg (show ¬ (30 : Int32) < nI hh from nI_nlt (a := 30) (by omega) (by decide)), hJ, bd1_some]
      have r36p := r36 p (by omega)
      by_cases e : cjS F (C 2) p (lsH F C p hh) = x6
      · rw [if_pos e]
        rcases hx6 with ⟨_, rfl⟩ | ⟨h1, rfl⟩
        · exact absurd e (cjS_ne k8)
        · have hpm : nI hh - 1 = nI (hh - 1) := pk_sub (b := 1) (by omega)
          rw [hpm]
          simp (disch := omega) only [lt, jn, bd1_some, bd2_some, ix_nI, ix_lit, nI_clamp, lit_clamp, lit_add, add_lit, nI_add, nI_leI, nI_ltI, nI_eq, lit_le, le_lit, lit_lt, lt_lit, lit_eq, eq_lit, if_pos, if_neg, r35, r36p]
          have hpn2 : pnS F C p hh = pnS F C p (hh - 1) := by rw [pn_cj k8, pn_cj k8, e]
          refine hr2 (m2 - 1) _ _ _ _ _ (by omega) ⟨rfl, rfl, hh + 1, rfl, by omega, by omega, hfV.sw (by unfold S34; omega), fun p' hp' q h1 h2 => ?_, fun q h1 h2 => ?_, Or.inr ⟨by omega, ?_⟩⟩
          · rw [wI_n (Or.inl (by omega))]
            exact hd1 p' hp' q h1 h2
          · by_cases eq : q = hh
            · subst eq
              rw [wI_s, hd2 (q - 1) (by omega) (by omega), hpn2]
            · rw [wI_n (Or.inr eq)]
              exact hd2 q h1 (by omega)
          · rw [← e]
            rfl
      · rw [if_neg e, c_hold k4 w7 k8 (by omega), bd1_some, c_number k8 k4 (fun k hk => setN_s hk), bd1_some, ← pn_cj k8]
        simp (disch := omega) only [lt, jn, bd1_some, bd2_some, ix_nI, ix_lit, nI_clamp, lit_clamp, lit_add, add_lit, nI_add, nI_leI, nI_ltI, nI_eq, lit_le, le_lit, lit_lt, lt_lit, lit_eq, eq_lit, if_pos, if_neg, r35, r36p]
        refine hr2 (m2 - 1) _ _ _ _ _ (by omega) ⟨rfl, rfl, hh + 1, rfl, by omega, by omega, (hfV.sN (by unfold S34; omega)).sw (by unfold S34; omega), fun p' hp' q h1 h2 => ?_, fun q h1 h2 => ?_, Or.inr ⟨by omega, rfl⟩⟩
        · rw [wI_n (Or.inl (by omega)), setN_o (by omega)]
          exact hd1 p' hp' q h1 h2
        · by_cases eq : q = hh
          · subst eq
            rw [wI_s]
          · rw [wI_n (Or.inr eq), setN_o (by omega)]
            exact hd2 q h1 (by omega)
    · have e : hh = 31 := by omega
      subst e
      rw [if_pos (by decide)]
      simp only [lt, nI_1]
      refine hr (m - 1) _ _ (by omega) ⟨p + 1, rfl, by omega, hfV, fun p' hp' q h1 h2 => ?_⟩
      by_cases ep : p' = p
      · subst ep
        exact hd2 q h1 (by omega)
      · exact hd1 p' (by omega) q h1 h2
  · have e : p = F 0 := by omega
    subst e
    rw [if_pos (nI_le (Nat.le_refl _) (by omega))]
    exact ⟨U, rfl, hfr, hd⟩
