/-! a BOOK lived -/
def bvS (F : Nat → Nat) (W X : Nat → Nat) : Nat → Nat → (Nat → Int32) → Nat × Int32 × (Nat → Int32)
  | 0, k, C => (k, 0, C)
  | m + 1, k, C => if (lS F C (W k) (X k)).1 = 0 then bvS F W X m (k + 1) (lS F C (W k) (X k)).2 else (k, cdS (W k) (lS F C (W k) (X k)).1, C)
theorem bvS_succ {F : Nat → Nat} {W X : Nat → Nat} {m k : Nat} {C : Nat → Int32} : bvS F W X (m + 1) k C = if (lS F C (W k) (X k)).1 = 0 then bvS F W X m (k + 1) (lS F C (W k) (X k)).2 else (k, cdS (W k) (lS F C (W k) (X k)).1, C) := rfl
theorem bvS_ok {F : Nat → Nat} (hv : VF F) {W X : Nat → Nat} : ∀ (m k : Nat) (C : Nat → Int32), (∀ j, k ≤ j → j < k + m → VL F (W j) (X j)) → VC F C → k ≤ (bvS F W X m k C).1 ∧ (bvS F W X m k C).1 ≤ k + m ∧ VC F (bvS F W X m k C).2.2 ∧ ((bvS F W X m k C).1 = k → (bvS F W X m k C).2.2 = C) ∧ (∃ y : Nat, y ≤ 59 ∧ (bvS F W X m k C).2.1 = nI y)
  | 0, k, C, _, h => ⟨Nat.le_refl _, Nat.le_refl _, h, fun _ => rfl, 0, by omega, rfl⟩
  | m + 1, k, C, hl, h => by
    have hk := hl k (Nat.le_refl _) (by omega)
    have hw : W k ≤ 5 := by rcases hk with q | q | q | q <;> omega
    unfold bvS
    by_cases e : (lS F C (W k) (X k)).1 = 0
    · rw [if_pos e]
      obtain ⟨h1, h2, h3, h4, h5⟩ := bvS_ok hv m (k + 1) (lS F C (W k) (X k)).2 (fun j h1 h2 => hl j (by omega) (by omega)) (lS_vc hv hk h)
      exact ⟨by omega, by omega, h3, fun z => by omega, h5⟩
    · rw [if_neg e]
      refine ⟨Nat.le_refl _, by simp only; omega, h, fun _ => rfl, ?_⟩
      rcases lS_k (F := F) (C := C) (w := W k) (x := X k) with z | ⟨⟨y, y1, y2, y3⟩, _⟩
      · exact absurd z e
      · refine ⟨y + 10 * W k, by omega, ?_⟩
        show cdS (W k) (lS F C (W k) (X k)).1 = _
        unfold cdS
        rw [if_neg e, y3, nI_add]
def BKc (T : Mm) (F : Nat → Nat) (W X : Nat → Nat) (m : Nat) : Prop := m ≤ 40 ∧ T.1 30 1 = nI m ∧ ∀ k, k < m → T.1 31 k = nI (W k + 5) ∧ T.1 32 k = nI (X k) ∧ VL F (W k) (X k)
def BKm (T : Mm) (W X : Nat → Nat) (m : Nat) : Prop := T.1 105 37 = nI m ∧ ∀ k, k < m → T.1 109 (3 * k) = nI (W k) ∧ T.1 109 (3 * k + 1) = nI (X k)
theorem wI_self {T : Mm} {a k : Nat} {v : Int32} (h : T.1 a k = v) : wI T a k v = T := by
  unfold wI up2
  refine Prod.ext ?_ rfl
  funext b j
  dsimp only
  by_cases e : b = a ∧ j = k
  · obtain ⟨rfl, rfl⟩ := e
    rw [if_pos ⟨rfl, rfl⟩, h]
  · rw [if_neg e]
theorem lS_small {F : Nat → Nat} {C : Nat → Int32} {w x : Nat} : ∃ y : Nat, y ≤ 9 ∧ (lS F C w x).1 = nI y := by
  rcases lS_k (F := F) (C := C) (w := w) (x := x) with h | ⟨⟨y, _, h2, h3⟩, _⟩
  · exact ⟨0, by omega, h⟩
  · exact ⟨y, h2, h3⟩
theorem cd_zero {w : Nat} {y : Int32} (hw : w ≤ 5) (h : ∃ k : Nat, k ≤ 9 ∧ y = nI k) : cdS w y = 0 ↔ y = 0 := by
  obtain ⟨k, hk, rfl⟩ := h
  unfold cdS
  by_cases e : nI k = 0
  · rw [if_pos e]; exact ⟨fun _ => e, fun _ => rfl⟩
  · rw [if_neg e, nI_add]
    have e2 : k ≠ 0 := fun z => e (by rw [z]; rfl)
    exact ⟨fun z => absurd z (nI_ne0 (by omega) (by omega)), fun z => absurd z e⟩
theorem c_bookLive {R : Rf} {T : Mm} {f : Nat} {F : Nat → Nat} (hF : CF R T f F) (hv : VF F) (hf : 78 < f) (q10 : R 10 4 = 11) (r2 : R 30 2 = 31) (r3 : R 30 3 = 32) {C : Nat → Int32} (hvc : VC F C) {W X : Nat → Nat} {m : Nat} (hb : BKc T F W X m) : pX0_live R (setC T 10 C) 30 f 10 = some (nI (bvS F W X m 0 C).1, setC (wI T 30 0 (bvS F W X m 0 C).2.1) 10 (bvS F W X m 0 C).2.2) := by
  obtain ⟨b1, b2, b3⟩ := hb
  have hok := bvS_ok hv m 0 C (fun j _ h => (b3 j (by omega)).2.2) hvc
  unfold pX0_live
  refine zl2_wp (f := pX0_live_2 R 30 f 10 (pX0_live_38 R 30 f 10) (pX0_live_46 R 30 f 10)) (P := fun q U x => ∃ i v D, x = nI i ∧ i + q = m ∧ U = setC (wI T 30 0 v) 10 D ∧ VC F D ∧ bvS F W X q i D = bvS F W X m 0 C) (Q := fun z => z = some (nI (bvS F W X m 0 C).1, setC (wI T 30 0 (bvS F W X m 0 C).2.1) 10 (bvS F W X m 0 C).2.2)) ?_ FU m _ 0 (by rw [FU_eq]; omega) ⟨0, T.1 30 0, C, rfl, by omega, by rw [wI_self rfl], hvc, rfl⟩
  rintro q r U x ⟨i, v, D, rfl, hi, rfl, hD, hbv⟩ hr
  have e30 : (setC (wI T 30 0 v) 10 D).1 30 1 = nI m := by rw [setC_o (by decide) (by decide), wI_n (Or.inr (by decide)), b2]
  unfold pX0_live_2 pX0_live_38 pX0_live_46
  rw [e30]
  by_cases him : i < m
  · obtain ⟨g1, g2, g3⟩ := b3 i him
    have e31 : (setC (wI T 30 0 v) 10 D).1 31 i = nI (W i + 5) := by rw [setC_o (by decide) (by decide), wI_n (Or.inl (by decide)), g1]
    have e32 : (setC (wI T 30 0 v) 10 D).1 32 i = nI (X i) := by rw [setC_o (by decide) (by decide), wI_n (Or.inl (by decide)), g2]
    have hw : W i ≤ 5 := by rcases g3 with q | q | q | q <;> omega
    rw [if_neg (nI_ge him (by omega)), ix_nI (by omega) (by decide), ix_nI (by omega) (by decide), nI_clamp (by omega), r2, r3, e31, e32, c_liveLine (hF.sw (by omega)) hv hf q10 hD g3, bd2_some]
    simp only [lt]
    rw [setC_wo (by decide) (by decide), wI_wI, setC_o (by decide) (by decide), wI_s, nI_1]
    obtain ⟨q, rfl⟩ : ∃ q', q = q' + 1 := ⟨q - 1, by omega⟩
    rw [bvS_succ] at hbv
    by_cases e : (lS F D (W i) (X i)).1 = 0
    · rw [if_pos e] at hbv
      rw [if_pos ((cd_zero hw lS_small).mpr e)]
      exact hr q _ _ (by omega) ⟨i + 1, _, _, rfl, by omega, rfl, lS_vc hv g3 hD, hbv⟩
    · rw [if_neg e] at hbv
      have h2 : (lS F D (W i) (X i)).2 = D := by
        rcases lS_k (F := F) (C := D) (w := W i) (x := X i) with z | ⟨_, z⟩
        · exact absurd z e
        · exact z
      rw [if_neg (fun z => e ((cd_zero hw lS_small).mp z)), h2]
      rw [← hbv]
  · have ei : i = m := by omega
    have eq0 : q = 0 := by omega
    subst ei
    subst eq0
    have hbv2 : (i, (0 : Int32), D) = bvS F W X i 0 C := hbv
    rw [if_pos (nI_le (Nat.le_refl _) (by omega))]
    simp only [lt]
    rw [setC_wo (by decide) (by decide), wI_wI, setC_o (by decide) (by decide), wI_n (Or.inr (by decide)), b2, ← hbv2]
theorem m_bookLive {R : Rf} {T : Mm} {F : Nat → Nat} (r6 : R 105 6 = 107) (r8 : R 105 8 = 109) (r38 : R 105 38 = 118) (hM : MF T F) (hv : VF F) {C : Nat → Int32} (hvc : VC F C) {W X : Nat → Nat} {m : Nat} (hm40 : m ≤ 40) (hl : ∀ k, k < m → VL F (W k) (X k)) (hb : BKm T W X m) (h0 : T.1 118 0 = 0) (h1 : T.1 118 1 = 0) (x1 : Int32) (ex : Mm → Int32 → Option (Int32 × Mm)) : zl3 (pX12_book_111 R 105 x1 ex) FU (setM T (F 2) C) (-1) 0 = ex (setM (wI (wI T 118 0 (bvS F W X m 0 C).2.1) 118 1 (nI (bvS F W X m 0 C).1)) (F 2) (bvS F W X m 0 C).2.2) (if (bvS F W X m 0 C).2.1 = 0 then -1 else nI (bvS F W X m 0 C).1) := by
  obtain ⟨b1, b2⟩ := hb
  have hok := bvS_ok hv m 0 C (fun j _ h => hl j (by omega)) hvc
  generalize hB : bvS F W X m 0 C = B at *
  refine zl3_wp (f := pX12_book_111 R 105 x1 ex) (P := fun q U x2 x3 => ∃ i D, i ≤ m ∧ ((x3 = nI i ∧ i + q = m + 1 ∧ x2 = -1 ∧ U = setM (wI (wI T 118 0 0) 118 1 (nI i)) (F 2) D ∧ VC F D ∧ bvS F W X (m - i) i D = B) ∨ (q = 0 ∧ x3 = nI (i + 1) ∧ x2 = nI i ∧ i < m ∧ B.1 = i ∧ B.2.1 ≠ 0 ∧ B.2.2 = D ∧ U = setM (wI (wI T 118 0 B.2.1) 118 1 (nI i)) (F 2) D))) (Q := fun z => z = ex (setM (wI (wI T 118 0 B.2.1) 118 1 (nI B.1)) (F 2) B.2.2) (if B.2.1 = 0 then -1 else nI B.1)) ?_ FU (m + 1) _ (-1) 0 (by rw [FU_eq]; omega) ⟨0, C, by omega, Or.inl ⟨rfl, by omega, rfl, by rw [wI_self h0, wI_self (show T.1 118 1 = nI 0 from h1)], hvc, by rw [Nat.sub_zero]; exact hB⟩⟩
  rintro q r U x2 x3 ⟨i, D, him, hst⟩ hr
  rcases hst with ⟨rfl, hq, rfl, rfl, hD, hbv⟩ | ⟨rfl, rfl, rfl, hlt, hB1, hB2, rfl, rfl⟩
  · have e37 : (setM (wI (wI T 118 0 0) 118 1 (nI i)) (F 2) D).1 105 37 = nI m := by rw [setM_o (by decide), wI_n (Or.inl (by decide)), wI_n (Or.inl (by decide)), b1]
    unfold pX12_book_111
    rw [e37]
    by_cases hlt : i < m
    · obtain ⟨g1, g2⟩ := b2 i hlt
      have e1 : (setM (wI (wI T 118 0 0) 118 1 (nI i)) (F 2) D).1 109 (3 * i) = nI (W i) := by rw [setM_o (by decide), wI_n (Or.inl (by decide)), wI_n (Or.inl (by decide)), g1]
      have e2 : (setM (wI (wI T 118 0 0) 118 1 (nI i)) (F 2) D).1 109 (3 * i + 1) = nI (X i) := by rw [setM_o (by decide), wI_n (Or.inl (by decide)), wI_n (Or.inl (by decide)), g2]
      have hvl := hl i hlt
      have hw : W i ≤ 5 := by rcases hvl with q | q | q | q <;> omega
      rw [if_neg (nI_ge hlt (by omega)), if_neg (show ¬ (0 : Int32) ≤ -1 by decide)]
      simp (disch := omega) only [lt, jn, bd1_some, bd2_some, ix_nI, ix_lit, nI_clamp, lit_clamp, lit_add, add_lit, nI_add, nI_leI, nI_ltI, nI_eq, lit_le, le_lit, lit_lt, lt_lit, lit_eq, eq_lit, if_pos, if_neg, lit_mul, r8, e1, e2]
      rw [m_does r6 ((hM.sw (by decide)).sw (by decide)) hv hD hvl, bd2_some]
      simp (disch := omega) only [lt, jn, bd1_some, bd2_some, ix_nI, ix_lit, nI_clamp, lit_clamp, lit_add, add_lit, nI_add, nI_leI, nI_ltI, nI_eq, lit_le, le_lit, lit_lt, lt_lit, lit_eq, eq_lit, if_pos, if_neg, r38]
      rw [setM_wo (by decide), setM_o (by decide), wI_s]
      have hcomm : ∀ v w : Int32, wI (wI (wI (wI T 118 0 0) 118 1 (nI i)) 118 0 v) 118 1 w = wI (wI T 118 0 v) 118 1 w := by
        intro v w
        unfold wI up2
        refine Prod.ext ?_ rfl
        funext b j
        dsimp only
        by_cases z1 : b = 118 ∧ j = 1
        · simp only [if_pos z1]
        · by_cases z0 : b = 118 ∧ j = 0
          · simp only [if_neg z1, if_pos z0]
          · simp only [if_neg z1, if_neg z0]
      have hsub : m - i = (m - (i + 1)) + 1 := by omega
      rw [hsub] at hbv
      rw [bvS_succ] at hbv
      by_cases e : (lS F D (W i) (X i)).1 = 0
      · rw [if_pos e] at hbv
        have hc0 := (cd_zero hw lS_small).mpr e
        rw [hc0, if_pos (by decide)]
        rw [setM_wo (by decide)]
        have e118 : (wI (wI (wI T 118 0 0) 118 1 (nI i)) 118 0 0).1 118 1 = nI i := by rw [wI_n (Or.inr (by decide)), wI_s]
        rw [e118, nI_1, hcomm]
        exact hr (q - 1) _ _ _ (by omega) ⟨i + 1, _, by omega, Or.inl ⟨rfl, by omega, rfl, rfl, lS_vc hv hvl hD, hbv⟩⟩
      · rw [if_neg e] at hbv
        have h2 : (lS F D (W i) (X i)).2 = D := by
          rcases lS_k (F := F) (C := D) (w := W i) (x := X i) with z | ⟨_, z⟩
          · exact absurd z e
          · exact z
        have hpos : ¬ cdS (W i) (lS F D (W i) (X i)).1 ≤ 0 := by
          obtain ⟨y, y1, y2⟩ := lS_small (F := F) (C := D) (w := W i) (x := X i)
          unfold cdS
          rw [if_neg e, y2, nI_add]
          have : y ≠ 0 := fun z => e (by rw [y2, z]; rfl)
          exact nI_nle (by omega) (by omega)
        rw [if_neg hpos, h2]
        have hB1 : B.1 = i := by rw [← hbv]
        have hB2 : B.2.1 = cdS (W i) (lS F D (W i) (X i)).1 := by rw [← hbv]
        have hB3 : B.2.2 = D := by rw [← hbv]
        refine hr 0 _ _ _ (by omega) ⟨i, D, him, Or.inr ⟨rfl, rfl, rfl, hlt, hB1, ?_, hB3, ?_⟩⟩
        · rw [hB2]
          intro z
          exact e ((cd_zero hw lS_small).mp z)
        · rw [← hB2]
          have hsame : wI (wI (wI T 118 0 0) 118 1 (nI i)) 118 0 B.2.1 = wI (wI T 118 0 B.2.1) 118 1 (nI i) := by
            rw [← hcomm B.2.1 (nI i)]
            exact (wI_self (by rw [wI_n (Or.inr (by decide)), wI_s])).symm
          rw [hsame]
    · have ei : i = m := by omega
      subst ei
      rw [if_pos (nI_le (Nat.le_refl _) (by omega))]
      rw [Nat.sub_self] at hbv
      have hbv2 : (i, (0 : Int32), D) = B := hbv
      rw [← hbv2]
      rfl
  · unfold pX12_book_111
    by_cases z : (setM (wI (wI T 118 0 B.2.1) 118 1 (nI i)) (F 2) B.2.2).1 105 37 ≤ nI (i + 1)
    · rw [if_pos z, if_neg hB2, hB1]
    · rw [if_neg z, if_pos (nI_pos' (by omega)), if_neg hB2, hB1]
