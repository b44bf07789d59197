/-! questions: crack, drops, heaviest, apart, item -/
/-- the first of those that hold least, so far -/
def crS (F : Nat → Nat) (C : Nat → Int32) (p : Nat) : Option Nat := fo (fun j o => if (!bt (C 2) j && decide (F (12 + F (32 + j)) = p)) = true then (match o with | none => some j | some k => if F (64 + k) ≤ F (64 + j) then some k else some j) else o) 0 (F 2) none
theorem oI_some {n : Nat} : oI (some n) = nI n := rfl
theorem oI_none : oI none = (-1 : Int32) := rfl
theorem c_crack1 {R : Rf} {T : Mm} {f : Nat} {F : Nat → Nat} {C : Nat → Int32} (h : KV R T f F C) {p : Nat} (hp : p < F 0) : pX11_crack R T 0 (nI p) = some (oI (crS F C p)) := by
  have hh := h.hasP1 hp
  obtain ⟨k1, k2, k3, k4, k5, k6, k7, k8, k9, k10⟩ := id h
  obtain ⟨v0, v1, v2, v3, v4, v5, v6, vs, vo, vj⟩ := id k8
  unfold pX11_crack
  rw [k3, hh, bd1_some, if_neg (by decide)]
  refine zl2_forI (f := pX11_crack_17 R T 0 (nI p) (pX11_crack_85 R T 0 (nI p))) oI _ (fun o => some (oI o)) (F 2) (fun j o => ∀ k, o = some k → k < j) (by omega) ?_ ?_ ?_ none (fun _ h => by cases h)
  · intro j o hj hP k hk
    by_cases e : (!bt (C 2) j && decide (F (12 + F (32 + j)) = p)) = true
    · rw [if_pos e] at hk
      cases o with
      | none =>
        cases hk
        omega
      | some q =>
        have := hP q rfl
        dsimp only at hk
        by_cases e2 : F (64 + q) ≤ F (64 + j)
        · rw [if_pos e2] at hk
          cases hk
          omega
        · rw [if_neg e2] at hk
          cases hk
          omega
    · rw [if_neg e] at hk
      have := hP k hk
      omega
  · intro r j o hj hP
    have h1 := (vj j hj).1
    have h2 := (vo _ h1).1
    have hn := (vj j hj).2.2.2.2.2
    have ho := bd_owner k7 k8 hj
    obtain ⟨⟨q5, q6, q7, q8, q9, q10, q11, q12⟩, f0, f1, f2, f3, f4, f14, f15, cs, co, cw, ca, cb, ch⟩ := id k7
    unfold pX11_crack_17
    rw [k3, ho, f2, k1, c_isWhole (by omega), k9.1 2 (by decide), q12]
    simp (disch := omega) only [lt, jn, bd1_some, bd2_some, ix_nI, ix_lit, nI_clamp, lit_clamp, lit_add, add_lit, nI_add, nI_leI, nI_ltI, nI_eq, lit_le, le_lit, lit_lt, lt_lit, lit_eq, eq_lit, if_pos, if_neg, ch]
    by_cases e1 : F (12 + F (32 + j)) = p
    · by_cases e2 : bt (C 2) j = false
      · cases o with
        | none => simp [e1, e2, oI_none, oI_some]
        | some k =>
          have hk := hP k rfl
          have hkn := (vj k (by omega)).2.2.2.2.2
          rw [oI_some]
          simp (disch := omega) only [lt, jn, bd1_some, bd2_some, ix_nI, ix_lit, nI_clamp, lit_clamp, lit_add, add_lit, nI_add, nI_leI, nI_ltI, nI_eq, lit_le, le_lit, lit_lt, lt_lit, lit_eq, eq_lit, if_pos, if_neg, ch, ne_m1]
          by_cases e3 : F (64 + k) ≤ F (64 + j)
          · simp [e1, e2, e3, oI_some]
          · simp [e1, e2, e3, oI_some]
      · simp [e1, e2]
    · simp [e1]
  · intro r o _
    unfold pX11_crack_17 pX11_crack_85
    rw [k3, k7.2.2.2.1, if_pos (nI_le (Nat.le_refl _) (by omega))]
theorem m_crack1 {R : Rf} {T : Mm} {F : Nat → Nat} {C : Nat → Int32} (h : LV R T F C) {p : Nat} (hp : p < F 0) : pX12_crack R T 105 (nI p) = some (oI (crS F C p), wI T 105 0 0) := by
  have l := h.sw (a := 105) (k := 0) (v := 0) (by decide)
  unfold pX12_crack
  simp only [lt]
  generalize wI T 105 0 0 = U at *
  obtain ⟨l1, l2, l3, l4, l5⟩ := id l
  obtain ⟨v0, v1, v2, v3, v4, v5, v6, vs, vo, vj⟩ := id l3
  have hm : ∀ k, k < 80 → U.1 107 k = nI (F k) := l2
  rw [l.isP1 hp, bd1_some, if_neg (by decide)]
  refine zl3_fr (f := pX12_crack_19 R 105 (nI p) (pX12_crack_97 R 105 (nI p))) (fun _ => U) oI _ (fun o => some (oI o, U)) 0 (F 2) (fun j o => ∀ k, o = some k → k < j) (by omega) (by omega) ?_ ?_ ?_ none (fun _ h => by cases h)
  · intro j o _ hj hP k hk
    by_cases e : (!bt (C 2) j && decide (F (12 + F (32 + j)) = p)) = true
    · rw [if_pos e] at hk
      cases o with
      | none =>
        cases hk
        omega
      | some q =>
        have := hP q rfl
        dsimp only at hk
        by_cases e2 : F (64 + q) ≤ F (64 + j)
        · rw [if_pos e2] at hk
          cases hk
          omega
        · rw [if_neg e2] at hk
          cases hk
          omega
    · rw [if_neg e] at hk
      have := hP k hk
      omega
  · intro r j o _ hj hP
    have h1 := (vj j hj).1
    have h2 := (vo _ h1).1
    have hn := (vj j hj).2.2.2.2.2
    unfold pX12_crack_19
    simp (disch := omega) only [lt, jn, bd1_some, bd2_some, ix_nI, ix_lit, nI_clamp, lit_clamp, lit_add, add_lit, nI_add, nI_leI, nI_ltI, nI_eq, lit_le, le_lit, lit_lt, lt_lit, lit_eq, eq_lit, if_pos, if_neg, l1, hm, l5.2.2.1, m_bitOfS]
    rw [bt_wh (by omega) (by omega)]
    by_cases e1 : F (12 + F (32 + j)) = p
    · by_cases e2 : bt (C 2) j = false
      · cases o with
        | none => simp [e1, e2, oI_none, oI_some, hj]
        | some k =>
          have hk := hP k rfl
          have hkn := (vj k (by omega)).2.2.2.2.2
          have hneg : ¬ nI k < 0 := nI_pos (by omega)
          rw [oI_some]
          simp (disch := omega) only [lt, jn, bd1_some, bd2_some, ix_nI, ix_lit, nI_clamp, lit_clamp, lit_add, add_lit, nI_add, nI_leI, nI_ltI, nI_eq, lit_le, le_lit, lit_lt, lt_lit, lit_eq, eq_lit, if_pos, if_neg, hm]
          by_cases e3 : F (64 + k) ≤ F (64 + j)
          · simp [e1, e2, e3, oI_some, hj, hneg]
          · simp [e1, e2, e3, oI_some, hj, hneg]
      · simp [e1, e2]
    · by_cases e2 : bt (C 2) j = false
      · simp [e1, e2, hj]
      · simp [e1, e2]
  · intro r o _
    unfold pX12_crack_19 pX12_crack_97
    simp (disch := omega) only [lt, jn, bd1_some, bd2_some, ix_nI, ix_lit, nI_clamp, lit_clamp, lit_add, add_lit, nI_add, nI_leI, nI_ltI, nI_eq, lit_le, le_lit, lit_lt, lt_lit, lit_eq, eq_lit, if_pos, if_neg, l1, hm]
def drc (F : Nat → Nat) (C : Nat → Int32) (p k : Nat) : Bool := decide (nI (wtC F C p) ≤ flS F (C 0 + nI k))
theorem c_drops1 {R : Rf} {T : Mm} {f : Nat} {F : Nat → Nat} {C : Nat → Int32} (h : KV R T f F C) {p : Nat} (hp : p < F 0) : pX11_drops R T 0 (nI p) = some (if C (4 + p) = 1 then oI (fst (drc F C p) 1 99) else -1) := by
  have hh := h.hasP1 hp
  obtain ⟨k1, k2, k3, k4, k5, k6, k7, k8, k9, k10⟩ := id h
  have v0 := k8.1
  unfold pX11_drops
  rw [k3, hh, bd1_some, if_neg (by decide), ix_nI (by omega) (by omega), nI_clamp (by omega), k1, k5, k9.2 p (by omega), c_weight k7 k8 (k9.1 1 (by decide)) (by omega), bd1_some]
  by_cases e : C (4 + p) = 1
  · rw [if_pos e, if_pos e]
    have key := zl2_seekC (f := pX11_drops_41 R T 0 (nI p) (pX11_drops_67 R T 0 (nI p)) (pX11_drops_75 R T 0 (nI p))) (nI (wtC F C p)) (drc F C p) (fun k => some (nI k)) (some (-1)) (n := 100) 1 (by omega) (by omega) ?_ ?_
    · rw [show (1 : Int32) = nI 1 from rfl, key]
      show (fst (drc F C p) 1 99).elim _ _ = _
      cases fst (drc F C p) 1 99 <;> rfl
    · intro r k h1 hk
      unfold pX11_drops_41 pX11_drops_67
      have hfl : pX3_flowOn R T f (C 0 + nI k) = some (flS F (C 0 + nI k)) := by
        rw [c_flowOn]
        obtain ⟨⟨q5, q6, q7, q8, q9, q10, q11, q12⟩, f0, f1, f2, f3, f4, f14, f15, cs, co, cw, ca, cb, ch⟩ := k7
        rw [f4, f14, f15]
        rfl
      rw [if_neg (show ¬ (99 : Int32) < nI k from nI_nlt (a := 99) (by omega) (by decide)), k3, k1, k9.1 0 (by decide), hfl, bd1_some]
      unfold drc
      simp only [lt, nI_1]
      by_cases e2 : flS F (C 0 + nI k) < nI (wtC F C p)
      · rw [if_pos e2, if_neg (by simpa using Int32.not_le.mpr e2)]
      · rw [if_neg e2, if_pos (by simpa using Int32.not_lt.mp e2)]
    · intro r
      unfold pX11_drops_41 pX11_drops_75
      rw [if_pos (by decide)]
  · rw [if_neg e, if_neg e]
theorem m_drops1 {R : Rf} {T : Mm} {F : Nat → Nat} {C : Nat → Int32} (h : LV R T F C) {p : Nat} (hp : p < F 0) : pX12_drops R T 105 (nI p) = some (if C (4 + p) = 1 then oI (fst (drc F C p) 1 99) else -1, wI T 105 0 0) := by
  have l := h.sw (a := 105) (k := 0) (v := 0) (by decide)
  unfold pX12_drops
  simp only [lt]
  generalize wI T 105 0 0 = U at *
  obtain ⟨l1, l2, l3, l4, l5⟩ := id l
  have v0 := l3.1
  rw [l.isP1 hp, bd1_some, if_neg (by decide)]
  simp (disch := omega) only [lt, jn, bd1_some, bd2_some, ix_nI, ix_lit, nI_clamp, lit_clamp, lit_add, add_lit, nI_add, nI_leI, nI_ltI, nI_eq, lit_le, le_lit, lit_lt, lt_lit, lit_eq, eq_lit, if_pos, if_neg, l1, l5.2.2.2.2]
  by_cases e : C (4 + p) = 1
  · rw [if_pos e, if_pos e]
    have key := zl2_seekC (f := pX12_drops_30 R 105 (nI p) (pX12_drops_57 R 105 (nI p)) (pX12_drops_65 R 105 (nI p))) U (drc F C p) (fun k => some (nI k, U)) (some (-1, U)) (n := 100) 1 (by omega) (by omega) ?_ ?_
    · rw [show (1 : Int32) = nI 1 from rfl, key]
      show (fst (drc F C p) 1 99).elim _ _ = _
      cases fst (drc F C p) 1 99 <;> rfl
    · intro r k h1 hk
      unfold pX12_drops_30 pX12_drops_57
      rw [if_neg (show ¬ (99 : Int32) < nI k from nI_nlt (a := 99) (by omega) (by decide)), l.weight (by omega), bd1_some]
      simp (disch := omega) only [lt, jn, bd1_some, bd2_some, ix_nI, ix_lit, nI_clamp, lit_clamp, lit_add, add_lit, nI_add, nI_leI, nI_ltI, nI_eq, lit_le, le_lit, lit_lt, lt_lit, lit_eq, eq_lit, if_pos, if_neg, l1, l5.1, m_flowOnS l1 l2]
      unfold drc
      by_cases e2 : flS F (C 0 + nI k) < nI (wtC F C p)
      · rw [if_pos e2, if_neg (by simpa using Int32.not_le.mpr e2)]
      · rw [if_neg e2, if_pos (by simpa using Int32.not_lt.mp e2)]
    · intro r
      unfold pX12_drops_30 pX12_drops_65
      rw [if_pos (by decide)]
  · rw [if_neg e, if_neg e]
/-- the first of those that weigh most -/
def hvS (F : Nat → Nat) (C : Nat → Int32) : Option Nat := fo (fun p o => match o with | none => some p | some q => if wtC F C p ≤ wtC F C q then some q else some p) 0 (F 0) none
theorem wtC_le {F : Nat → Nat} (hv : VF F) {C : Nat → Int32} {p : Nat} : wtC F C p ≤ 200 := by
  rw [wtC_wtS hv]
  exact wtS_le hv _
theorem hv_lt {F : Nat → Nat} {C : Nat → Int32} {p : Nat} {o : Option Nat} (hP : ∀ k, o = some k → k < p) : ∀ k, (match o with | none => some p | some q => if wtC F C p ≤ wtC F C q then some q else some p) = some k → k < p + 1 := by
  intro k hk
  cases o with
  | none => cases hk; omega
  | some q =>
    have := hP q rfl
    dsimp only at hk
    by_cases e2 : wtC F C p ≤ wtC F C q
    · rw [if_pos e2] at hk; cases hk; omega
    · rw [if_neg e2] at hk; cases hk; omega
theorem c_heaviest {R : Rf} {T : Mm} {f : Nat} {F : Nat → Nat} {C : Nat → Int32} (h : KV R T f F C) : pX11_heaviest R T 0 = some (oI (hvS F C)) := by
  obtain ⟨k1, k2, k3, k4, k5, k6, k7, k8, k9, k10⟩ := id h
  have v0 := k8.1
  have hw : ∀ p, wtC F C p ≤ 200 := fun p => wtC_le k8
  unfold pX11_heaviest
  refine zl3_fr (f := pX11_heaviest_6 R T 0 (pX11_heaviest_48 R T 0)) oI (fun o => match o with | none => -1 | some q => nI (wtC F C q)) _ (fun o => some (oI o)) 0 (F 0) (fun p o => ∀ k, o = some k → k < p) (by omega) (by omega) (fun p o _ _ hP => hv_lt hP) ?_ ?_ none (fun _ h => by cases h)
  · intro r p o _ hp hP
    unfold pX11_heaviest_6
    rw [k3, k7.2.1, if_neg (nI_ge hp (by omega)), k1, c_weight k7 k8 (k9.1 1 (by decide)) (by omega), bd1_some]
    simp only [lt, nI_1]
    cases o with
    | none =>
      have : ¬ nI (wtC F C p) ≤ -1 := fun z => nI_pos (n := wtC F C p) (by have := hw p; omega) (Int32.lt_of_le_of_lt z (by decide))
      rw [if_neg this]
      rfl
    | some q =>
      have h1 := hw p
      have h2 := hw q
      dsimp only
      simp (disch := omega) only [nI_leI]
      by_cases e : wtC F C p ≤ wtC F C q
      · simp only [if_pos e]
      · simp only [if_neg e]
        rfl
  · intro r o _
    unfold pX11_heaviest_6 pX11_heaviest_48
    rw [k3, k7.2.1, if_pos (nI_le (Nat.le_refl _) (by omega))]
theorem m_heaviest {R : Rf} {T : Mm} {F : Nat → Nat} {C : Nat → Int32} (h : LV R T F C) : pX12_heaviest R T 105 = some (oI (hvS F C), wI T 105 0 0) := by
  have l := h.sw (a := 105) (k := 0) (v := 0) (by decide)
  unfold pX12_heaviest
  simp only [lt]
  generalize wI T 105 0 0 = U at *
  obtain ⟨l1, l2, l3, l4, l5⟩ := id l
  have v0 := l3.1
  have hw : ∀ p, wtC F C p ≤ 200 := fun p => wtC_le l3
  have hm : ∀ k, k < 80 → U.1 107 k = nI (F k) := l2
  refine zl3_fr (f := pX12_heaviest_9 R 105 (pX12_heaviest_44 R 105)) (fun _ => U) oI _ (fun o => some (oI o, U)) 0 (F 0) (fun p o => ∀ k, o = some k → k < p) (by omega) (by omega) (fun p o _ _ hP => hv_lt hP) ?_ ?_ none (fun _ h => by cases h)
  · intro r p o _ hp hP
    unfold pX12_heaviest_9
    simp (disch := omega) only [lt, jn, bd1_some, bd2_some, ix_nI, ix_lit, nI_clamp, lit_clamp, lit_add, add_lit, nI_add, nI_leI, nI_ltI, nI_eq, lit_le, le_lit, lit_lt, lt_lit, lit_eq, eq_lit, if_pos, if_neg, l1, hm]
    cases o with
    | none =>
      rw [oI_none, if_pos (by decide)]
      rfl
    | some q =>
      have h1 := hw p
      have h2 := hw q
      have h3 := hP q rfl
      rw [oI_some, if_neg (nI_pos (by omega)), l.weight (by omega), bd1_some, l.weight (by omega), bd1_some]
      simp (disch := omega) only [nI_leI]
      by_cases e : wtC F C p ≤ wtC F C q
      · simp only [if_pos e]
        rfl
      · simp only [if_neg e]
        rfl
  · intro r o _
    unfold pX12_heaviest_9 pX12_heaviest_44
    simp (disch := omega) only [lt, jn, bd1_some, bd2_some, ix_nI, ix_lit, nI_clamp, lit_clamp, lit_add, add_lit, nI_add, nI_leI, nI_ltI, nI_eq, lit_le, le_lit, lit_lt, lt_lit, lit_eq, eq_lit, if_pos, if_neg, l1, hm]
